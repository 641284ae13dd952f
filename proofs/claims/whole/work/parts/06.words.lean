theorem bs_t1 : ∀ w ∈ tables_1_1, w ∈ lw_tbl := fun w h => List.mem_append_right _ (List.mem_append_left _ h)
theorem bs_t2 : ∀ w ∈ tables_1_2, w ∈ lw_tbl := fun w h => List.mem_append_right _ (List.mem_append_right _ (List.mem_append_left _ h))
theorem bs_t3 : ∀ w ∈ tables_1_3, w ∈ lw_tbl := fun w h => List.mem_append_right _ (List.mem_append_right _ (List.mem_append_right _ (List.mem_append_left _ h)))
theorem bs_t4 : ∀ w ∈ tables_1_4, w ∈ lw_tbl := fun w h => List.mem_append_right _ (List.mem_append_right _ (List.mem_append_right _ (List.mem_append_right _ (List.mem_append_left _ h))))
theorem bs_t5 : ∀ w ∈ tables_1_5, w ∈ lw_tbl := fun w h => List.mem_append_right _ (List.mem_append_right _ (List.mem_append_right _ (List.mem_append_right _ (List.mem_append_right _ (List.mem_append_left _ h)))))
theorem bs_t6 : ∀ w ∈ tables_1_6, w ∈ lw_tbl := fun w h => List.mem_append_right _ (List.mem_append_right _ (List.mem_append_right _ (List.mem_append_right _ (List.mem_append_right _ (List.mem_append_right _ (List.mem_append_left _ h))))))
theorem bs_t7 : ∀ w ∈ tables_1_7, w ∈ lw_tbl := fun w h => List.mem_append_right _ (List.mem_append_right _ (List.mem_append_right _ (List.mem_append_right _ (List.mem_append_right _ (List.mem_append_right _ (List.mem_append_right _ (List.mem_append_left _ h)))))))
theorem bs_t8 : ∀ w ∈ tables_1_8, w ∈ lw_tbl := fun w h => List.mem_append_right _ (List.mem_append_right _ (List.mem_append_right _ (List.mem_append_right _ (List.mem_append_right _ (List.mem_append_right _ (List.mem_append_right _ (List.mem_append_right _ (h))))))))
theorem bs_ps1 : ∀ q ∈ lw_privs_1, Cond.selects q.1.cls q.1 q.1 ∈ lw_tbl := fun q h => List.mem_append_left _ (List.mem_map.mpr ⟨q, List.mem_append_left _ h, rfl⟩)
theorem bs_ps2 : ∀ q ∈ lw_privs_2, Cond.selects q.1.cls q.1 q.1 ∈ lw_tbl := fun q h => List.mem_append_left _ (List.mem_map.mpr ⟨q, List.mem_append_right _ (List.mem_append_left _ h), rfl⟩)
theorem bs_ps3 : ∀ q ∈ lw_privs_3, Cond.selects q.1.cls q.1 q.1 ∈ lw_tbl := fun q h => List.mem_append_left _ (List.mem_map.mpr ⟨q, List.mem_append_right _ (List.mem_append_right _ (List.mem_append_left _ h)), rfl⟩)
theorem bs_ps4 : ∀ q ∈ lw_privs_4, Cond.selects q.1.cls q.1 q.1 ∈ lw_tbl := fun q h => List.mem_append_left _ (List.mem_map.mpr ⟨q, List.mem_append_right _ (List.mem_append_right _ (List.mem_append_right _ (List.mem_append_left _ h))), rfl⟩)
theorem bs_ps5 : ∀ q ∈ lw_privs_5, Cond.selects q.1.cls q.1 q.1 ∈ lw_tbl := fun q h => List.mem_append_left _ (List.mem_map.mpr ⟨q, List.mem_append_right _ (List.mem_append_right _ (List.mem_append_right _ (List.mem_append_right _ (List.mem_append_left _ h)))), rfl⟩)
theorem bs_ps6 : ∀ q ∈ lw_privs_6, Cond.selects q.1.cls q.1 q.1 ∈ lw_tbl := fun q h => List.mem_append_left _ (List.mem_map.mpr ⟨q, List.mem_append_right _ (List.mem_append_right _ (List.mem_append_right _ (List.mem_append_right _ (List.mem_append_right _ (List.mem_append_left _ h))))), rfl⟩)
theorem bs_ps7 : ∀ q ∈ lw_privs_7, Cond.selects q.1.cls q.1 q.1 ∈ lw_tbl := fun q h => List.mem_append_left _ (List.mem_map.mpr ⟨q, List.mem_append_right _ (List.mem_append_right _ (List.mem_append_right _ (List.mem_append_right _ (List.mem_append_right _ (List.mem_append_right _ (List.mem_append_left _ h)))))), rfl⟩)
theorem bs_ps8 : ∀ q ∈ lw_privs_8, Cond.selects q.1.cls q.1 q.1 ∈ lw_tbl := fun q h => List.mem_append_left _ (List.mem_map.mpr ⟨q, List.mem_append_right _ (List.mem_append_right _ (List.mem_append_right _ (List.mem_append_right _ (List.mem_append_right _ (List.mem_append_right _ (List.mem_append_right _ (h))))))), rfl⟩)
abbrev mX0_init : bs_M := (yX0_init, cX0_init, 1, none)
abbrev mX0_turnTo : bs_M := (yX0_turnTo, cX0_turnTo, 3, none)
abbrev mX0_lengthAt : bs_M := (yX0_lengthAt, cX0_lengthAt, 3, some .int)
abbrev mX0_reach : bs_M := (yX0_reach, cX0_reach, 8, none)
abbrev mX0_ageOneHour : bs_M := (yX0_ageOneHour, cX0_ageOneHour, 9, none)
abbrev mX0_clearLost : bs_M := (yX0_clearLost, cX0_clearLost, 4, none)
abbrev mX0_tellLetters : bs_M := (yX0_tellLetters, cX0_tellLetters, 6, none)
abbrev mX1_init : bs_M := (yX1_init, cX1_init, 1, none)
abbrev mX1_clear : bs_M := (yX1_clear, cX1_clear, 1, none)
abbrev mX1_copy : bs_M := (yX1_copy, cX1_copy, 2, none)
abbrev mX1_hasBalloon : bs_M := (yX1_hasBalloon, cX1_hasBalloon, 2, some .boolean)
abbrev mX1_hasBubble : bs_M := (yX1_hasBubble, cX1_hasBubble, 2, some .boolean)
abbrev mX1_hasPoint : bs_M := (yX1_hasPoint, cX1_hasPoint, 2, some .boolean)
abbrev mX1_allBubbles : bs_M := (yX1_allBubbles, cX1_allBubbles, 1, some .int)
abbrev mX1_endBits : bs_M := (yX1_endBits, cX1_endBits, 2, some .int)
abbrev mX1_startBalloon : bs_M := (yX1_startBalloon, cX1_startBalloon, 2, none)
abbrev mX1_makeBubble : bs_M := (yX1_makeBubble, cX1_makeBubble, 4, none)
abbrev mX1_twistBehind : bs_M := (yX1_twistBehind, cX1_twistBehind, 2, some .boolean)
abbrev mX1_slackBehind : bs_M := (yX1_slackBehind, cX1_slackBehind, 2, some .boolean)
abbrev mX1_twists : bs_M := (yX1_twists, cX1_twists, 3, some .int)
abbrev mX1_slackTwistsUpTo : bs_M := (yX1_slackTwistsUpTo, cX1_slackTwistsUpTo, 4, some .int)
abbrev mX1_oddPoints : bs_M := (yX1_oddPoints, cX1_oddPoints, 3, some .int)
abbrev mX1_burstOf : bs_M := (yX1_burstOf, cX1_burstOf, 6, some .int)
abbrev mX1_needOf : bs_M := (yX1_needOf, cX1_needOf, 5, some .int)
abbrev mX1_bubblesOf : bs_M := (yX1_bubblesOf, cX1_bubblesOf, 4, some .int)
abbrev mX1_moveEnds : bs_M := (yX1_moveEnds, cX1_moveEnds, 4, none)
abbrev mX1_closeUp : bs_M := (yX1_closeUp, cX1_closeUp, 4, none)
abbrev mX1_numberAnew : bs_M := (yX1_numberAnew, cX1_numberAnew, 4, some .int)
abbrev mX1_turnBack : bs_M := (yX1_turnBack, cX1_turnBack, 5, none)
abbrev mX1_turnBalloonBack : bs_M := (yX1_turnBalloonBack, cX1_turnBalloonBack, 8, some .int)
abbrev mX1_joinTwo : bs_M := (yX1_joinTwo, cX1_joinTwo, 9, none)
abbrev mX1_joinedNumber : bs_M := (yX1_joinedNumber, cX1_joinedNumber, 4, some .int)
abbrev mX2_init : bs_M := (yX2_init, cX2_init, 1, none)
abbrev mX2_read : bs_M := (yX2_read, cX2_read, 4, some .int)
abbrev mX2_begin : bs_M := (yX2_begin, cX2_begin, 2, none)
abbrev mX2_takes : bs_M := (yX2_takes, cX2_takes, 3, some .boolean)
abbrev mX2_takesSort : bs_M := (yX2_takesSort, cX2_takesSort, 2, some .boolean)
abbrev mX2_takesDigit : bs_M := (yX2_takesDigit, cX2_takesDigit, 3, some .boolean)
abbrev mX2_makesBubble : bs_M := (yX2_makesBubble, cX2_makesBubble, 2, some .boolean)
abbrev mX2_takesMove : bs_M := (yX2_takesMove, cX2_takesMove, 2, some .boolean)
abbrev mX2_nameHere : bs_M := (yX2_nameHere, cX2_nameHere, 2, none)
abbrev mX2_opens : bs_M := (yX2_opens, cX2_opens, 1, some .boolean)
abbrev mX2_closes : bs_M := (yX2_closes, cX2_closes, 1, some .boolean)
abbrev mX2_endsBalloon : bs_M := (yX2_endsBalloon, cX2_endsBalloon, 1, some .boolean)
abbrev mX2_newPoint : bs_M := (yX2_newPoint, cX2_newPoint, 1, some .int)
abbrev mX2_join : bs_M := (yX2_join, cX2_join, 5, none)
abbrev mX2_renameIn : bs_M := (yX2_renameIn, cX2_renameIn, 5, none)
abbrev mX3_init : bs_M := (yX3_init, cX3_init, 1, none)
abbrev mX3_fewestFor : bs_M := (yX3_fewestFor, cX3_fewestFor, 6, some .int)
abbrev mX3_setAt : bs_M := (yX3_setAt, cX3_setAt, 4, some .int)
abbrev mX3_tellChoices : bs_M := (yX3_tellChoices, cX3_tellChoices, 7, none)
abbrev mX3_hangsTogether : bs_M := (yX3_hangsTogether, cX3_hangsTogether, 6, some .boolean)
abbrev mX3_countFewest : bs_M := (yX3_countFewest, cX3_countFewest, 3, none)
abbrev mX3_fewestOf : bs_M := (yX3_fewestOf, cX3_fewestOf, 7, some .int)
abbrev mX3_keepSets : bs_M := (yX3_keepSets, cX3_keepSets, 6, some .int)
abbrev mX3_lowestSet : bs_M := (yX3_lowestSet, cX3_lowestSet, 5, some .int)
abbrev mX4_init : bs_M := (yX4_init, cX4_init, 1, none)
abbrev mX4_mayCompare : bs_M := (yX4_mayCompare, cX4_mayCompare, 1, some .boolean)
abbrev mX4_matches : bs_M := (yX4_matches, cX4_matches, 3, some .boolean)
abbrev mX4_findRow : bs_M := (yX4_findRow, cX4_findRow, 3, some .boolean)
abbrev mX4_tellKinds : bs_M := (yX4_tellKinds, cX4_tellKinds, 9, none)
abbrev mX4_shortest : bs_M := (yX4_shortest, cX4_shortest, 5, some .int)
abbrev mX4_kindBehind : bs_M := (yX4_kindBehind, cX4_kindBehind, 4, some .int)
abbrev mX4_searchRow : bs_M := (yX4_searchRow, cX4_searchRow, 4, some .boolean)
abbrev mX4_nextFitting : bs_M := (yX4_nextFitting, cX4_nextFitting, 5, some .int)
abbrev mX4_fits : bs_M := (yX4_fits, cX4_fits, 4, some .boolean)
abbrev mX5_init : bs_M := (yX5_init, cX5_init, 1, none)
abbrev mX5_lostWith : bs_M := (yX5_lostWith, cX5_lostWith, 7, some .int)
abbrev mX5_hangsLoose : bs_M := (yX5_hangsLoose, cX5_hangsLoose, 6, some .boolean)
abbrev mX5_countLive : bs_M := (yX5_countLive, cX5_countLive, 4, none)
abbrev mX5_liveEndsOf : bs_M := (yX5_liveEndsOf, cX5_liveEndsOf, 3, some .int)
abbrev mX5_weakestOf : bs_M := (yX5_weakestOf, cX5_weakestOf, 6, some .int)
abbrev mX5_parts : bs_M := (yX5_parts, cX5_parts, 5, some .int)
abbrev mX5_mergeGroups : bs_M := (yX5_mergeGroups, cX5_mergeGroups, 5, none)
abbrev mX5_strokesOf : bs_M := (yX5_strokesOf, cX5_strokesOf, 6, some .int)
abbrev mX5_measure : bs_M := (yX5_measure, cX5_measure, 6, none)
abbrev mX5_shortens : bs_M := (yX5_shortens, cX5_shortens, 4, some .boolean)
abbrev mX5_spanOf : bs_M := (yX5_spanOf, cX5_spanOf, 5, some .int)
abbrev mX5_leastTwice : bs_M := (yX5_leastTwice, cX5_leastTwice, 8, some .int)
abbrev mX6_init : bs_M := (yX6_init, cX6_init, 1, none)
abbrev mX6_copy : bs_M := (yX6_copy, cX6_copy, 2, none)
abbrev mX6_worthBy : bs_M := (yX6_worthBy, cX6_worthBy, 7, some .int)
abbrev mX6_reckon : bs_M := (yX6_reckon, cX6_reckon, 3, some .int)
abbrev mX6_joined : bs_M := (yX6_joined, cX6_joined, 5, some .long)
abbrev mX6_within : bs_M := (yX6_within, cX6_within, 2, some .long)
abbrev mX7_init : bs_M := (yX7_init, cX7_init, 1, none)
abbrev mX7_read : bs_M := (yX7_read, cX7_read, 3, some .int)
abbrev mX7_begin : bs_M := (yX7_begin, cX7_begin, 1, none)
abbrev mX7_takes : bs_M := (yX7_takes, cX7_takes, 2, some .boolean)
abbrev mX7_takesDigit : bs_M := (yX7_takesDigit, cX7_takesDigit, 3, some .boolean)
abbrev mX7_opensUnit : bs_M := (yX7_opensUnit, cX7_opensUnit, 2, some .boolean)
abbrev mX7_takesAtom : bs_M := (yX7_takesAtom, cX7_takesAtom, 3, some .boolean)
abbrev mX7_letterOf : bs_M := (yX7_letterOf, cX7_letterOf, 1, some .int)
abbrev mX7_opensBracket : bs_M := (yX7_opensBracket, cX7_opensBracket, 1, some .boolean)
abbrev mX7_takesSign : bs_M := (yX7_takesSign, cX7_takesSign, 2, some .boolean)
abbrev mX7_unitIsWhole : bs_M := (yX7_unitIsWhole, cX7_unitIsWhole, 1, some .boolean)
abbrev mX7_joins : bs_M := (yX7_joins, cX7_joins, 4, some .boolean)
abbrev mX7_closes : bs_M := (yX7_closes, cX7_closes, 3, some .boolean)
abbrev mX7_endsCondition : bs_M := (yX7_endsCondition, cX7_endsCondition, 1, some .boolean)
abbrev mX7_endsClause : bs_M := (yX7_endsClause, cX7_endsClause, 1, some .boolean)
abbrev mX7_tightness : bs_M := (yX7_tightness, cX7_tightness, 1, some .int)
abbrev mX7_tellWaiting : bs_M := (yX7_tellWaiting, cX7_tellWaiting, 2, none)
abbrev mX7_await : bs_M := (yX7_await, cX7_await, 2, none)
abbrev mX7_tell : bs_M := (yX7_tell, cX7_tell, 2, none)
abbrev mX8_init : bs_M := (yX8_init, cX8_init, 1, none)
abbrev mX8_make : bs_M := (yX8_make, cX8_make, 4, some .int)
abbrev mX8_has : bs_M := (yX8_has, cX8_has, 2, some .boolean)
abbrev mX9_init : bs_M := (yX9_init, cX9_init, 1, none)
abbrev mX9_queue : bs_M := (yX9_queue, cX9_queue, 4, some .int)
abbrev mX9_clear : bs_M := (yX9_clear, cX9_clear, 2, some .int)
abbrev mX9_serveAll : bs_M := (yX9_serveAll, cX9_serveAll, 8, some .int)
abbrev mX9_outcomeFor : bs_M := (yX9_outcomeFor, cX9_outcomeFor, 6, some .int)
abbrev mX9_isThere : bs_M := (yX9_isThere, cX9_isThere, 3, some .boolean)
abbrev mX9_makesBalloon : bs_M := (yX9_makesBalloon, cX9_makesBalloon, 5, some .boolean)
abbrev mX10_init : bs_M := (yX10_init, cX10_init, 1, none)
abbrev mX10_put : bs_M := (yX10_put, cX10_put, 4, none)
abbrev mX10_at : bs_M := (yX10_at, cX10_at, 2, some .int)
abbrev mX11_init : bs_M := (yX11_init, cX11_init, 2, none)
abbrev mX11_sort : bs_M := (yX11_sort, cX11_sort, 4, some .int)
abbrev mX11_feed : bs_M := (yX11_feed, cX11_feed, 7, some .int)
abbrev mX11_end : bs_M := (yX11_end, cX11_end, 2, some .boolean)
abbrev mX11_fault : bs_M := (yX11_fault, cX11_fault, 2, some .int)
abbrev mX11_figure : bs_M := (yX11_figure, cX11_figure, 2, some .int)
abbrev mX11_rule : bs_M := (yX11_rule, cX11_rule, 1, some .int)
abbrev mX11_many : bs_M := (yX11_many, cX11_many, 4, some .int)
abbrev mX11_bubble : bs_M := (yX11_bubble, cX11_bubble, 5, some .int)
abbrev mX11_ends : bs_M := (yX11_ends, cX11_ends, 4, some .int)
abbrev mX11_bursts : bs_M := (yX11_bursts, cX11_bursts, 5, some .int)
abbrev mX11_rest : bs_M := (yX11_rest, cX11_rest, 5, some .int)
abbrev mX11_hands : bs_M := (yX11_hands, cX11_hands, 3, some .int)
abbrev mX11_holds : bs_M := (yX11_holds, cX11_holds, 4, some .int)
abbrev mX11_plain : bs_M := (yX11_plain, cX11_plain, 4, some .int)
abbrev mX11_pop : bs_M := (yX11_pop, cX11_pop, 6, some .int)
abbrev mX11_weakest : bs_M := (yX11_weakest, cX11_weakest, 3, some .int)
abbrev mX11_add : bs_M := (yX11_add, cX11_add, 8, some .int)
abbrev mX11_alike : bs_M := (yX11_alike, cX11_alike, 5, some .int)
abbrev mX11_match : bs_M := (yX11_match, cX11_match, 6, some .int)
abbrev mX11_far : bs_M := (yX11_far, cX11_far, 5, some .int)
abbrev mX11_span : bs_M := (yX11_span, cX11_span, 3, some .int)
abbrev mX11_strokes : bs_M := (yX11_strokes, cX11_strokes, 3, some .int)
abbrev mX11_made : bs_M := (yX11_made, cX11_made, 4, some .int)
abbrev mX11_set : bs_M := (yX11_set, cX11_set, 5, some .int)
abbrev mX11_twice : bs_M := (yX11_twice, cX11_twice, 3, some .int)
abbrev mX11_stock : bs_M := (yX11_stock, cX11_stock, 3, some .boolean)
abbrev mX11_pace : bs_M := (yX11_pace, cX11_pace, 3, some .boolean)
abbrev mX11_comes : bs_M := (yX11_comes, cX11_comes, 4, some .int)
abbrev mX11_close : bs_M := (yX11_close, cX11_close, 1, some .int)
abbrev mX11_run : bs_M := (yX11_run, cX11_run, 3, some .int)
abbrev mX11_guest : bs_M := (yX11_guest, cX11_guest, 3, some .int)
abbrev mX11_worth : bs_M := (yX11_worth, cX11_worth, 8, some .int)
abbrev mX11_aged : bs_M := (yX11_aged, cX11_aged, 7, some .int)
abbrev mX11_falls : bs_M := (yX11_falls, cX11_falls, 8, some .int)
abbrev mX11_count : bs_M := (yX11_count, cX11_count, 2, some .int)
abbrev mX11_figureAt : bs_M := (yX11_figureAt, cX11_figureAt, 2, some (.object "BalloonStall$Figure"))
abbrev mX11_freeFigure : bs_M := (yX11_freeFigure, cX11_freeFigure, 1, some (.object "BalloonStall$Figure"))
abbrev mX11_ruleAt : bs_M := (yX11_ruleAt, cX11_ruleAt, 2, some (.object "BalloonStall$Rule"))
abbrev mX11_hasFallen : bs_M := (yX11_hasFallen, cX11_hasFallen, 4, some .boolean)
abbrev mX11_filledBytes : bs_M := (yX11_filledBytes, cX11_filledBytes, 3, some .int)
abbrev mX11_isDigit : bs_M := (yX11_isDigit, cX11_isDigit, 1, some .boolean)
abbrev mX12_in : bs_M := (yX12_in, cX12_in, 3, some .boolean)
abbrev mX12_init : bs_M := (yX12_init, cX12_init, 1, none)
abbrev mX12_thrown : bs_M := (yX12_thrown, cX12_thrown, 1, some .int)
abbrev mX12_sort : bs_M := (yX12_sort, cX12_sort, 4, some .int)
abbrev mX12_byteOf : bs_M := (yX12_byteOf, cX12_byteOf, 7, some .int)
abbrev mX12_feed : bs_M := (yX12_feed, cX12_feed, 9, some .int)
abbrev mX12_end : bs_M := (yX12_end, cX12_end, 2, some .boolean)
abbrev mX12_here : bs_M := (yX12_here, cX12_here, 1, some .int)
abbrev mX12_look : bs_M := (yX12_look, cX12_look, 1, some .int)
abbrev mX12_bad : bs_M := (yX12_bad, cX12_bad, 1, none)
abbrev mX12_isDigit : bs_M := (yX12_isDigit, cX12_isDigit, 1, some .boolean)
abbrev mX12_find : bs_M := (yX12_find, cX12_find, 3, some .int)
abbrev mX12_joinTo : bs_M := (yX12_joinTo, cX12_joinTo, 5, none)
abbrev mX12_newPoint : bs_M := (yX12_newPoint, cX12_newPoint, 1, some .int)
abbrev mX12_bubble : bs_M := (yX12_bubble, cX12_bubble, 3, none)
abbrev mX12_held : bs_M := (yX12_held, cX12_held, 6, some .int)
abbrev mX12_moves : bs_M := (yX12_moves, cX12_moves, 4, none)
abbrev mX12_nested : bs_M := (yX12_nested, cX12_nested, 2, none)
abbrev mX12_balloon : bs_M := (yX12_balloon, cX12_balloon, 2, none)
abbrev mX12_readFigure : bs_M := (yX12_readFigure, cX12_readFigure, 3, some .int)
abbrev mX12_numberPoints : bs_M := (yX12_numberPoints, cX12_numberPoints, 3, none)
abbrev mX12_say : bs_M := (yX12_say, cX12_say, 2, none)
abbrev mX12_opens : bs_M := (yX12_opens, cX12_opens, 1, none)
abbrev mX12_sign : bs_M := (yX12_sign, cX12_sign, 2, none)
abbrev mX12_isLetter : bs_M := (yX12_isLetter, cX12_isLetter, 1, some .boolean)
abbrev mX12_atom : bs_M := (yX12_atom, cX12_atom, 4, none)
abbrev mX12_term : bs_M := (yX12_term, cX12_term, 2, none)
abbrev mX12_sum : bs_M := (yX12_sum, cX12_sum, 2, none)
abbrev mX12_unit : bs_M := (yX12_unit, cX12_unit, 3, none)
abbrev mX12_truth : bs_M := (yX12_truth, cX12_truth, 2, none)
abbrev mX12_condition : bs_M := (yX12_condition, cX12_condition, 2, none)
abbrev mX12_clause : bs_M := (yX12_clause, cX12_clause, 4, none)
abbrev mX12_readRule : bs_M := (yX12_readRule, cX12_readRule, 2, some .int)
abbrev mX12_fault : bs_M := (yX12_fault, cX12_fault, 2, some .int)
abbrev mX12_figure : bs_M := (yX12_figure, cX12_figure, 1, some .int)
abbrev mX12_rule : bs_M := (yX12_rule, cX12_rule, 1, some .int)
abbrev mX12_within : bs_M := (yX12_within, cX12_within, 2, some .long)
abbrev mX12_both : bs_M := (yX12_both, cX12_both, 5, some .long)
abbrev mX12_work : bs_M := (yX12_work, cX12_work, 13, some .long)
abbrev mX12_worthOf : bs_M := (yX12_worthOf, cX12_worthOf, 11, some .int)
abbrev mX12_worth : bs_M := (yX12_worth, cX12_worth, 7, some .int)
abbrev mX12_isFigure : bs_M := (yX12_isFigure, cX12_isFigure, 2, some .boolean)
abbrev mX12_isPoint : bs_M := (yX12_isPoint, cX12_isPoint, 3, some .boolean)
abbrev mX12_isBubble : bs_M := (yX12_isBubble, cX12_isBubble, 3, some .boolean)
abbrev mX12_isBalloon : bs_M := (yX12_isBalloon, cX12_isBalloon, 3, some .boolean)
abbrev mX12_isSort : bs_M := (yX12_isSort, cX12_isSort, 2, some .boolean)
abbrev mX12_endsIn : bs_M := (yX12_endsIn, cX12_endsIn, 6, some .int)
abbrev mX12_all : bs_M := (yX12_all, cX12_all, 2, some .int)
abbrev mX12_isTwist : bs_M := (yX12_isTwist, cX12_isTwist, 3, some .boolean)
abbrev mX12_isSlack : bs_M := (yX12_isSlack, cX12_isSlack, 3, some .boolean)
abbrev mX12_odd : bs_M := (yX12_odd, cX12_odd, 5, some .int)
abbrev mX12_many : bs_M := (yX12_many, cX12_many, 6, some .int)
abbrev mX12_bubble_ : bs_M := (yX12_bubble_, cX12_bubble_, 5, some .int)
abbrev mX12_ends : bs_M := (yX12_ends, cX12_ends, 3, some .int)
abbrev mX12_bursts : bs_M := (yX12_bursts, cX12_bursts, 6, some .int)
abbrev mX12_rest : bs_M := (yX12_rest, cX12_rest, 7, some .int)
abbrev mX12_hands : bs_M := (yX12_hands, cX12_hands, 2, some .int)
abbrev mX12_holds : bs_M := (yX12_holds, cX12_holds, 3, some .int)
abbrev mX12_handsOf : bs_M := (yX12_handsOf, cX12_handsOf, 7, some .int)
abbrev mX12_put : bs_M := (yX12_put, cX12_put, 6, none)
abbrev mX12_startFigure : bs_M := (yX12_startFigure, cX12_startFigure, 1, none)
abbrev mX12_endFigure : bs_M := (yX12_endFigure, cX12_endFigure, 4, none)
abbrev mX12_plain : bs_M := (yX12_plain, cX12_plain, 7, some .int)
abbrev mX12_add : bs_M := (yX12_add, cX12_add, 6, some .int)
abbrev mX12_addAll : bs_M := (yX12_addAll, cX12_addAll, 6, none)
abbrev mX12_leftOf : bs_M := (yX12_leftOf, cX12_leftOf, 8, some .int)
abbrev mX12_partsOf : bs_M := (yX12_partsOf, cX12_partsOf, 8, some .int)
abbrev mX12_meets : bs_M := (yX12_meets, cX12_meets, 7, some .boolean)
abbrev mX12_pop : bs_M := (yX12_pop, cX12_pop, 6, some .int)
abbrev mX12_weakest : bs_M := (yX12_weakest, cX12_weakest, 4, some .int)
abbrev mX12_between : bs_M := (yX12_between, cX12_between, 8, some .int)
abbrev mX12_isSame : bs_M := (yX12_isSame, cX12_isSame, 8, some .boolean)
abbrev mX12_pairs : bs_M := (yX12_pairs, cX12_pairs, 8, some .boolean)
abbrev mX12_mayMatch : bs_M := (yX12_mayMatch, cX12_mayMatch, 3, some .boolean)
abbrev mX12_areAlike : bs_M := (yX12_areAlike, cX12_areAlike, 3, some .boolean)
abbrev mX12_alike : bs_M := (yX12_alike, cX12_alike, 3, some .int)
abbrev mX12_match : bs_M := (yX12_match, cX12_match, 4, some .int)
abbrev mX12_findFars : bs_M := (yX12_findFars, cX12_findFars, 6, none)
abbrev mX12_far : bs_M := (yX12_far, cX12_far, 5, some .int)
abbrev mX12_span : bs_M := (yX12_span, cX12_span, 5, some .int)
abbrev mX12_firstPart : bs_M := (yX12_firstPart, cX12_firstPart, 6, some .int)
abbrev mX12_strokes : bs_M := (yX12_strokes, cX12_strokes, 5, some .int)
abbrev mX12_isOneWay : bs_M := (yX12_isOneWay, cX12_isOneWay, 6, some .boolean)
abbrev mX12_findFewest : bs_M := (yX12_findFewest, cX12_findFewest, 7, none)
abbrev mX12_mayBeMade : bs_M := (yX12_mayBeMade, cX12_mayBeMade, 3, some .boolean)
abbrev mX12_made : bs_M := (yX12_made, cX12_made, 3, some .int)
abbrev mX12_set : bs_M := (yX12_set, cX12_set, 8, some .int)
abbrev mX12_pairing : bs_M := (yX12_pairing, cX12_pairing, 8, some .int)
abbrev mX12_twice : bs_M := (yX12_twice, cX12_twice, 4, some .int)
abbrev mX12_stock : bs_M := (yX12_stock, cX12_stock, 3, some .boolean)
abbrev mX12_pace : bs_M := (yX12_pace, cX12_pace, 3, some .boolean)
abbrev mX12_comes : bs_M := (yX12_comes, cX12_comes, 4, some .int)
abbrev mX12_close : bs_M := (yX12_close, cX12_close, 2, some .int)
abbrev mX12_isThere : bs_M := (yX12_isThere, cX12_isThere, 5, some .boolean)
abbrev mX12_inBalloon : bs_M := (yX12_inBalloon, cX12_inBalloon, 5, some .int)
abbrev mX12_run : bs_M := (yX12_run, cX12_run, 15, some .int)
abbrev mX12_guest : bs_M := (yX12_guest, cX12_guest, 3, some .int)
abbrev mX12_startAging : bs_M := (yX12_startAging, cX12_startAging, 3, none)
abbrev mX12_age : bs_M := (yX12_age, cX12_age, 8, none)
abbrev mX12_aged : bs_M := (yX12_aged, cX12_aged, 6, some .int)
abbrev mX12_falls : bs_M := (yX12_falls, cX12_falls, 5, some .int)
abbrev mX12_count : bs_M := (yX12_count, cX12_count, 2, some .int)
abbrev mJ6_numberOfTrailingZeros_0f7a4 : bs_M := (yJ6_numberOfTrailingZeros_0f7a4, cJ6_numberOfTrailingZeros_0f7a4, 2, some .int)
abbrev mJ6_bitCount_0f7a4 : bs_M := (yJ6_bitCount_0f7a4, cJ6_bitCount_0f7a4, 1, some .int)
abbrev mJ9_max_7cf53 : bs_M := (yJ9_max_7cf53, cJ9_max_7cf53, 2, some .int)
abbrev mJ9_max_f86c9 : bs_M := (yJ9_max_f86c9, cJ9_max_f86c9, 4, some .long)
abbrev mJ9_min_7cf53 : bs_M := (yJ9_min_7cf53, cJ9_min_7cf53, 2, some .int)
abbrev mJ9_min_f86c9 : bs_M := (yJ9_min_f86c9, cJ9_min_f86c9, 4, some .long)
abbrev mJ7_fill_53178 : bs_M := (yJ7_fill_53178, cJ7_fill_53178, 4, none)
theorem bsw_0 : (Jvm.Cond.methodLink "BalloonStall" (3 : Nat) ({ cls := "java/lang/Object", name := "<init>", desc := "()V" } : Jvm.MethodName)) ∈ bs_al := bs_al_in (bs_t1 _ (List.mem_of_getElem? (i := 27) rfl)) rfl
theorem oX11_3 : Cond.methodLink "BalloonStall" 3 objectInit ∈ bs_al := bsw_0
theorem bsw_1 : (Jvm.Cond.initialized "BalloonStall$Maker") ∈ bs_al := bs_al_in (bs_t1 _ (List.mem_of_getElem? (i := 10) rfl)) rfl
theorem bsw_2 : (Jvm.Cond.code ({ cls := "BalloonStall$Maker", name := "<init>", desc := "()V" } : Jvm.MethodName) prog_5_method_1_code (1 : Nat) (Option.none : Option Jvm.ClassFile.FieldType)) ∈ bs_al := bs_al_in (bs_t2 _ (List.mem_of_getElem? (i := 68) rfl)) rfl
theorem kX3_init : bs_cw mX3_init 0 := ⟨bsw_1, bsw_2, by decide +kernel, by decide +kernel, by decide +kernel⟩
theorem bsw_3 : (Jvm.Cond.methodLink "BalloonStall" (65 : Nat) ({ cls := "BalloonStall$Maker", name := "<init>", desc := "()V" } : Jvm.MethodName)) ∈ bs_al := bs_al_in (bs_t2 _ (List.mem_of_getElem? (i := 66) rfl)) rfl
theorem bsw_4 : (Jvm.Cond.instanceMethod ({ cls := "BalloonStall$Maker", name := "<init>", desc := "()V" } : Jvm.MethodName)) ∈ bs_al := bs_al_in (bs_t2 _ (List.mem_of_getElem? (i := 67) rfl)) rfl
theorem qX11_65 : bs_ci "BalloonStall" 65 mX3_init 0 := ⟨kX3_init, bsw_3, rfl, bsw_4⟩
theorem bsw_5 : (Jvm.Cond.initialized "BalloonStall$Sorts") ∈ bs_al := bs_al_in (bs_t1 _ (List.mem_of_getElem? (i := 2) rfl)) rfl
theorem bsw_6 : (Jvm.Cond.code ({ cls := "BalloonStall$Sorts", name := "make", desc := "(III)I" } : Jvm.MethodName) prog_10_method_2_code (4 : Nat) (Option.some Jvm.ClassFile.FieldType.int)) ∈ bs_al := bs_al_in (bs_t3 _ (List.mem_of_getElem? (i := 4) rfl)) rfl
theorem kX8_make : bs_cw mX8_make 3 := ⟨bsw_5, bsw_6, by decide +kernel, by decide +kernel, by decide +kernel⟩
theorem bsw_7 : (Jvm.Cond.methodLink "BalloonStall" (93 : Nat) ({ cls := "BalloonStall$Sorts", name := "make", desc := "(III)I" } : Jvm.MethodName)) ∈ bs_al := bs_al_in (bs_t3 _ (List.mem_of_getElem? (i := 1) rfl)) rfl
theorem bsw_8 : (Jvm.Cond.instanceMethod ({ cls := "BalloonStall$Sorts", name := "make", desc := "(III)I" } : Jvm.MethodName)) ∈ bs_al := bs_al_in (bs_t3 _ (List.mem_of_getElem? (i := 2) rfl)) rfl
theorem bsw_9 : (Jvm.Cond.selects "BalloonStall$Sorts" ({ cls := "BalloonStall$Sorts", name := "make", desc := "(III)I" } : Jvm.MethodName) ({ cls := "BalloonStall$Sorts", name := "make", desc := "(III)I" } : Jvm.MethodName)) ∈ bs_al := bs_al_in (bs_t3 _ (List.mem_of_getElem? (i := 3) rfl)) rfl
theorem qX11_93 : bs_cv "BalloonStall" 93 mX8_make 3 8 := ⟨kX8_make, bsw_7, bsw_8, bsw_9, by decide, _, rfl, rfl⟩
theorem bsw_10 : (Jvm.Cond.initialized "BalloonStall") ∈ bs_al := bs_al_in (bs_t1 _ (List.mem_of_getElem? (i := 1) rfl)) rfl
theorem bsw_11 : (Jvm.Cond.code ({ cls := "BalloonStall", name := "filledBytes", desc := "(I)I" } : Jvm.MethodName) prog_1_method_41_code (3 : Nat) (Option.some Jvm.ClassFile.FieldType.int)) ∈ bs_al := bs_al_in (bs_t3 _ (List.mem_of_getElem? (i := 11) rfl)) rfl
theorem kX11_filledBytes : bs_cw mX11_filledBytes 1 := ⟨bsw_10, bsw_11, by decide +kernel, by decide +kernel, by decide +kernel⟩
theorem bsw_12 : (Jvm.Cond.methodLink "BalloonStall" (97 : Nat) ({ cls := "BalloonStall", name := "filledBytes", desc := "(I)I" } : Jvm.MethodName)) ∈ bs_al := bs_al_in (bs_t3 _ (List.mem_of_getElem? (i := 9) rfl)) rfl
theorem bsw_13 : (Jvm.Cond.static ({ cls := "BalloonStall", name := "filledBytes", desc := "(I)I" } : Jvm.MethodName)) ∈ bs_al := bs_al_in (bs_t3 _ (List.mem_of_getElem? (i := 10) rfl)) rfl
theorem qX11_97 : bs_cs "BalloonStall" 97 mX11_filledBytes 1 := ⟨kX11_filledBytes, bsw_12, bsw_13⟩
theorem bsw_14 : (Jvm.Cond.initialized "BalloonStall$Tape") ∈ bs_al := bs_al_in (bs_t1 _ (List.mem_of_getElem? (i := 3) rfl)) rfl
theorem bsw_15 : (Jvm.Cond.code ({ cls := "BalloonStall$Tape", name := "put", desc := "(I)V" } : Jvm.MethodName) prog_12_method_2_code (4 : Nat) (Option.none : Option Jvm.ClassFile.FieldType)) ∈ bs_al := bs_al_in (bs_t3 _ (List.mem_of_getElem? (i := 15) rfl)) rfl
theorem kX10_put : bs_cw mX10_put 1 := ⟨bsw_14, bsw_15, by decide +kernel, by decide +kernel, by decide +kernel⟩
theorem bsw_16 : (Jvm.Cond.methodLink "BalloonStall" (105 : Nat) ({ cls := "BalloonStall$Tape", name := "put", desc := "(I)V" } : Jvm.MethodName)) ∈ bs_al := bs_al_in (bs_t3 _ (List.mem_of_getElem? (i := 12) rfl)) rfl
theorem bsw_17 : (Jvm.Cond.instanceMethod ({ cls := "BalloonStall$Tape", name := "put", desc := "(I)V" } : Jvm.MethodName)) ∈ bs_al := bs_al_in (bs_t3 _ (List.mem_of_getElem? (i := 13) rfl)) rfl
theorem bsw_18 : (Jvm.Cond.selects "BalloonStall$Tape" ({ cls := "BalloonStall$Tape", name := "put", desc := "(I)V" } : Jvm.MethodName) ({ cls := "BalloonStall$Tape", name := "put", desc := "(I)V" } : Jvm.MethodName)) ∈ bs_al := bs_al_in (bs_t3 _ (List.mem_of_getElem? (i := 14) rfl)) rfl
theorem qX11_105 : bs_cv "BalloonStall" 105 mX10_put 1 10 := ⟨kX10_put, bsw_16, bsw_17, bsw_18, by decide, _, rfl, rfl⟩
theorem bsw_19 : (Jvm.Cond.initialized "BalloonStall$FigureReader") ∈ bs_al := bs_al_in (bs_t1 _ (List.mem_of_getElem? (i := 4) rfl)) rfl
theorem bsw_20 : (Jvm.Cond.code ({ cls := "BalloonStall$FigureReader", name := "read", desc := "(LBalloonStall$Tape;I)I" } : Jvm.MethodName) prog_4_method_2_code (4 : Nat) (Option.some Jvm.ClassFile.FieldType.int)) ∈ bs_al := bs_al_in (bs_t3 _ (List.mem_of_getElem? (i := 27) rfl)) rfl
theorem kX2_read : bs_cw mX2_read 2 := ⟨bsw_19, bsw_20, by decide +kernel, by decide +kernel, by decide +kernel⟩
theorem bsw_21 : (Jvm.Cond.methodLink "BalloonStall" (112 : Nat) ({ cls := "BalloonStall$FigureReader", name := "read", desc := "(LBalloonStall$Tape;I)I" } : Jvm.MethodName)) ∈ bs_al := bs_al_in (bs_t3 _ (List.mem_of_getElem? (i := 24) rfl)) rfl
theorem bsw_22 : (Jvm.Cond.instanceMethod ({ cls := "BalloonStall$FigureReader", name := "read", desc := "(LBalloonStall$Tape;I)I" } : Jvm.MethodName)) ∈ bs_al := bs_al_in (bs_t3 _ (List.mem_of_getElem? (i := 25) rfl)) rfl
theorem bsw_23 : (Jvm.Cond.selects "BalloonStall$FigureReader" ({ cls := "BalloonStall$FigureReader", name := "read", desc := "(LBalloonStall$Tape;I)I" } : Jvm.MethodName) ({ cls := "BalloonStall$FigureReader", name := "read", desc := "(LBalloonStall$Tape;I)I" } : Jvm.MethodName)) ∈ bs_al := bs_al_in (bs_t3 _ (List.mem_of_getElem? (i := 26) rfl)) rfl
theorem qX11_112 : bs_cv "BalloonStall" 112 mX2_read 2 2 := ⟨kX2_read, bsw_21, bsw_22, bsw_23, by decide, _, rfl, rfl⟩
theorem bsw_24 : (Jvm.Cond.initialized "BalloonStall$RuleReader") ∈ bs_al := bs_al_in (bs_t1 _ (List.mem_of_getElem? (i := 6) rfl)) rfl
theorem bsw_25 : (Jvm.Cond.code ({ cls := "BalloonStall$RuleReader", name := "read", desc := "(LBalloonStall$Tape;)I" } : Jvm.MethodName) prog_9_method_2_code (3 : Nat) (Option.some Jvm.ClassFile.FieldType.int)) ∈ bs_al := bs_al_in (bs_t3 _ (List.mem_of_getElem? (i := 125) rfl)) rfl
theorem kX7_read : bs_cw mX7_read 1 := ⟨bsw_24, bsw_25, by decide +kernel, by decide +kernel, by decide +kernel⟩
theorem bsw_26 : (Jvm.Cond.methodLink "BalloonStall" (116 : Nat) ({ cls := "BalloonStall$RuleReader", name := "read", desc := "(LBalloonStall$Tape;)I" } : Jvm.MethodName)) ∈ bs_al := bs_al_in (bs_t3 _ (List.mem_of_getElem? (i := 122) rfl)) rfl
theorem bsw_27 : (Jvm.Cond.instanceMethod ({ cls := "BalloonStall$RuleReader", name := "read", desc := "(LBalloonStall$Tape;)I" } : Jvm.MethodName)) ∈ bs_al := bs_al_in (bs_t3 _ (List.mem_of_getElem? (i := 123) rfl)) rfl
theorem bsw_28 : (Jvm.Cond.selects "BalloonStall$RuleReader" ({ cls := "BalloonStall$RuleReader", name := "read", desc := "(LBalloonStall$Tape;)I" } : Jvm.MethodName) ({ cls := "BalloonStall$RuleReader", name := "read", desc := "(LBalloonStall$Tape;)I" } : Jvm.MethodName)) ∈ bs_al := bs_al_in (bs_t3 _ (List.mem_of_getElem? (i := 124) rfl)) rfl
theorem qX11_116 : bs_cv "BalloonStall" 116 mX7_read 1 7 := ⟨kX7_read, bsw_26, bsw_27, bsw_28, by decide, _, rfl, rfl⟩
theorem bsw_29 : (Jvm.Cond.code ({ cls := "BalloonStall", name := "freeFigure", desc := "()LBalloonStall$Figure;" } : Jvm.MethodName) prog_1_method_38_code (1 : Nat) (Option.some (Jvm.ClassFile.FieldType.object "BalloonStall$Figure"))) ∈ bs_al := bs_al_in (bs_t3 _ (List.mem_of_getElem? (i := 201) rfl)) rfl
theorem kX11_freeFigure : bs_cw mX11_freeFigure 0 := ⟨bsw_10, bsw_29, by decide +kernel, by decide +kernel, by decide +kernel⟩
theorem bsw_30 : (Jvm.Cond.methodLink "BalloonStall" (119 : Nat) ({ cls := "BalloonStall", name := "freeFigure", desc := "()LBalloonStall$Figure;" } : Jvm.MethodName)) ∈ bs_al := bs_al_in (bs_t3 _ (List.mem_of_getElem? (i := 198) rfl)) rfl
theorem bsw_31 : (Jvm.Cond.instanceMethod ({ cls := "BalloonStall", name := "freeFigure", desc := "()LBalloonStall$Figure;" } : Jvm.MethodName)) ∈ bs_al := bs_al_in (bs_t3 _ (List.mem_of_getElem? (i := 200) rfl)) rfl
theorem bsw_32 : (Jvm.Cond.selects "BalloonStall" ({ cls := "BalloonStall", name := "freeFigure", desc := "()LBalloonStall$Figure;" } : Jvm.MethodName) ({ cls := "BalloonStall", name := "freeFigure", desc := "()LBalloonStall$Figure;" } : Jvm.MethodName)) ∈ bs_al := bs_al_in (bs_ps2 (({ cls := "BalloonStall", name := "freeFigure", desc := "()LBalloonStall$Figure;" } : Jvm.MethodName), 15) (List.mem_of_getElem? (i := 11) rfl)) rfl
theorem qX11_119 : bs_cv "BalloonStall" 119 mX11_freeFigure 0 11 := ⟨kX11_freeFigure, bsw_30, bsw_31, bsw_32, by decide, _, rfl, rfl⟩
theorem bsw_33 : (Jvm.Cond.initialized "BalloonStall$Figure") ∈ bs_al := bs_al_in (bs_t1 _ (List.mem_of_getElem? (i := 5) rfl)) rfl
theorem bsw_34 : (Jvm.Cond.code ({ cls := "BalloonStall$Figure", name := "copy", desc := "(LBalloonStall$Figure;)V" } : Jvm.MethodName) prog_3_method_3_code (2 : Nat) (Option.none : Option Jvm.ClassFile.FieldType)) ∈ bs_al := bs_al_in (bs_t3 _ (List.mem_of_getElem? (i := 205) rfl)) rfl
theorem kX1_copy : bs_cw mX1_copy 1 := ⟨bsw_33, bsw_34, by decide +kernel, by decide +kernel, by decide +kernel⟩
theorem bsw_35 : (Jvm.Cond.methodLink "BalloonStall" (127 : Nat) ({ cls := "BalloonStall$Figure", name := "copy", desc := "(LBalloonStall$Figure;)V" } : Jvm.MethodName)) ∈ bs_al := bs_al_in (bs_t3 _ (List.mem_of_getElem? (i := 202) rfl)) rfl
theorem bsw_36 : (Jvm.Cond.instanceMethod ({ cls := "BalloonStall$Figure", name := "copy", desc := "(LBalloonStall$Figure;)V" } : Jvm.MethodName)) ∈ bs_al := bs_al_in (bs_t3 _ (List.mem_of_getElem? (i := 203) rfl)) rfl
theorem bsw_37 : (Jvm.Cond.selects "BalloonStall$Figure" ({ cls := "BalloonStall$Figure", name := "copy", desc := "(LBalloonStall$Figure;)V" } : Jvm.MethodName) ({ cls := "BalloonStall$Figure", name := "copy", desc := "(LBalloonStall$Figure;)V" } : Jvm.MethodName)) ∈ bs_al := bs_al_in (bs_t3 _ (List.mem_of_getElem? (i := 204) rfl)) rfl
theorem qX11_127 : bs_cv "BalloonStall" 127 mX1_copy 1 1 := ⟨kX1_copy, bsw_35, bsw_36, bsw_37, by decide, _, rfl, rfl⟩
theorem bsw_38 : (Jvm.Cond.initialized "BalloonStall$Rule") ∈ bs_al := bs_al_in (bs_t1 _ (List.mem_of_getElem? (i := 7) rfl)) rfl
theorem bsw_39 : (Jvm.Cond.code ({ cls := "BalloonStall$Rule", name := "copy", desc := "(LBalloonStall$Rule;)V" } : Jvm.MethodName) prog_8_method_2_code (2 : Nat) (Option.none : Option Jvm.ClassFile.FieldType)) ∈ bs_al := bs_al_in (bs_t3 _ (List.mem_of_getElem? (i := 216) rfl)) rfl
theorem kX6_copy : bs_cw mX6_copy 1 := ⟨bsw_38, bsw_39, by decide +kernel, by decide +kernel, by decide +kernel⟩
theorem bsw_40 : (Jvm.Cond.methodLink "BalloonStall" (140 : Nat) ({ cls := "BalloonStall$Rule", name := "copy", desc := "(LBalloonStall$Rule;)V" } : Jvm.MethodName)) ∈ bs_al := bs_al_in (bs_t3 _ (List.mem_of_getElem? (i := 213) rfl)) rfl
theorem bsw_41 : (Jvm.Cond.instanceMethod ({ cls := "BalloonStall$Rule", name := "copy", desc := "(LBalloonStall$Rule;)V" } : Jvm.MethodName)) ∈ bs_al := bs_al_in (bs_t3 _ (List.mem_of_getElem? (i := 214) rfl)) rfl
theorem bsw_42 : (Jvm.Cond.selects "BalloonStall$Rule" ({ cls := "BalloonStall$Rule", name := "copy", desc := "(LBalloonStall$Rule;)V" } : Jvm.MethodName) ({ cls := "BalloonStall$Rule", name := "copy", desc := "(LBalloonStall$Rule;)V" } : Jvm.MethodName)) ∈ bs_al := bs_al_in (bs_t3 _ (List.mem_of_getElem? (i := 215) rfl)) rfl
theorem qX11_140 : bs_cv "BalloonStall" 140 mX6_copy 1 6 := ⟨kX6_copy, bsw_40, bsw_41, bsw_42, by decide, _, rfl, rfl⟩
theorem bsw_43 : (Jvm.Cond.code ({ cls := "BalloonStall", name := "figureAt", desc := "(I)LBalloonStall$Figure;" } : Jvm.MethodName) prog_1_method_37_code (2 : Nat) (Option.some (Jvm.ClassFile.FieldType.object "BalloonStall$Figure"))) ∈ bs_al := bs_al_in (bs_t3 _ (List.mem_of_getElem? (i := 225) rfl)) rfl
theorem kX11_figureAt : bs_cw mX11_figureAt 1 := ⟨bsw_10, bsw_43, by decide +kernel, by decide +kernel, by decide +kernel⟩
theorem bsw_44 : (Jvm.Cond.methodLink "BalloonStall" (143 : Nat) ({ cls := "BalloonStall", name := "figureAt", desc := "(I)LBalloonStall$Figure;" } : Jvm.MethodName)) ∈ bs_al := bs_al_in (bs_t3 _ (List.mem_of_getElem? (i := 222) rfl)) rfl
theorem bsw_45 : (Jvm.Cond.instanceMethod ({ cls := "BalloonStall", name := "figureAt", desc := "(I)LBalloonStall$Figure;" } : Jvm.MethodName)) ∈ bs_al := bs_al_in (bs_t3 _ (List.mem_of_getElem? (i := 224) rfl)) rfl
theorem bsw_46 : (Jvm.Cond.selects "BalloonStall" ({ cls := "BalloonStall", name := "figureAt", desc := "(I)LBalloonStall$Figure;" } : Jvm.MethodName) ({ cls := "BalloonStall", name := "figureAt", desc := "(I)LBalloonStall$Figure;" } : Jvm.MethodName)) ∈ bs_al := bs_al_in (bs_ps2 (({ cls := "BalloonStall", name := "figureAt", desc := "(I)LBalloonStall$Figure;" } : Jvm.MethodName), 15) (List.mem_of_getElem? (i := 12) rfl)) rfl
theorem qX11_143 : bs_cv "BalloonStall" 143 mX11_figureAt 1 11 := ⟨kX11_figureAt, bsw_44, bsw_45, bsw_46, by decide, _, rfl, rfl⟩
theorem bsw_47 : (Jvm.Cond.code ({ cls := "BalloonStall$Figure", name := "twists", desc := "()I" } : Jvm.MethodName) prog_3_method_13_code (3 : Nat) (Option.some Jvm.ClassFile.FieldType.int)) ∈ bs_al := bs_al_in (bs_t3 _ (List.mem_of_getElem? (i := 229) rfl)) rfl
theorem kX1_twists : bs_cw mX1_twists 0 := ⟨bsw_33, bsw_47, by decide +kernel, by decide +kernel, by decide +kernel⟩
theorem bsw_48 : (Jvm.Cond.methodLink "BalloonStall" (156 : Nat) ({ cls := "BalloonStall$Figure", name := "twists", desc := "()I" } : Jvm.MethodName)) ∈ bs_al := bs_al_in (bs_t3 _ (List.mem_of_getElem? (i := 226) rfl)) rfl
theorem bsw_49 : (Jvm.Cond.instanceMethod ({ cls := "BalloonStall$Figure", name := "twists", desc := "()I" } : Jvm.MethodName)) ∈ bs_al := bs_al_in (bs_t3 _ (List.mem_of_getElem? (i := 227) rfl)) rfl
theorem bsw_50 : (Jvm.Cond.selects "BalloonStall$Figure" ({ cls := "BalloonStall$Figure", name := "twists", desc := "()I" } : Jvm.MethodName) ({ cls := "BalloonStall$Figure", name := "twists", desc := "()I" } : Jvm.MethodName)) ∈ bs_al := bs_al_in (bs_t3 _ (List.mem_of_getElem? (i := 228) rfl)) rfl
theorem qX11_156 : bs_cv "BalloonStall" 156 mX1_twists 0 1 := ⟨kX1_twists, bsw_48, bsw_49, bsw_50, by decide, _, rfl, rfl⟩
theorem bsw_51 : (Jvm.Cond.code ({ cls := "BalloonStall$Figure", name := "slackTwistsUpTo", desc := "(I)I" } : Jvm.MethodName) prog_3_method_14_code (4 : Nat) (Option.some Jvm.ClassFile.FieldType.int)) ∈ bs_al := bs_al_in (bs_t3 _ (List.mem_of_getElem? (i := 68) rfl)) rfl
theorem kX1_slackTwistsUpTo : bs_cw mX1_slackTwistsUpTo 1 := ⟨bsw_33, bsw_51, by decide +kernel, by decide +kernel, by decide +kernel⟩
theorem bsw_52 : (Jvm.Cond.methodLink "BalloonStall" (160 : Nat) ({ cls := "BalloonStall$Figure", name := "slackTwistsUpTo", desc := "(I)I" } : Jvm.MethodName)) ∈ bs_al := bs_al_in (bs_t3 _ (List.mem_of_getElem? (i := 234) rfl)) rfl
theorem bsw_53 : (Jvm.Cond.instanceMethod ({ cls := "BalloonStall$Figure", name := "slackTwistsUpTo", desc := "(I)I" } : Jvm.MethodName)) ∈ bs_al := bs_al_in (bs_t3 _ (List.mem_of_getElem? (i := 66) rfl)) rfl
theorem bsw_54 : (Jvm.Cond.selects "BalloonStall$Figure" ({ cls := "BalloonStall$Figure", name := "slackTwistsUpTo", desc := "(I)I" } : Jvm.MethodName) ({ cls := "BalloonStall$Figure", name := "slackTwistsUpTo", desc := "(I)I" } : Jvm.MethodName)) ∈ bs_al := bs_al_in (bs_t3 _ (List.mem_of_getElem? (i := 67) rfl)) rfl
theorem qX11_160 : bs_cv "BalloonStall" 160 mX1_slackTwistsUpTo 1 1 := ⟨kX1_slackTwistsUpTo, bsw_52, bsw_53, bsw_54, by decide, _, rfl, rfl⟩
theorem bsw_55 : (Jvm.Cond.code ({ cls := "BalloonStall$Figure", name := "oddPoints", desc := "()I" } : Jvm.MethodName) prog_3_method_15_code (3 : Nat) (Option.some Jvm.ClassFile.FieldType.int)) ∈ bs_al := bs_al_in (bs_t3 _ (List.mem_of_getElem? (i := 238) rfl)) rfl
theorem kX1_oddPoints : bs_cw mX1_oddPoints 0 := ⟨bsw_33, bsw_55, by decide +kernel, by decide +kernel, by decide +kernel⟩
theorem bsw_56 : (Jvm.Cond.methodLink "BalloonStall" (163 : Nat) ({ cls := "BalloonStall$Figure", name := "oddPoints", desc := "()I" } : Jvm.MethodName)) ∈ bs_al := bs_al_in (bs_t3 _ (List.mem_of_getElem? (i := 235) rfl)) rfl
theorem bsw_57 : (Jvm.Cond.instanceMethod ({ cls := "BalloonStall$Figure", name := "oddPoints", desc := "()I" } : Jvm.MethodName)) ∈ bs_al := bs_al_in (bs_t3 _ (List.mem_of_getElem? (i := 236) rfl)) rfl
theorem bsw_58 : (Jvm.Cond.selects "BalloonStall$Figure" ({ cls := "BalloonStall$Figure", name := "oddPoints", desc := "()I" } : Jvm.MethodName) ({ cls := "BalloonStall$Figure", name := "oddPoints", desc := "()I" } : Jvm.MethodName)) ∈ bs_al := bs_al_in (bs_t3 _ (List.mem_of_getElem? (i := 237) rfl)) rfl
theorem qX11_163 : bs_cv "BalloonStall" 163 mX1_oddPoints 0 1 := ⟨kX1_oddPoints, bsw_56, bsw_57, bsw_58, by decide, _, rfl, rfl⟩
theorem bsw_59 : (Jvm.Cond.initialized "java/lang/Integer") ∈ bs_al := bs_al_in (bs_t1 _ (List.mem_of_getElem? (i := 17) rfl)) rfl
theorem bsw_60 : (Jvm.Cond.code ({ cls := "java/lang/Integer", name := "bitCount", desc := "(I)I" } : Jvm.MethodName) prog_17_method_49_code (1 : Nat) (Option.some Jvm.ClassFile.FieldType.int)) ∈ bs_al := bs_al_in (bs_t4 _ (List.mem_of_getElem? (i := 5) rfl)) rfl
theorem kJ6_bitCount_0f7a4 : bs_cw mJ6_bitCount_0f7a4 1 := ⟨bsw_59, bsw_60, by decide +kernel, by decide +kernel, by decide +kernel⟩
theorem bsw_61 : (Jvm.Cond.methodLink "BalloonStall" (166 : Nat) ({ cls := "java/lang/Integer", name := "bitCount", desc := "(I)I" } : Jvm.MethodName)) ∈ bs_al := bs_al_in (bs_t4 _ (List.mem_of_getElem? (i := 3) rfl)) rfl
theorem bsw_62 : (Jvm.Cond.static ({ cls := "java/lang/Integer", name := "bitCount", desc := "(I)I" } : Jvm.MethodName)) ∈ bs_al := bs_al_in (bs_t4 _ (List.mem_of_getElem? (i := 4) rfl)) rfl
theorem qX11_166 : bs_cs "BalloonStall" 166 mJ6_bitCount_0f7a4 1 := ⟨kJ6_bitCount_0f7a4, bsw_61, bsw_62⟩
theorem bsw_63 : (Jvm.Cond.code ({ cls := "BalloonStall$Figure", name := "hasBubble", desc := "(I)Z" } : Jvm.MethodName) prog_3_method_5_code (2 : Nat) (Option.some Jvm.ClassFile.FieldType.boolean)) ∈ bs_al := bs_al_in (bs_t4 _ (List.mem_of_getElem? (i := 49) rfl)) rfl
theorem kX1_hasBubble : bs_cw mX1_hasBubble 1 := ⟨bsw_33, bsw_63, by decide +kernel, by decide +kernel, by decide +kernel⟩
theorem bsw_64 : (Jvm.Cond.methodLink "BalloonStall" (171 : Nat) ({ cls := "BalloonStall$Figure", name := "hasBubble", desc := "(I)Z" } : Jvm.MethodName)) ∈ bs_al := bs_al_in (bs_t4 _ (List.mem_of_getElem? (i := 46) rfl)) rfl
theorem bsw_65 : (Jvm.Cond.instanceMethod ({ cls := "BalloonStall$Figure", name := "hasBubble", desc := "(I)Z" } : Jvm.MethodName)) ∈ bs_al := bs_al_in (bs_t4 _ (List.mem_of_getElem? (i := 47) rfl)) rfl
theorem bsw_66 : (Jvm.Cond.selects "BalloonStall$Figure" ({ cls := "BalloonStall$Figure", name := "hasBubble", desc := "(I)Z" } : Jvm.MethodName) ({ cls := "BalloonStall$Figure", name := "hasBubble", desc := "(I)Z" } : Jvm.MethodName)) ∈ bs_al := bs_al_in (bs_t4 _ (List.mem_of_getElem? (i := 48) rfl)) rfl
theorem qX11_171 : bs_cv "BalloonStall" 171 mX1_hasBubble 1 1 := ⟨kX1_hasBubble, bsw_64, bsw_65, bsw_66, by decide, _, rfl, rfl⟩
theorem bsw_67 : (Jvm.Cond.code ({ cls := "BalloonStall$Figure", name := "hasPoint", desc := "(I)Z" } : Jvm.MethodName) prog_3_method_6_code (2 : Nat) (Option.some Jvm.ClassFile.FieldType.boolean)) ∈ bs_al := bs_al_in (bs_t4 _ (List.mem_of_getElem? (i := 16) rfl)) rfl
theorem kX1_hasPoint : bs_cw mX1_hasPoint 1 := ⟨bsw_33, bsw_67, by decide +kernel, by decide +kernel, by decide +kernel⟩
theorem bsw_68 : (Jvm.Cond.methodLink "BalloonStall" (198 : Nat) ({ cls := "BalloonStall$Figure", name := "hasPoint", desc := "(I)Z" } : Jvm.MethodName)) ∈ bs_al := bs_al_in (bs_t4 _ (List.mem_of_getElem? (i := 13) rfl)) rfl
theorem bsw_69 : (Jvm.Cond.instanceMethod ({ cls := "BalloonStall$Figure", name := "hasPoint", desc := "(I)Z" } : Jvm.MethodName)) ∈ bs_al := bs_al_in (bs_t4 _ (List.mem_of_getElem? (i := 14) rfl)) rfl
theorem bsw_70 : (Jvm.Cond.selects "BalloonStall$Figure" ({ cls := "BalloonStall$Figure", name := "hasPoint", desc := "(I)Z" } : Jvm.MethodName) ({ cls := "BalloonStall$Figure", name := "hasPoint", desc := "(I)Z" } : Jvm.MethodName)) ∈ bs_al := bs_al_in (bs_t4 _ (List.mem_of_getElem? (i := 15) rfl)) rfl
theorem qX11_198 : bs_cv "BalloonStall" 198 mX1_hasPoint 1 1 := ⟨kX1_hasPoint, bsw_68, bsw_69, bsw_70, by decide, _, rfl, rfl⟩
theorem bsw_71 : (Jvm.Cond.code ({ cls := "BalloonStall$Figure", name := "hasBalloon", desc := "(I)Z" } : Jvm.MethodName) prog_3_method_4_code (2 : Nat) (Option.some Jvm.ClassFile.FieldType.boolean)) ∈ bs_al := bs_al_in (bs_t4 _ (List.mem_of_getElem? (i := 24) rfl)) rfl
theorem kX1_hasBalloon : bs_cw mX1_hasBalloon 1 := ⟨bsw_33, bsw_71, by decide +kernel, by decide +kernel, by decide +kernel⟩
theorem bsw_72 : (Jvm.Cond.methodLink "BalloonStall" (204 : Nat) ({ cls := "BalloonStall$Figure", name := "hasBalloon", desc := "(I)Z" } : Jvm.MethodName)) ∈ bs_al := bs_al_in (bs_t4 _ (List.mem_of_getElem? (i := 21) rfl)) rfl
theorem bsw_73 : (Jvm.Cond.instanceMethod ({ cls := "BalloonStall$Figure", name := "hasBalloon", desc := "(I)Z" } : Jvm.MethodName)) ∈ bs_al := bs_al_in (bs_t4 _ (List.mem_of_getElem? (i := 22) rfl)) rfl
theorem bsw_74 : (Jvm.Cond.selects "BalloonStall$Figure" ({ cls := "BalloonStall$Figure", name := "hasBalloon", desc := "(I)Z" } : Jvm.MethodName) ({ cls := "BalloonStall$Figure", name := "hasBalloon", desc := "(I)Z" } : Jvm.MethodName)) ∈ bs_al := bs_al_in (bs_t4 _ (List.mem_of_getElem? (i := 23) rfl)) rfl
theorem qX11_204 : bs_cv "BalloonStall" 204 mX1_hasBalloon 1 1 := ⟨kX1_hasBalloon, bsw_72, bsw_73, bsw_74, by decide, _, rfl, rfl⟩
theorem bsw_75 : (Jvm.Cond.code ({ cls := "BalloonStall$Figure", name := "burstOf", desc := "(III)I" } : Jvm.MethodName) prog_3_method_16_code (6 : Nat) (Option.some Jvm.ClassFile.FieldType.int)) ∈ bs_al := bs_al_in (bs_t4 _ (List.mem_of_getElem? (i := 28) rfl)) rfl
theorem kX1_burstOf : bs_cw mX1_burstOf 3 := ⟨bsw_33, bsw_75, by decide +kernel, by decide +kernel, by decide +kernel⟩
theorem bsw_76 : (Jvm.Cond.methodLink "BalloonStall" (213 : Nat) ({ cls := "BalloonStall$Figure", name := "burstOf", desc := "(III)I" } : Jvm.MethodName)) ∈ bs_al := bs_al_in (bs_t4 _ (List.mem_of_getElem? (i := 25) rfl)) rfl
theorem bsw_77 : (Jvm.Cond.instanceMethod ({ cls := "BalloonStall$Figure", name := "burstOf", desc := "(III)I" } : Jvm.MethodName)) ∈ bs_al := bs_al_in (bs_t4 _ (List.mem_of_getElem? (i := 26) rfl)) rfl
theorem bsw_78 : (Jvm.Cond.selects "BalloonStall$Figure" ({ cls := "BalloonStall$Figure", name := "burstOf", desc := "(III)I" } : Jvm.MethodName) ({ cls := "BalloonStall$Figure", name := "burstOf", desc := "(III)I" } : Jvm.MethodName)) ∈ bs_al := bs_al_in (bs_t4 _ (List.mem_of_getElem? (i := 27) rfl)) rfl
theorem qX11_213 : bs_cv "BalloonStall" 213 mX1_burstOf 3 1 := ⟨kX1_burstOf, bsw_76, bsw_77, bsw_78, by decide, _, rfl, rfl⟩
theorem bsw_79 : (Jvm.Cond.code ({ cls := "BalloonStall$Figure", name := "needOf", desc := "(II)I" } : Jvm.MethodName) prog_3_method_17_code (5 : Nat) (Option.some Jvm.ClassFile.FieldType.int)) ∈ bs_al := bs_al_in (bs_t4 _ (List.mem_of_getElem? (i := 36) rfl)) rfl
theorem kX1_needOf : bs_cw mX1_needOf 2 := ⟨bsw_33, bsw_79, by decide +kernel, by decide +kernel, by decide +kernel⟩
theorem bsw_80 : (Jvm.Cond.methodLink "BalloonStall" (216 : Nat) ({ cls := "BalloonStall$Figure", name := "needOf", desc := "(II)I" } : Jvm.MethodName)) ∈ bs_al := bs_al_in (bs_t4 _ (List.mem_of_getElem? (i := 33) rfl)) rfl
theorem bsw_81 : (Jvm.Cond.instanceMethod ({ cls := "BalloonStall$Figure", name := "needOf", desc := "(II)I" } : Jvm.MethodName)) ∈ bs_al := bs_al_in (bs_t4 _ (List.mem_of_getElem? (i := 34) rfl)) rfl
theorem bsw_82 : (Jvm.Cond.selects "BalloonStall$Figure" ({ cls := "BalloonStall$Figure", name := "needOf", desc := "(II)I" } : Jvm.MethodName) ({ cls := "BalloonStall$Figure", name := "needOf", desc := "(II)I" } : Jvm.MethodName)) ∈ bs_al := bs_al_in (bs_t4 _ (List.mem_of_getElem? (i := 35) rfl)) rfl
theorem qX11_216 : bs_cv "BalloonStall" 216 mX1_needOf 2 1 := ⟨kX1_needOf, bsw_80, bsw_81, bsw_82, by decide, _, rfl, rfl⟩
theorem bsw_83 : (Jvm.Cond.methodLink "BalloonStall" (220 : Nat) ({ cls := "java/lang/Math", name := "max", desc := "(II)I" } : Jvm.MethodName)) ∈ bs_al := bs_al_in (bs_t4 _ (List.mem_of_getElem? (i := 37) rfl)) rfl
theorem bsw_84 : (Jvm.Cond.static ({ cls := "java/lang/Math", name := "max", desc := "(II)I" } : Jvm.MethodName)) ∈ bs_al := bs_al_in (bs_t3 _ (List.mem_of_getElem? (i := 70) rfl)) rfl
theorem bsw_85 : (Jvm.Cond.initialized "java/lang/Math") ∈ bs_al := bs_al_in (bs_t1 _ (List.mem_of_getElem? (i := 15) rfl)) rfl
theorem bsw_86 : (Jvm.Cond.code ({ cls := "java/lang/Math", name := "max", desc := "(II)I" } : Jvm.MethodName) prog_18_method_65_code (2 : Nat) (Option.some Jvm.ClassFile.FieldType.int)) ∈ bs_al := bs_al_in (bs_t3 _ (List.mem_of_getElem? (i := 71) rfl)) rfl
theorem xX11_220 : Cond.methodLink "BalloonStall" 220 Lib.Math.max.name ∈ bs_al ∧ Cond.static Lib.Math.max.name ∈ bs_al ∧ Cond.initialized "java/lang/Math" ∈ bs_al ∧ Cond.code Lib.Math.max.name Lib.Math.max.code 2 (some .int) ∈ bs_al := ⟨bsw_83, bsw_84, bsw_85, bsw_86⟩
theorem bsw_87 : (Jvm.Cond.code ({ cls := "BalloonStall$Figure", name := "twistBehind", desc := "(I)Z" } : Jvm.MethodName) prog_3_method_11_code (2 : Nat) (Option.some Jvm.ClassFile.FieldType.boolean)) ∈ bs_al := bs_al_in (bs_t3 _ (List.mem_of_getElem? (i := 233) rfl)) rfl
theorem kX1_twistBehind : bs_cw mX1_twistBehind 1 := ⟨bsw_33, bsw_87, by decide +kernel, by decide +kernel, by decide +kernel⟩
theorem bsw_88 : (Jvm.Cond.methodLink "BalloonStall" (228 : Nat) ({ cls := "BalloonStall$Figure", name := "twistBehind", desc := "(I)Z" } : Jvm.MethodName)) ∈ bs_al := bs_al_in (bs_t4 _ (List.mem_of_getElem? (i := 50) rfl)) rfl
theorem bsw_89 : (Jvm.Cond.instanceMethod ({ cls := "BalloonStall$Figure", name := "twistBehind", desc := "(I)Z" } : Jvm.MethodName)) ∈ bs_al := bs_al_in (bs_t3 _ (List.mem_of_getElem? (i := 231) rfl)) rfl
theorem bsw_90 : (Jvm.Cond.selects "BalloonStall$Figure" ({ cls := "BalloonStall$Figure", name := "twistBehind", desc := "(I)Z" } : Jvm.MethodName) ({ cls := "BalloonStall$Figure", name := "twistBehind", desc := "(I)Z" } : Jvm.MethodName)) ∈ bs_al := bs_al_in (bs_t3 _ (List.mem_of_getElem? (i := 232) rfl)) rfl
theorem qX11_228 : bs_cv "BalloonStall" 228 mX1_twistBehind 1 1 := ⟨kX1_twistBehind, bsw_88, bsw_89, bsw_90, by decide, _, rfl, rfl⟩
theorem bsw_91 : (Jvm.Cond.code ({ cls := "BalloonStall$Figure", name := "slackBehind", desc := "(I)Z" } : Jvm.MethodName) prog_3_method_12_code (2 : Nat) (Option.some Jvm.ClassFile.FieldType.boolean)) ∈ bs_al := bs_al_in (bs_t4 _ (List.mem_of_getElem? (i := 54) rfl)) rfl
theorem kX1_slackBehind : bs_cw mX1_slackBehind 1 := ⟨bsw_33, bsw_91, by decide +kernel, by decide +kernel, by decide +kernel⟩
theorem bsw_92 : (Jvm.Cond.methodLink "BalloonStall" (231 : Nat) ({ cls := "BalloonStall$Figure", name := "slackBehind", desc := "(I)Z" } : Jvm.MethodName)) ∈ bs_al := bs_al_in (bs_t4 _ (List.mem_of_getElem? (i := 51) rfl)) rfl
theorem bsw_93 : (Jvm.Cond.instanceMethod ({ cls := "BalloonStall$Figure", name := "slackBehind", desc := "(I)Z" } : Jvm.MethodName)) ∈ bs_al := bs_al_in (bs_t4 _ (List.mem_of_getElem? (i := 52) rfl)) rfl
theorem bsw_94 : (Jvm.Cond.selects "BalloonStall$Figure" ({ cls := "BalloonStall$Figure", name := "slackBehind", desc := "(I)Z" } : Jvm.MethodName) ({ cls := "BalloonStall$Figure", name := "slackBehind", desc := "(I)Z" } : Jvm.MethodName)) ∈ bs_al := bs_al_in (bs_t4 _ (List.mem_of_getElem? (i := 53) rfl)) rfl
theorem qX11_231 : bs_cv "BalloonStall" 231 mX1_slackBehind 1 1 := ⟨kX1_slackBehind, bsw_92, bsw_93, bsw_94, by decide, _, rfl, rfl⟩
theorem bsw_95 : (Jvm.Cond.code ({ cls := "BalloonStall$Figure", name := "turnBack", desc := "(LBalloonStall$Figure;[I)V" } : Jvm.MethodName) prog_3_method_22_code (5 : Nat) (Option.none : Option Jvm.ClassFile.FieldType)) ∈ bs_al := bs_al_in (bs_t4 _ (List.mem_of_getElem? (i := 62) rfl)) rfl
theorem kX1_turnBack : bs_cw mX1_turnBack 2 := ⟨bsw_33, bsw_95, by decide +kernel, by decide +kernel, by decide +kernel⟩
theorem bsw_96 : (Jvm.Cond.methodLink "BalloonStall" (234 : Nat) ({ cls := "BalloonStall$Figure", name := "turnBack", desc := "(LBalloonStall$Figure;[I)V" } : Jvm.MethodName)) ∈ bs_al := bs_al_in (bs_t4 _ (List.mem_of_getElem? (i := 59) rfl)) rfl
theorem bsw_97 : (Jvm.Cond.instanceMethod ({ cls := "BalloonStall$Figure", name := "turnBack", desc := "(LBalloonStall$Figure;[I)V" } : Jvm.MethodName)) ∈ bs_al := bs_al_in (bs_t4 _ (List.mem_of_getElem? (i := 60) rfl)) rfl
theorem bsw_98 : (Jvm.Cond.selects "BalloonStall$Figure" ({ cls := "BalloonStall$Figure", name := "turnBack", desc := "(LBalloonStall$Figure;[I)V" } : Jvm.MethodName) ({ cls := "BalloonStall$Figure", name := "turnBack", desc := "(LBalloonStall$Figure;[I)V" } : Jvm.MethodName)) ∈ bs_al := bs_al_in (bs_t4 _ (List.mem_of_getElem? (i := 61) rfl)) rfl
theorem qX11_234 : bs_cv "BalloonStall" 234 mX1_turnBack 2 1 := ⟨kX1_turnBack, bsw_96, bsw_97, bsw_98, by decide, _, rfl, rfl⟩
theorem bsw_99 : (Jvm.Cond.initialized "BalloonStall$Net") ∈ bs_al := bs_al_in (bs_t1 _ (List.mem_of_getElem? (i := 8) rfl)) rfl
theorem bsw_100 : (Jvm.Cond.code ({ cls := "BalloonStall$Net", name := "lostWith", desc := "(LBalloonStall$Figure;I)I" } : Jvm.MethodName) prog_7_method_2_code (7 : Nat) (Option.some Jvm.ClassFile.FieldType.int)) ∈ bs_al := bs_al_in (bs_t4 _ (List.mem_of_getElem? (i := 78) rfl)) rfl
theorem kX5_lostWith : bs_cw mX5_lostWith 2 := ⟨bsw_99, bsw_100, by decide +kernel, by decide +kernel, by decide +kernel⟩
theorem bsw_101 : (Jvm.Cond.methodLink "BalloonStall" (238 : Nat) ({ cls := "BalloonStall$Net", name := "lostWith", desc := "(LBalloonStall$Figure;I)I" } : Jvm.MethodName)) ∈ bs_al := bs_al_in (bs_t4 _ (List.mem_of_getElem? (i := 75) rfl)) rfl
theorem bsw_102 : (Jvm.Cond.instanceMethod ({ cls := "BalloonStall$Net", name := "lostWith", desc := "(LBalloonStall$Figure;I)I" } : Jvm.MethodName)) ∈ bs_al := bs_al_in (bs_t4 _ (List.mem_of_getElem? (i := 76) rfl)) rfl
theorem bsw_103 : (Jvm.Cond.selects "BalloonStall$Net" ({ cls := "BalloonStall$Net", name := "lostWith", desc := "(LBalloonStall$Figure;I)I" } : Jvm.MethodName) ({ cls := "BalloonStall$Net", name := "lostWith", desc := "(LBalloonStall$Figure;I)I" } : Jvm.MethodName)) ∈ bs_al := bs_al_in (bs_t4 _ (List.mem_of_getElem? (i := 77) rfl)) rfl
theorem qX11_238 : bs_cv "BalloonStall" 238 mX5_lostWith 2 5 := ⟨kX5_lostWith, bsw_101, bsw_102, bsw_103, by decide, _, rfl, rfl⟩
theorem bsw_104 : (Jvm.Cond.code ({ cls := "BalloonStall$Net", name := "parts", desc := "(LBalloonStall$Figure;I)I" } : Jvm.MethodName) prog_7_method_7_code (5 : Nat) (Option.some Jvm.ClassFile.FieldType.int)) ∈ bs_al := bs_al_in (bs_t4 _ (List.mem_of_getElem? (i := 92) rfl)) rfl
theorem kX5_parts : bs_cw mX5_parts 2 := ⟨bsw_99, bsw_104, by decide +kernel, by decide +kernel, by decide +kernel⟩
theorem bsw_105 : (Jvm.Cond.methodLink "BalloonStall" (242 : Nat) ({ cls := "BalloonStall$Net", name := "parts", desc := "(LBalloonStall$Figure;I)I" } : Jvm.MethodName)) ∈ bs_al := bs_al_in (bs_t4 _ (List.mem_of_getElem? (i := 89) rfl)) rfl
theorem bsw_106 : (Jvm.Cond.instanceMethod ({ cls := "BalloonStall$Net", name := "parts", desc := "(LBalloonStall$Figure;I)I" } : Jvm.MethodName)) ∈ bs_al := bs_al_in (bs_t4 _ (List.mem_of_getElem? (i := 90) rfl)) rfl
theorem bsw_107 : (Jvm.Cond.selects "BalloonStall$Net" ({ cls := "BalloonStall$Net", name := "parts", desc := "(LBalloonStall$Figure;I)I" } : Jvm.MethodName) ({ cls := "BalloonStall$Net", name := "parts", desc := "(LBalloonStall$Figure;I)I" } : Jvm.MethodName)) ∈ bs_al := bs_al_in (bs_t4 _ (List.mem_of_getElem? (i := 91) rfl)) rfl
theorem qX11_242 : bs_cv "BalloonStall" 242 mX5_parts 2 5 := ⟨kX5_parts, bsw_105, bsw_106, bsw_107, by decide, _, rfl, rfl⟩
theorem bsw_108 : (Jvm.Cond.code ({ cls := "BalloonStall$Net", name := "weakestOf", desc := "(LBalloonStall$Figure;)I" } : Jvm.MethodName) prog_7_method_6_code (6 : Nat) (Option.some Jvm.ClassFile.FieldType.int)) ∈ bs_al := bs_al_in (bs_t4 _ (List.mem_of_getElem? (i := 104) rfl)) rfl
theorem kX5_weakestOf : bs_cw mX5_weakestOf 1 := ⟨bsw_99, bsw_108, by decide +kernel, by decide +kernel, by decide +kernel⟩
theorem bsw_109 : (Jvm.Cond.methodLink "BalloonStall" (245 : Nat) ({ cls := "BalloonStall$Net", name := "weakestOf", desc := "(LBalloonStall$Figure;)I" } : Jvm.MethodName)) ∈ bs_al := bs_al_in (bs_t4 _ (List.mem_of_getElem? (i := 101) rfl)) rfl
theorem bsw_110 : (Jvm.Cond.instanceMethod ({ cls := "BalloonStall$Net", name := "weakestOf", desc := "(LBalloonStall$Figure;)I" } : Jvm.MethodName)) ∈ bs_al := bs_al_in (bs_t4 _ (List.mem_of_getElem? (i := 102) rfl)) rfl
theorem bsw_111 : (Jvm.Cond.selects "BalloonStall$Net" ({ cls := "BalloonStall$Net", name := "weakestOf", desc := "(LBalloonStall$Figure;)I" } : Jvm.MethodName) ({ cls := "BalloonStall$Net", name := "weakestOf", desc := "(LBalloonStall$Figure;)I" } : Jvm.MethodName)) ∈ bs_al := bs_al_in (bs_t4 _ (List.mem_of_getElem? (i := 103) rfl)) rfl
theorem qX11_245 : bs_cv "BalloonStall" 245 mX5_weakestOf 1 5 := ⟨kX5_weakestOf, bsw_109, bsw_110, bsw_111, by decide, _, rfl, rfl⟩
theorem bsw_112 : (Jvm.Cond.code ({ cls := "BalloonStall$Figure", name := "joinTwo", desc := "(LBalloonStall$Figure;LBalloonStall$Figure;II)V" } : Jvm.MethodName) prog_3_method_24_code (9 : Nat) (Option.none : Option Jvm.ClassFile.FieldType)) ∈ bs_al := bs_al_in (bs_t4 _ (List.mem_of_getElem? (i := 114) rfl)) rfl
theorem kX1_joinTwo : bs_cw mX1_joinTwo 4 := ⟨bsw_33, bsw_112, by decide +kernel, by decide +kernel, by decide +kernel⟩
theorem bsw_113 : (Jvm.Cond.methodLink "BalloonStall" (249 : Nat) ({ cls := "BalloonStall$Figure", name := "joinTwo", desc := "(LBalloonStall$Figure;LBalloonStall$Figure;II)V" } : Jvm.MethodName)) ∈ bs_al := bs_al_in (bs_t4 _ (List.mem_of_getElem? (i := 111) rfl)) rfl
theorem bsw_114 : (Jvm.Cond.instanceMethod ({ cls := "BalloonStall$Figure", name := "joinTwo", desc := "(LBalloonStall$Figure;LBalloonStall$Figure;II)V" } : Jvm.MethodName)) ∈ bs_al := bs_al_in (bs_t4 _ (List.mem_of_getElem? (i := 112) rfl)) rfl
theorem bsw_115 : (Jvm.Cond.selects "BalloonStall$Figure" ({ cls := "BalloonStall$Figure", name := "joinTwo", desc := "(LBalloonStall$Figure;LBalloonStall$Figure;II)V" } : Jvm.MethodName) ({ cls := "BalloonStall$Figure", name := "joinTwo", desc := "(LBalloonStall$Figure;LBalloonStall$Figure;II)V" } : Jvm.MethodName)) ∈ bs_al := bs_al_in (bs_t4 _ (List.mem_of_getElem? (i := 113) rfl)) rfl
theorem qX11_249 : bs_cv "BalloonStall" 249 mX1_joinTwo 4 1 := ⟨kX1_joinTwo, bsw_113, bsw_114, bsw_115, by decide, _, rfl, rfl⟩
theorem bsw_116 : (Jvm.Cond.initialized "BalloonStall$Matcher") ∈ bs_al := bs_al_in (bs_t1 _ (List.mem_of_getElem? (i := 9) rfl)) rfl
theorem bsw_117 : (Jvm.Cond.code ({ cls := "BalloonStall$Matcher", name := "mayCompare", desc := "(LBalloonStall$Figure;)Z" } : Jvm.MethodName) prog_6_method_2_code (1 : Nat) (Option.some Jvm.ClassFile.FieldType.boolean)) ∈ bs_al := bs_al_in (bs_t4 _ (List.mem_of_getElem? (i := 124) rfl)) rfl
theorem kX4_mayCompare : bs_cw mX4_mayCompare 1 := ⟨bsw_116, bsw_117, by decide +kernel, by decide +kernel, by decide +kernel⟩
theorem bsw_118 : (Jvm.Cond.methodLink "BalloonStall" (253 : Nat) ({ cls := "BalloonStall$Matcher", name := "mayCompare", desc := "(LBalloonStall$Figure;)Z" } : Jvm.MethodName)) ∈ bs_al := bs_al_in (bs_t4 _ (List.mem_of_getElem? (i := 122) rfl)) rfl
theorem bsw_119 : (Jvm.Cond.static ({ cls := "BalloonStall$Matcher", name := "mayCompare", desc := "(LBalloonStall$Figure;)Z" } : Jvm.MethodName)) ∈ bs_al := bs_al_in (bs_t4 _ (List.mem_of_getElem? (i := 123) rfl)) rfl
theorem qX11_253 : bs_cs "BalloonStall" 253 mX4_mayCompare 1 := ⟨kX4_mayCompare, bsw_118, bsw_119⟩
theorem bsw_120 : (Jvm.Cond.code ({ cls := "BalloonStall$Matcher", name := "matches", desc := "(LBalloonStall$Figure;LBalloonStall$Figure;)Z" } : Jvm.MethodName) prog_6_method_3_code (3 : Nat) (Option.some Jvm.ClassFile.FieldType.boolean)) ∈ bs_al := bs_al_in (bs_t4 _ (List.mem_of_getElem? (i := 128) rfl)) rfl
theorem kX4_matches : bs_cw mX4_matches 2 := ⟨bsw_116, bsw_120, by decide +kernel, by decide +kernel, by decide +kernel⟩
theorem bsw_121 : (Jvm.Cond.methodLink "BalloonStall" (257 : Nat) ({ cls := "BalloonStall$Matcher", name := "matches", desc := "(LBalloonStall$Figure;LBalloonStall$Figure;)Z" } : Jvm.MethodName)) ∈ bs_al := bs_al_in (bs_t4 _ (List.mem_of_getElem? (i := 125) rfl)) rfl
theorem bsw_122 : (Jvm.Cond.instanceMethod ({ cls := "BalloonStall$Matcher", name := "matches", desc := "(LBalloonStall$Figure;LBalloonStall$Figure;)Z" } : Jvm.MethodName)) ∈ bs_al := bs_al_in (bs_t4 _ (List.mem_of_getElem? (i := 126) rfl)) rfl
theorem bsw_123 : (Jvm.Cond.selects "BalloonStall$Matcher" ({ cls := "BalloonStall$Matcher", name := "matches", desc := "(LBalloonStall$Figure;LBalloonStall$Figure;)Z" } : Jvm.MethodName) ({ cls := "BalloonStall$Matcher", name := "matches", desc := "(LBalloonStall$Figure;LBalloonStall$Figure;)Z" } : Jvm.MethodName)) ∈ bs_al := bs_al_in (bs_t4 _ (List.mem_of_getElem? (i := 127) rfl)) rfl
theorem qX11_257 : bs_cv "BalloonStall" 257 mX4_matches 2 4 := ⟨kX4_matches, bsw_121, bsw_122, bsw_123, by decide, _, rfl, rfl⟩
theorem bsw_124 : (Jvm.Cond.code ({ cls := "BalloonStall$Net", name := "measure", desc := "(LBalloonStall$Figure;I)V" } : Jvm.MethodName) prog_7_method_10_code (6 : Nat) (Option.none : Option Jvm.ClassFile.FieldType)) ∈ bs_al := bs_al_in (bs_t4 _ (List.mem_of_getElem? (i := 169) rfl)) rfl
theorem kX5_measure : bs_cw mX5_measure 2 := ⟨bsw_99, bsw_124, by decide +kernel, by decide +kernel, by decide +kernel⟩
theorem bsw_125 : (Jvm.Cond.methodLink "BalloonStall" (264 : Nat) ({ cls := "BalloonStall$Net", name := "measure", desc := "(LBalloonStall$Figure;I)V" } : Jvm.MethodName)) ∈ bs_al := bs_al_in (bs_t4 _ (List.mem_of_getElem? (i := 166) rfl)) rfl
theorem bsw_126 : (Jvm.Cond.instanceMethod ({ cls := "BalloonStall$Net", name := "measure", desc := "(LBalloonStall$Figure;I)V" } : Jvm.MethodName)) ∈ bs_al := bs_al_in (bs_t4 _ (List.mem_of_getElem? (i := 167) rfl)) rfl
theorem bsw_127 : (Jvm.Cond.selects "BalloonStall$Net" ({ cls := "BalloonStall$Net", name := "measure", desc := "(LBalloonStall$Figure;I)V" } : Jvm.MethodName) ({ cls := "BalloonStall$Net", name := "measure", desc := "(LBalloonStall$Figure;I)V" } : Jvm.MethodName)) ∈ bs_al := bs_al_in (bs_t4 _ (List.mem_of_getElem? (i := 168) rfl)) rfl
theorem qX11_264 : bs_cv "BalloonStall" 264 mX5_measure 2 5 := ⟨kX5_measure, bsw_125, bsw_126, bsw_127, by decide, _, rfl, rfl⟩
theorem bsw_128 : (Jvm.Cond.code ({ cls := "BalloonStall$Net", name := "spanOf", desc := "(LBalloonStall$Figure;)I" } : Jvm.MethodName) prog_7_method_12_code (5 : Nat) (Option.some Jvm.ClassFile.FieldType.int)) ∈ bs_al := bs_al_in (bs_t4 _ (List.mem_of_getElem? (i := 181) rfl)) rfl
theorem kX5_spanOf : bs_cw mX5_spanOf 1 := ⟨bsw_99, bsw_128, by decide +kernel, by decide +kernel, by decide +kernel⟩
theorem bsw_129 : (Jvm.Cond.methodLink "BalloonStall" (271 : Nat) ({ cls := "BalloonStall$Net", name := "spanOf", desc := "(LBalloonStall$Figure;)I" } : Jvm.MethodName)) ∈ bs_al := bs_al_in (bs_t4 _ (List.mem_of_getElem? (i := 178) rfl)) rfl
theorem bsw_130 : (Jvm.Cond.instanceMethod ({ cls := "BalloonStall$Net", name := "spanOf", desc := "(LBalloonStall$Figure;)I" } : Jvm.MethodName)) ∈ bs_al := bs_al_in (bs_t4 _ (List.mem_of_getElem? (i := 179) rfl)) rfl
theorem bsw_131 : (Jvm.Cond.selects "BalloonStall$Net" ({ cls := "BalloonStall$Net", name := "spanOf", desc := "(LBalloonStall$Figure;)I" } : Jvm.MethodName) ({ cls := "BalloonStall$Net", name := "spanOf", desc := "(LBalloonStall$Figure;)I" } : Jvm.MethodName)) ∈ bs_al := bs_al_in (bs_t4 _ (List.mem_of_getElem? (i := 180) rfl)) rfl
theorem qX11_271 : bs_cv "BalloonStall" 271 mX5_spanOf 1 5 := ⟨kX5_spanOf, bsw_129, bsw_130, bsw_131, by decide, _, rfl, rfl⟩
theorem bsw_132 : (Jvm.Cond.code ({ cls := "BalloonStall$Net", name := "strokesOf", desc := "(LBalloonStall$Figure;)I" } : Jvm.MethodName) prog_7_method_9_code (6 : Nat) (Option.some Jvm.ClassFile.FieldType.int)) ∈ bs_al := bs_al_in (bs_t4 _ (List.mem_of_getElem? (i := 191) rfl)) rfl
theorem kX5_strokesOf : bs_cw mX5_strokesOf 1 := ⟨bsw_99, bsw_132, by decide +kernel, by decide +kernel, by decide +kernel⟩
theorem bsw_133 : (Jvm.Cond.methodLink "BalloonStall" (274 : Nat) ({ cls := "BalloonStall$Net", name := "strokesOf", desc := "(LBalloonStall$Figure;)I" } : Jvm.MethodName)) ∈ bs_al := bs_al_in (bs_t4 _ (List.mem_of_getElem? (i := 188) rfl)) rfl
theorem bsw_134 : (Jvm.Cond.instanceMethod ({ cls := "BalloonStall$Net", name := "strokesOf", desc := "(LBalloonStall$Figure;)I" } : Jvm.MethodName)) ∈ bs_al := bs_al_in (bs_t4 _ (List.mem_of_getElem? (i := 189) rfl)) rfl
theorem bsw_135 : (Jvm.Cond.selects "BalloonStall$Net" ({ cls := "BalloonStall$Net", name := "strokesOf", desc := "(LBalloonStall$Figure;)I" } : Jvm.MethodName) ({ cls := "BalloonStall$Net", name := "strokesOf", desc := "(LBalloonStall$Figure;)I" } : Jvm.MethodName)) ∈ bs_al := bs_al_in (bs_t4 _ (List.mem_of_getElem? (i := 190) rfl)) rfl
theorem qX11_274 : bs_cv "BalloonStall" 274 mX5_strokesOf 1 5 := ⟨kX5_strokesOf, bsw_133, bsw_134, bsw_135, by decide, _, rfl, rfl⟩
theorem bsw_136 : (Jvm.Cond.code ({ cls := "BalloonStall$Sorts", name := "has", desc := "(I)Z" } : Jvm.MethodName) prog_10_method_3_code (2 : Nat) (Option.some Jvm.ClassFile.FieldType.boolean)) ∈ bs_al := bs_al_in (bs_t4 _ (List.mem_of_getElem? (i := 201) rfl)) rfl
theorem kX8_has : bs_cw mX8_has 1 := ⟨bsw_5, bsw_136, by decide +kernel, by decide +kernel, by decide +kernel⟩
theorem bsw_137 : (Jvm.Cond.methodLink "BalloonStall" (277 : Nat) ({ cls := "BalloonStall$Sorts", name := "has", desc := "(I)Z" } : Jvm.MethodName)) ∈ bs_al := bs_al_in (bs_t4 _ (List.mem_of_getElem? (i := 198) rfl)) rfl
theorem bsw_138 : (Jvm.Cond.instanceMethod ({ cls := "BalloonStall$Sorts", name := "has", desc := "(I)Z" } : Jvm.MethodName)) ∈ bs_al := bs_al_in (bs_t4 _ (List.mem_of_getElem? (i := 199) rfl)) rfl
theorem bsw_139 : (Jvm.Cond.selects "BalloonStall$Sorts" ({ cls := "BalloonStall$Sorts", name := "has", desc := "(I)Z" } : Jvm.MethodName) ({ cls := "BalloonStall$Sorts", name := "has", desc := "(I)Z" } : Jvm.MethodName)) ∈ bs_al := bs_al_in (bs_t4 _ (List.mem_of_getElem? (i := 200) rfl)) rfl
theorem qX11_277 : bs_cv "BalloonStall" 277 mX8_has 1 8 := ⟨kX8_has, bsw_137, bsw_138, bsw_139, by decide, _, rfl, rfl⟩
theorem bsw_140 : (Jvm.Cond.code ({ cls := "BalloonStall$Maker", name := "fewestFor", desc := "(LBalloonStall$Figure;IILBalloonStall$Sorts;)I" } : Jvm.MethodName) prog_5_method_2_code (6 : Nat) (Option.some Jvm.ClassFile.FieldType.int)) ∈ bs_al := bs_al_in (bs_t4 _ (List.mem_of_getElem? (i := 205) rfl)) rfl
theorem kX3_fewestFor : bs_cw mX3_fewestFor 4 := ⟨bsw_1, bsw_140, by decide +kernel, by decide +kernel, by decide +kernel⟩
theorem bsw_141 : (Jvm.Cond.methodLink "BalloonStall" (280 : Nat) ({ cls := "BalloonStall$Maker", name := "fewestFor", desc := "(LBalloonStall$Figure;IILBalloonStall$Sorts;)I" } : Jvm.MethodName)) ∈ bs_al := bs_al_in (bs_t4 _ (List.mem_of_getElem? (i := 202) rfl)) rfl
theorem bsw_142 : (Jvm.Cond.instanceMethod ({ cls := "BalloonStall$Maker", name := "fewestFor", desc := "(LBalloonStall$Figure;IILBalloonStall$Sorts;)I" } : Jvm.MethodName)) ∈ bs_al := bs_al_in (bs_t4 _ (List.mem_of_getElem? (i := 203) rfl)) rfl
theorem bsw_143 : (Jvm.Cond.selects "BalloonStall$Maker" ({ cls := "BalloonStall$Maker", name := "fewestFor", desc := "(LBalloonStall$Figure;IILBalloonStall$Sorts;)I" } : Jvm.MethodName) ({ cls := "BalloonStall$Maker", name := "fewestFor", desc := "(LBalloonStall$Figure;IILBalloonStall$Sorts;)I" } : Jvm.MethodName)) ∈ bs_al := bs_al_in (bs_t4 _ (List.mem_of_getElem? (i := 204) rfl)) rfl
theorem qX11_280 : bs_cv "BalloonStall" 280 mX3_fewestFor 4 3 := ⟨kX3_fewestFor, bsw_141, bsw_142, bsw_143, by decide, _, rfl, rfl⟩
theorem bsw_144 : (Jvm.Cond.code ({ cls := "BalloonStall", name := "made", desc := "(II)I" } : Jvm.MethodName) prog_1_method_24_code (4 : Nat) (Option.some Jvm.ClassFile.FieldType.int)) ∈ bs_al := bs_al_in (bs_t4 _ (List.mem_of_getElem? (i := 197) rfl)) rfl
theorem kX11_made : bs_cw mX11_made 2 := ⟨bsw_10, bsw_144, by decide +kernel, by decide +kernel, by decide +kernel⟩
theorem bsw_145 : (Jvm.Cond.methodLink "BalloonStall" (284 : Nat) ({ cls := "BalloonStall", name := "made", desc := "(II)I" } : Jvm.MethodName)) ∈ bs_al := bs_al_in (bs_t5 _ (List.mem_of_getElem? (i := 5) rfl)) rfl
theorem bsw_146 : (Jvm.Cond.instanceMethod ({ cls := "BalloonStall", name := "made", desc := "(II)I" } : Jvm.MethodName)) ∈ bs_al := bs_al_in (bs_t4 _ (List.mem_of_getElem? (i := 195) rfl)) rfl
theorem bsw_147 : (Jvm.Cond.selects "BalloonStall" ({ cls := "BalloonStall", name := "made", desc := "(II)I" } : Jvm.MethodName) ({ cls := "BalloonStall", name := "made", desc := "(II)I" } : Jvm.MethodName)) ∈ bs_al := bs_al_in (bs_t4 _ (List.mem_of_getElem? (i := 196) rfl)) rfl
theorem qX11_284 : bs_cv "BalloonStall" 284 mX11_made 2 11 := ⟨kX11_made, bsw_145, bsw_146, bsw_147, by decide, _, rfl, rfl⟩
theorem bsw_148 : (Jvm.Cond.code ({ cls := "BalloonStall$Maker", name := "setAt", desc := "(III)I" } : Jvm.MethodName) prog_5_method_3_code (4 : Nat) (Option.some Jvm.ClassFile.FieldType.int)) ∈ bs_al := bs_al_in (bs_t5 _ (List.mem_of_getElem? (i := 9) rfl)) rfl
theorem kX3_setAt : bs_cw mX3_setAt 3 := ⟨bsw_1, bsw_148, by decide +kernel, by decide +kernel, by decide +kernel⟩
theorem bsw_149 : (Jvm.Cond.methodLink "BalloonStall" (287 : Nat) ({ cls := "BalloonStall$Maker", name := "setAt", desc := "(III)I" } : Jvm.MethodName)) ∈ bs_al := bs_al_in (bs_t5 _ (List.mem_of_getElem? (i := 6) rfl)) rfl
theorem bsw_150 : (Jvm.Cond.instanceMethod ({ cls := "BalloonStall$Maker", name := "setAt", desc := "(III)I" } : Jvm.MethodName)) ∈ bs_al := bs_al_in (bs_t5 _ (List.mem_of_getElem? (i := 7) rfl)) rfl
theorem bsw_151 : (Jvm.Cond.selects "BalloonStall$Maker" ({ cls := "BalloonStall$Maker", name := "setAt", desc := "(III)I" } : Jvm.MethodName) ({ cls := "BalloonStall$Maker", name := "setAt", desc := "(III)I" } : Jvm.MethodName)) ∈ bs_al := bs_al_in (bs_t5 _ (List.mem_of_getElem? (i := 8) rfl)) rfl
theorem qX11_287 : bs_cv "BalloonStall" 287 mX3_setAt 3 3 := ⟨kX3_setAt, bsw_149, bsw_150, bsw_151, by decide, _, rfl, rfl⟩
theorem bsw_152 : (Jvm.Cond.code ({ cls := "BalloonStall$Net", name := "leastTwice", desc := "(LBalloonStall$Figure;)I" } : Jvm.MethodName) prog_7_method_13_code (8 : Nat) (Option.some Jvm.ClassFile.FieldType.int)) ∈ bs_al := bs_al_in (bs_t5 _ (List.mem_of_getElem? (i := 17) rfl)) rfl
theorem kX5_leastTwice : bs_cw mX5_leastTwice 1 := ⟨bsw_99, bsw_152, by decide +kernel, by decide +kernel, by decide +kernel⟩
theorem bsw_153 : (Jvm.Cond.methodLink "BalloonStall" (290 : Nat) ({ cls := "BalloonStall$Net", name := "leastTwice", desc := "(LBalloonStall$Figure;)I" } : Jvm.MethodName)) ∈ bs_al := bs_al_in (bs_t5 _ (List.mem_of_getElem? (i := 14) rfl)) rfl
theorem bsw_154 : (Jvm.Cond.instanceMethod ({ cls := "BalloonStall$Net", name := "leastTwice", desc := "(LBalloonStall$Figure;)I" } : Jvm.MethodName)) ∈ bs_al := bs_al_in (bs_t5 _ (List.mem_of_getElem? (i := 15) rfl)) rfl
theorem bsw_155 : (Jvm.Cond.selects "BalloonStall$Net" ({ cls := "BalloonStall$Net", name := "leastTwice", desc := "(LBalloonStall$Figure;)I" } : Jvm.MethodName) ({ cls := "BalloonStall$Net", name := "leastTwice", desc := "(LBalloonStall$Figure;)I" } : Jvm.MethodName)) ∈ bs_al := bs_al_in (bs_t5 _ (List.mem_of_getElem? (i := 16) rfl)) rfl
theorem qX11_290 : bs_cv "BalloonStall" 290 mX5_leastTwice 1 5 := ⟨kX5_leastTwice, bsw_153, bsw_154, bsw_155, by decide, _, rfl, rfl⟩
theorem bsw_156 : (Jvm.Cond.initialized "BalloonStall$Stall") ∈ bs_al := bs_al_in (bs_t1 _ (List.mem_of_getElem? (i := 13) rfl)) rfl
theorem bsw_157 : (Jvm.Cond.code ({ cls := "BalloonStall$Stall", name := "queue", desc := "(III)I" } : Jvm.MethodName) prog_11_method_2_code (4 : Nat) (Option.some Jvm.ClassFile.FieldType.int)) ∈ bs_al := bs_al_in (bs_t5 _ (List.mem_of_getElem? (i := 36) rfl)) rfl
theorem kX9_queue : bs_cw mX9_queue 3 := ⟨bsw_156, bsw_157, by decide +kernel, by decide +kernel, by decide +kernel⟩
theorem bsw_158 : (Jvm.Cond.methodLink "BalloonStall" (302 : Nat) ({ cls := "BalloonStall$Stall", name := "queue", desc := "(III)I" } : Jvm.MethodName)) ∈ bs_al := bs_al_in (bs_t5 _ (List.mem_of_getElem? (i := 33) rfl)) rfl
theorem bsw_159 : (Jvm.Cond.instanceMethod ({ cls := "BalloonStall$Stall", name := "queue", desc := "(III)I" } : Jvm.MethodName)) ∈ bs_al := bs_al_in (bs_t5 _ (List.mem_of_getElem? (i := 34) rfl)) rfl
theorem bsw_160 : (Jvm.Cond.selects "BalloonStall$Stall" ({ cls := "BalloonStall$Stall", name := "queue", desc := "(III)I" } : Jvm.MethodName) ({ cls := "BalloonStall$Stall", name := "queue", desc := "(III)I" } : Jvm.MethodName)) ∈ bs_al := bs_al_in (bs_t5 _ (List.mem_of_getElem? (i := 35) rfl)) rfl
theorem qX11_302 : bs_cv "BalloonStall" 302 mX9_queue 3 9 := ⟨kX9_queue, bsw_158, bsw_159, bsw_160, by decide, _, rfl, rfl⟩
theorem bsw_161 : (Jvm.Cond.code ({ cls := "BalloonStall$Stall", name := "clear", desc := "()I" } : Jvm.MethodName) prog_11_method_3_code (2 : Nat) (Option.some Jvm.ClassFile.FieldType.int)) ∈ bs_al := bs_al_in (bs_t5 _ (List.mem_of_getElem? (i := 44) rfl)) rfl
theorem kX9_clear : bs_cw mX9_clear 0 := ⟨bsw_156, bsw_161, by decide +kernel, by decide +kernel, by decide +kernel⟩
theorem bsw_162 : (Jvm.Cond.methodLink "BalloonStall" (305 : Nat) ({ cls := "BalloonStall$Stall", name := "clear", desc := "()I" } : Jvm.MethodName)) ∈ bs_al := bs_al_in (bs_t5 _ (List.mem_of_getElem? (i := 41) rfl)) rfl
theorem bsw_163 : (Jvm.Cond.instanceMethod ({ cls := "BalloonStall$Stall", name := "clear", desc := "()I" } : Jvm.MethodName)) ∈ bs_al := bs_al_in (bs_t5 _ (List.mem_of_getElem? (i := 42) rfl)) rfl
theorem bsw_164 : (Jvm.Cond.selects "BalloonStall$Stall" ({ cls := "BalloonStall$Stall", name := "clear", desc := "()I" } : Jvm.MethodName) ({ cls := "BalloonStall$Stall", name := "clear", desc := "()I" } : Jvm.MethodName)) ∈ bs_al := bs_al_in (bs_t5 _ (List.mem_of_getElem? (i := 43) rfl)) rfl
theorem qX11_305 : bs_cv "BalloonStall" 305 mX9_clear 0 9 := ⟨kX9_clear, bsw_162, bsw_163, bsw_164, by decide, _, rfl, rfl⟩
theorem bsw_165 : (Jvm.Cond.code ({ cls := "BalloonStall$Stall", name := "serveAll", desc := "([LBalloonStall$Figure;LBalloonStall$Sorts;J)I" } : Jvm.MethodName) prog_11_method_4_code (8 : Nat) (Option.some Jvm.ClassFile.FieldType.int)) ∈ bs_al := bs_al_in (bs_t5 _ (List.mem_of_getElem? (i := 52) rfl)) rfl
theorem kX9_serveAll : bs_cw mX9_serveAll 3 := ⟨bsw_156, bsw_165, by decide +kernel, by decide +kernel, by decide +kernel⟩
theorem bsw_166 : (Jvm.Cond.methodLink "BalloonStall" (308 : Nat) ({ cls := "BalloonStall$Stall", name := "serveAll", desc := "([LBalloonStall$Figure;LBalloonStall$Sorts;J)I" } : Jvm.MethodName)) ∈ bs_al := bs_al_in (bs_t5 _ (List.mem_of_getElem? (i := 49) rfl)) rfl
theorem bsw_167 : (Jvm.Cond.instanceMethod ({ cls := "BalloonStall$Stall", name := "serveAll", desc := "([LBalloonStall$Figure;LBalloonStall$Sorts;J)I" } : Jvm.MethodName)) ∈ bs_al := bs_al_in (bs_t5 _ (List.mem_of_getElem? (i := 50) rfl)) rfl
theorem bsw_168 : (Jvm.Cond.selects "BalloonStall$Stall" ({ cls := "BalloonStall$Stall", name := "serveAll", desc := "([LBalloonStall$Figure;LBalloonStall$Sorts;J)I" } : Jvm.MethodName) ({ cls := "BalloonStall$Stall", name := "serveAll", desc := "([LBalloonStall$Figure;LBalloonStall$Sorts;J)I" } : Jvm.MethodName)) ∈ bs_al := bs_al_in (bs_t5 _ (List.mem_of_getElem? (i := 51) rfl)) rfl
theorem qX11_308 : bs_cv "BalloonStall" 308 mX9_serveAll 3 9 := ⟨kX9_serveAll, bsw_166, bsw_167, bsw_168, by decide, _, rfl, rfl⟩
theorem bsw_169 : (Jvm.Cond.code ({ cls := "BalloonStall", name := "ruleAt", desc := "(I)LBalloonStall$Rule;" } : Jvm.MethodName) prog_1_method_39_code (2 : Nat) (Option.some (Jvm.ClassFile.FieldType.object "BalloonStall$Rule"))) ∈ bs_al := bs_al_in (bs_t5 _ (List.mem_of_getElem? (i := 82) rfl)) rfl
theorem kX11_ruleAt : bs_cw mX11_ruleAt 1 := ⟨bsw_10, bsw_169, by decide +kernel, by decide +kernel, by decide +kernel⟩
theorem bsw_170 : (Jvm.Cond.methodLink "BalloonStall" (331 : Nat) ({ cls := "BalloonStall", name := "ruleAt", desc := "(I)LBalloonStall$Rule;" } : Jvm.MethodName)) ∈ bs_al := bs_al_in (bs_t5 _ (List.mem_of_getElem? (i := 79) rfl)) rfl
theorem bsw_171 : (Jvm.Cond.instanceMethod ({ cls := "BalloonStall", name := "ruleAt", desc := "(I)LBalloonStall$Rule;" } : Jvm.MethodName)) ∈ bs_al := bs_al_in (bs_t5 _ (List.mem_of_getElem? (i := 81) rfl)) rfl
theorem bsw_172 : (Jvm.Cond.selects "BalloonStall" ({ cls := "BalloonStall", name := "ruleAt", desc := "(I)LBalloonStall$Rule;" } : Jvm.MethodName) ({ cls := "BalloonStall", name := "ruleAt", desc := "(I)LBalloonStall$Rule;" } : Jvm.MethodName)) ∈ bs_al := bs_al_in (bs_ps4 (({ cls := "BalloonStall", name := "ruleAt", desc := "(I)LBalloonStall$Rule;" } : Jvm.MethodName), 15) (List.mem_of_getElem? (i := 0) rfl)) rfl
theorem qX11_331 : bs_cv "BalloonStall" 331 mX11_ruleAt 1 11 := ⟨kX11_ruleAt, bsw_170, bsw_171, bsw_172, by decide, _, rfl, rfl⟩
theorem bsw_173 : (Jvm.Cond.code ({ cls := "BalloonStall$Rule", name := "worthBy", desc := "([I[J)I" } : Jvm.MethodName) prog_8_method_3_code (7 : Nat) (Option.some Jvm.ClassFile.FieldType.int)) ∈ bs_al := bs_al_in (bs_t5 _ (List.mem_of_getElem? (i := 113) rfl)) rfl
theorem kX6_worthBy : bs_cw mX6_worthBy 2 := ⟨bsw_38, bsw_173, by decide +kernel, by decide +kernel, by decide +kernel⟩
theorem bsw_174 : (Jvm.Cond.methodLink "BalloonStall" (341 : Nat) ({ cls := "BalloonStall$Rule", name := "worthBy", desc := "([I[J)I" } : Jvm.MethodName)) ∈ bs_al := bs_al_in (bs_t6 _ (List.mem_of_getElem? (i := 4) rfl)) rfl
theorem bsw_175 : (Jvm.Cond.instanceMethod ({ cls := "BalloonStall$Rule", name := "worthBy", desc := "([I[J)I" } : Jvm.MethodName)) ∈ bs_al := bs_al_in (bs_t5 _ (List.mem_of_getElem? (i := 111) rfl)) rfl
theorem bsw_176 : (Jvm.Cond.selects "BalloonStall$Rule" ({ cls := "BalloonStall$Rule", name := "worthBy", desc := "([I[J)I" } : Jvm.MethodName) ({ cls := "BalloonStall$Rule", name := "worthBy", desc := "([I[J)I" } : Jvm.MethodName)) ∈ bs_al := bs_al_in (bs_t5 _ (List.mem_of_getElem? (i := 112) rfl)) rfl
theorem qX11_341 : bs_cv "BalloonStall" 341 mX6_worthBy 2 6 := ⟨kX6_worthBy, bsw_174, bsw_175, bsw_176, by decide, _, rfl, rfl⟩
theorem bsw_177 : (Jvm.Cond.initialized "BalloonStall$Ageing") ∈ bs_al := bs_al_in (bs_t1 _ (List.mem_of_getElem? (i := 12) rfl)) rfl
theorem bsw_178 : (Jvm.Cond.code ({ cls := "BalloonStall$Ageing", name := "turnTo", desc := "(LBalloonStall$Figure;LBalloonStall$Rule;)V" } : Jvm.MethodName) prog_2_method_2_code (3 : Nat) (Option.none : Option Jvm.ClassFile.FieldType)) ∈ bs_al := bs_al_in (bs_t5 _ (List.mem_of_getElem? (i := 86) rfl)) rfl
theorem kX0_turnTo : bs_cw mX0_turnTo 2 := ⟨bsw_177, bsw_178, by decide +kernel, by decide +kernel, by decide +kernel⟩
theorem bsw_179 : (Jvm.Cond.methodLink "BalloonStall" (345 : Nat) ({ cls := "BalloonStall$Ageing", name := "turnTo", desc := "(LBalloonStall$Figure;LBalloonStall$Rule;)V" } : Jvm.MethodName)) ∈ bs_al := bs_al_in (bs_t5 _ (List.mem_of_getElem? (i := 83) rfl)) rfl
theorem bsw_180 : (Jvm.Cond.instanceMethod ({ cls := "BalloonStall$Ageing", name := "turnTo", desc := "(LBalloonStall$Figure;LBalloonStall$Rule;)V" } : Jvm.MethodName)) ∈ bs_al := bs_al_in (bs_t5 _ (List.mem_of_getElem? (i := 84) rfl)) rfl
theorem bsw_181 : (Jvm.Cond.selects "BalloonStall$Ageing" ({ cls := "BalloonStall$Ageing", name := "turnTo", desc := "(LBalloonStall$Figure;LBalloonStall$Rule;)V" } : Jvm.MethodName) ({ cls := "BalloonStall$Ageing", name := "turnTo", desc := "(LBalloonStall$Figure;LBalloonStall$Rule;)V" } : Jvm.MethodName)) ∈ bs_al := bs_al_in (bs_t5 _ (List.mem_of_getElem? (i := 85) rfl)) rfl
theorem qX11_345 : bs_cv "BalloonStall" 345 mX0_turnTo 2 0 := ⟨kX0_turnTo, bsw_179, bsw_180, bsw_181, by decide, _, rfl, rfl⟩
theorem bsw_182 : (Jvm.Cond.code ({ cls := "BalloonStall$Ageing", name := "reach", desc := "(ILBalloonStall$Figure;LBalloonStall$Rule;LBalloonStall$Sorts;LBalloonStall$Net;)V" } : Jvm.MethodName) prog_2_method_4_code (8 : Nat) (Option.none : Option Jvm.ClassFile.FieldType)) ∈ bs_al := bs_al_in (bs_t5 _ (List.mem_of_getElem? (i := 91) rfl)) rfl
theorem kX0_reach : bs_cw mX0_reach 5 := ⟨bsw_177, bsw_182, by decide +kernel, by decide +kernel, by decide +kernel⟩
theorem bsw_183 : (Jvm.Cond.methodLink "BalloonStall" (349 : Nat) ({ cls := "BalloonStall$Ageing", name := "reach", desc := "(ILBalloonStall$Figure;LBalloonStall$Rule;LBalloonStall$Sorts;LBalloonStall$Net;)V" } : Jvm.MethodName)) ∈ bs_al := bs_al_in (bs_t5 _ (List.mem_of_getElem? (i := 88) rfl)) rfl
theorem bsw_184 : (Jvm.Cond.instanceMethod ({ cls := "BalloonStall$Ageing", name := "reach", desc := "(ILBalloonStall$Figure;LBalloonStall$Rule;LBalloonStall$Sorts;LBalloonStall$Net;)V" } : Jvm.MethodName)) ∈ bs_al := bs_al_in (bs_t5 _ (List.mem_of_getElem? (i := 89) rfl)) rfl
theorem bsw_185 : (Jvm.Cond.selects "BalloonStall$Ageing" ({ cls := "BalloonStall$Ageing", name := "reach", desc := "(ILBalloonStall$Figure;LBalloonStall$Rule;LBalloonStall$Sorts;LBalloonStall$Net;)V" } : Jvm.MethodName) ({ cls := "BalloonStall$Ageing", name := "reach", desc := "(ILBalloonStall$Figure;LBalloonStall$Rule;LBalloonStall$Sorts;LBalloonStall$Net;)V" } : Jvm.MethodName)) ∈ bs_al := bs_al_in (bs_t5 _ (List.mem_of_getElem? (i := 90) rfl)) rfl
theorem qX11_349 : bs_cv "BalloonStall" 349 mX0_reach 5 0 := ⟨kX0_reach, bsw_183, bsw_184, bsw_185, by decide, _, rfl, rfl⟩
theorem bsw_186 : (Jvm.Cond.code ({ cls := "BalloonStall$Ageing", name := "lengthAt", desc := "(II)I" } : Jvm.MethodName) prog_2_method_3_code (3 : Nat) (Option.some Jvm.ClassFile.FieldType.int)) ∈ bs_al := bs_al_in (bs_t5 _ (List.mem_of_getElem? (i := 101) rfl)) rfl
theorem kX0_lengthAt : bs_cw mX0_lengthAt 2 := ⟨bsw_177, bsw_186, by decide +kernel, by decide +kernel, by decide +kernel⟩
theorem bsw_187 : (Jvm.Cond.methodLink "BalloonStall" (353 : Nat) ({ cls := "BalloonStall$Ageing", name := "lengthAt", desc := "(II)I" } : Jvm.MethodName)) ∈ bs_al := bs_al_in (bs_t5 _ (List.mem_of_getElem? (i := 138) rfl)) rfl
theorem bsw_188 : (Jvm.Cond.instanceMethod ({ cls := "BalloonStall$Ageing", name := "lengthAt", desc := "(II)I" } : Jvm.MethodName)) ∈ bs_al := bs_al_in (bs_t5 _ (List.mem_of_getElem? (i := 99) rfl)) rfl
theorem bsw_189 : (Jvm.Cond.selects "BalloonStall$Ageing" ({ cls := "BalloonStall$Ageing", name := "lengthAt", desc := "(II)I" } : Jvm.MethodName) ({ cls := "BalloonStall$Ageing", name := "lengthAt", desc := "(II)I" } : Jvm.MethodName)) ∈ bs_al := bs_al_in (bs_t5 _ (List.mem_of_getElem? (i := 100) rfl)) rfl
theorem qX11_353 : bs_cv "BalloonStall" 353 mX0_lengthAt 2 0 := ⟨kX0_lengthAt, bsw_187, bsw_188, bsw_189, by decide, _, rfl, rfl⟩
theorem bsw_190 : (Jvm.Cond.code ({ cls := "BalloonStall", name := "hasFallen", desc := "(LBalloonStall$Figure;II)Z" } : Jvm.MethodName) prog_1_method_40_code (4 : Nat) (Option.some Jvm.ClassFile.FieldType.boolean)) ∈ bs_al := bs_al_in (bs_t5 _ (List.mem_of_getElem? (i := 146) rfl)) rfl
theorem kX11_hasFallen : bs_cw mX11_hasFallen 3 := ⟨bsw_10, bsw_190, by decide +kernel, by decide +kernel, by decide +kernel⟩
theorem bsw_191 : (Jvm.Cond.methodLink "BalloonStall" (359 : Nat) ({ cls := "BalloonStall", name := "hasFallen", desc := "(LBalloonStall$Figure;II)Z" } : Jvm.MethodName)) ∈ bs_al := bs_al_in (bs_t5 _ (List.mem_of_getElem? (i := 143) rfl)) rfl
theorem bsw_192 : (Jvm.Cond.instanceMethod ({ cls := "BalloonStall", name := "hasFallen", desc := "(LBalloonStall$Figure;II)Z" } : Jvm.MethodName)) ∈ bs_al := bs_al_in (bs_t5 _ (List.mem_of_getElem? (i := 145) rfl)) rfl
theorem bsw_193 : (Jvm.Cond.selects "BalloonStall" ({ cls := "BalloonStall", name := "hasFallen", desc := "(LBalloonStall$Figure;II)Z" } : Jvm.MethodName) ({ cls := "BalloonStall", name := "hasFallen", desc := "(LBalloonStall$Figure;II)Z" } : Jvm.MethodName)) ∈ bs_al := bs_al_in (bs_ps4 (({ cls := "BalloonStall", name := "hasFallen", desc := "(LBalloonStall$Figure;II)Z" } : Jvm.MethodName), 15) (List.mem_of_getElem? (i := 4) rfl)) rfl
theorem qX11_359 : bs_cv "BalloonStall" 359 mX11_hasFallen 3 11 := ⟨kX11_hasFallen, bsw_191, bsw_192, bsw_193, by decide, _, rfl, rfl⟩
theorem bsw_194 : (Jvm.Cond.code ({ cls := "BalloonStall$Figure", name := "allBubbles", desc := "()I" } : Jvm.MethodName) prog_3_method_7_code (1 : Nat) (Option.some Jvm.ClassFile.FieldType.int)) ∈ bs_al := bs_al_in (bs_t4 _ (List.mem_of_getElem? (i := 213) rfl)) rfl
theorem kX1_allBubbles : bs_cw mX1_allBubbles 0 := ⟨bsw_33, bsw_194, by decide +kernel, by decide +kernel, by decide +kernel⟩
theorem bsw_195 : (Jvm.Cond.methodLink "BalloonStall" (366 : Nat) ({ cls := "BalloonStall$Figure", name := "allBubbles", desc := "()I" } : Jvm.MethodName)) ∈ bs_al := bs_al_in (bs_t5 _ (List.mem_of_getElem? (i := 147) rfl)) rfl
theorem bsw_196 : (Jvm.Cond.instanceMethod ({ cls := "BalloonStall$Figure", name := "allBubbles", desc := "()I" } : Jvm.MethodName)) ∈ bs_al := bs_al_in (bs_t4 _ (List.mem_of_getElem? (i := 211) rfl)) rfl
theorem bsw_197 : (Jvm.Cond.selects "BalloonStall$Figure" ({ cls := "BalloonStall$Figure", name := "allBubbles", desc := "()I" } : Jvm.MethodName) ({ cls := "BalloonStall$Figure", name := "allBubbles", desc := "()I" } : Jvm.MethodName)) ∈ bs_al := bs_al_in (bs_t4 _ (List.mem_of_getElem? (i := 212) rfl)) rfl
theorem qX11_366 : bs_cv "BalloonStall" 366 mX1_allBubbles 0 1 := ⟨kX1_allBubbles, bsw_195, bsw_196, bsw_197, by decide, _, rfl, rfl⟩
theorem bsw_198 : (Jvm.Cond.methodLink "BalloonStall$Ageing" (3 : Nat) ({ cls := "java/lang/Object", name := "<init>", desc := "()V" } : Jvm.MethodName)) ∈ bs_al := bs_al_in (bs_t2 _ (List.mem_of_getElem? (i := 104) rfl)) rfl
theorem oX0_3 : Cond.methodLink "BalloonStall$Ageing" 3 objectInit ∈ bs_al := bsw_198
theorem bsw_199 : (Jvm.Cond.methodLink "BalloonStall$Ageing" (48 : Nat) ({ cls := "java/lang/Math", name := "min", desc := "(II)I" } : Jvm.MethodName)) ∈ bs_al := bs_al_in (bs_t5 _ (List.mem_of_getElem? (i := 92) rfl)) rfl
theorem bsw_200 : (Jvm.Cond.static ({ cls := "java/lang/Math", name := "min", desc := "(II)I" } : Jvm.MethodName)) ∈ bs_al := bs_al_in (bs_t3 _ (List.mem_of_getElem? (i := 93) rfl)) rfl
theorem bsw_201 : (Jvm.Cond.code ({ cls := "java/lang/Math", name := "min", desc := "(II)I" } : Jvm.MethodName) prog_18_method_69_code (2 : Nat) (Option.some Jvm.ClassFile.FieldType.int)) ∈ bs_al := bs_al_in (bs_t3 _ (List.mem_of_getElem? (i := 94) rfl)) rfl
theorem xX0_48 : Cond.methodLink "BalloonStall$Ageing" 48 Lib.Math.min.name ∈ bs_al ∧ Cond.static Lib.Math.min.name ∈ bs_al ∧ Cond.initialized "java/lang/Math" ∈ bs_al ∧ Cond.code Lib.Math.min.name Lib.Math.min.code 2 (some .int) ∈ bs_al := ⟨bsw_199, bsw_200, bsw_85, bsw_201⟩
theorem bsw_202 : (Jvm.Cond.code ({ cls := "BalloonStall$Ageing", name := "ageOneHour", desc := "(ILBalloonStall$Figure;LBalloonStall$Rule;LBalloonStall$Sorts;LBalloonStall$Net;)V" } : Jvm.MethodName) prog_2_method_5_code (9 : Nat) (Option.none : Option Jvm.ClassFile.FieldType)) ∈ bs_al := bs_al_in (bs_t5 _ (List.mem_of_getElem? (i := 96) rfl)) rfl
theorem kX0_ageOneHour : bs_cw mX0_ageOneHour 5 := ⟨bsw_177, bsw_202, by decide +kernel, by decide +kernel, by decide +kernel⟩
theorem bsw_203 : (Jvm.Cond.methodLink "BalloonStall$Ageing" (54 : Nat) ({ cls := "BalloonStall$Ageing", name := "ageOneHour", desc := "(ILBalloonStall$Figure;LBalloonStall$Rule;LBalloonStall$Sorts;LBalloonStall$Net;)V" } : Jvm.MethodName)) ∈ bs_al := bs_al_in (bs_t5 _ (List.mem_of_getElem? (i := 93) rfl)) rfl
theorem bsw_204 : (Jvm.Cond.instanceMethod ({ cls := "BalloonStall$Ageing", name := "ageOneHour", desc := "(ILBalloonStall$Figure;LBalloonStall$Rule;LBalloonStall$Sorts;LBalloonStall$Net;)V" } : Jvm.MethodName)) ∈ bs_al := bs_al_in (bs_t5 _ (List.mem_of_getElem? (i := 95) rfl)) rfl
theorem bsw_205 : (Jvm.Cond.selects "BalloonStall$Ageing" ({ cls := "BalloonStall$Ageing", name := "ageOneHour", desc := "(ILBalloonStall$Figure;LBalloonStall$Rule;LBalloonStall$Sorts;LBalloonStall$Net;)V" } : Jvm.MethodName) ({ cls := "BalloonStall$Ageing", name := "ageOneHour", desc := "(ILBalloonStall$Figure;LBalloonStall$Rule;LBalloonStall$Sorts;LBalloonStall$Net;)V" } : Jvm.MethodName)) ∈ bs_al := bs_al_in (bs_ps4 (({ cls := "BalloonStall$Ageing", name := "ageOneHour", desc := "(ILBalloonStall$Figure;LBalloonStall$Rule;LBalloonStall$Sorts;LBalloonStall$Net;)V" } : Jvm.MethodName), 7) (List.mem_of_getElem? (i := 1) rfl)) rfl
theorem qX0_54 : bs_cv "BalloonStall$Ageing" 54 mX0_ageOneHour 5 0 := ⟨kX0_ageOneHour, bsw_203, bsw_204, bsw_205, by decide, _, rfl, rfl⟩
theorem bsw_206 : (Jvm.Cond.code ({ cls := "BalloonStall$Net", name := "countLive", desc := "(LBalloonStall$Figure;I)V" } : Jvm.MethodName) prog_7_method_4_code (4 : Nat) (Option.none : Option Jvm.ClassFile.FieldType)) ∈ bs_al := bs_al_in (bs_t4 _ (List.mem_of_getElem? (i := 82) rfl)) rfl
theorem kX5_countLive : bs_cw mX5_countLive 2 := ⟨bsw_99, bsw_206, by decide +kernel, by decide +kernel, by decide +kernel⟩
theorem bsw_207 : (Jvm.Cond.methodLink "BalloonStall$Ageing" (58 : Nat) ({ cls := "BalloonStall$Net", name := "countLive", desc := "(LBalloonStall$Figure;I)V" } : Jvm.MethodName)) ∈ bs_al := bs_al_in (bs_t5 _ (List.mem_of_getElem? (i := 97) rfl)) rfl
theorem bsw_208 : (Jvm.Cond.instanceMethod ({ cls := "BalloonStall$Net", name := "countLive", desc := "(LBalloonStall$Figure;I)V" } : Jvm.MethodName)) ∈ bs_al := bs_al_in (bs_t4 _ (List.mem_of_getElem? (i := 80) rfl)) rfl
theorem bsw_209 : (Jvm.Cond.selects "BalloonStall$Net" ({ cls := "BalloonStall$Net", name := "countLive", desc := "(LBalloonStall$Figure;I)V" } : Jvm.MethodName) ({ cls := "BalloonStall$Net", name := "countLive", desc := "(LBalloonStall$Figure;I)V" } : Jvm.MethodName)) ∈ bs_al := bs_al_in (bs_t4 _ (List.mem_of_getElem? (i := 81) rfl)) rfl
theorem qX0_58 : bs_cv "BalloonStall$Ageing" 58 mX5_countLive 2 5 := ⟨kX5_countLive, bsw_207, bsw_208, bsw_209, by decide, _, rfl, rfl⟩
theorem bsw_210 : (Jvm.Cond.methodLink "BalloonStall$Ageing" (67 : Nat) ({ cls := "BalloonStall$Ageing", name := "lengthAt", desc := "(II)I" } : Jvm.MethodName)) ∈ bs_al := bs_al_in (bs_t5 _ (List.mem_of_getElem? (i := 98) rfl)) rfl
theorem qX0_67 : bs_cv "BalloonStall$Ageing" 67 mX0_lengthAt 2 0 := ⟨kX0_lengthAt, bsw_210, bsw_188, bsw_189, by decide, _, rfl, rfl⟩
theorem bsw_211 : (Jvm.Cond.code ({ cls := "BalloonStall$Net", name := "liveEndsOf", desc := "(LBalloonStall$Figure;I)I" } : Jvm.MethodName) prog_7_method_5_code (3 : Nat) (Option.some Jvm.ClassFile.FieldType.int)) ∈ bs_al := bs_al_in (bs_t5 _ (List.mem_of_getElem? (i := 105) rfl)) rfl
theorem kX5_liveEndsOf : bs_cw mX5_liveEndsOf 2 := ⟨bsw_99, bsw_211, by decide +kernel, by decide +kernel, by decide +kernel⟩
theorem bsw_212 : (Jvm.Cond.methodLink "BalloonStall$Ageing" (70 : Nat) ({ cls := "BalloonStall$Net", name := "liveEndsOf", desc := "(LBalloonStall$Figure;I)I" } : Jvm.MethodName)) ∈ bs_al := bs_al_in (bs_t5 _ (List.mem_of_getElem? (i := 102) rfl)) rfl
theorem bsw_213 : (Jvm.Cond.instanceMethod ({ cls := "BalloonStall$Net", name := "liveEndsOf", desc := "(LBalloonStall$Figure;I)I" } : Jvm.MethodName)) ∈ bs_al := bs_al_in (bs_t5 _ (List.mem_of_getElem? (i := 103) rfl)) rfl
theorem bsw_214 : (Jvm.Cond.selects "BalloonStall$Net" ({ cls := "BalloonStall$Net", name := "liveEndsOf", desc := "(LBalloonStall$Figure;I)I" } : Jvm.MethodName) ({ cls := "BalloonStall$Net", name := "liveEndsOf", desc := "(LBalloonStall$Figure;I)I" } : Jvm.MethodName)) ∈ bs_al := bs_al_in (bs_t5 _ (List.mem_of_getElem? (i := 104) rfl)) rfl
theorem qX0_70 : bs_cv "BalloonStall$Ageing" 70 mX5_liveEndsOf 2 5 := ⟨kX5_liveEndsOf, bsw_212, bsw_213, bsw_214, by decide, _, rfl, rfl⟩
theorem bsw_215 : (Jvm.Cond.code ({ cls := "BalloonStall$Ageing", name := "tellLetters", desc := "(IIIILBalloonStall$Sorts;)V" } : Jvm.MethodName) prog_2_method_7_code (6 : Nat) (Option.none : Option Jvm.ClassFile.FieldType)) ∈ bs_al := bs_al_in (bs_t5 _ (List.mem_of_getElem? (i := 109) rfl)) rfl
theorem kX0_tellLetters : bs_cw mX0_tellLetters 5 := ⟨bsw_177, bsw_215, by decide +kernel, by decide +kernel, by decide +kernel⟩
theorem bsw_216 : (Jvm.Cond.methodLink "BalloonStall$Ageing" (80 : Nat) ({ cls := "BalloonStall$Ageing", name := "tellLetters", desc := "(IIIILBalloonStall$Sorts;)V" } : Jvm.MethodName)) ∈ bs_al := bs_al_in (bs_t5 _ (List.mem_of_getElem? (i := 106) rfl)) rfl
theorem bsw_217 : (Jvm.Cond.instanceMethod ({ cls := "BalloonStall$Ageing", name := "tellLetters", desc := "(IIIILBalloonStall$Sorts;)V" } : Jvm.MethodName)) ∈ bs_al := bs_al_in (bs_t5 _ (List.mem_of_getElem? (i := 108) rfl)) rfl
theorem bsw_218 : (Jvm.Cond.selects "BalloonStall$Ageing" ({ cls := "BalloonStall$Ageing", name := "tellLetters", desc := "(IIIILBalloonStall$Sorts;)V" } : Jvm.MethodName) ({ cls := "BalloonStall$Ageing", name := "tellLetters", desc := "(IIIILBalloonStall$Sorts;)V" } : Jvm.MethodName)) ∈ bs_al := bs_al_in (bs_ps4 (({ cls := "BalloonStall$Ageing", name := "tellLetters", desc := "(IIIILBalloonStall$Sorts;)V" } : Jvm.MethodName), 7) (List.mem_of_getElem? (i := 2) rfl)) rfl
theorem qX0_80 : bs_cv "BalloonStall$Ageing" 80 mX0_tellLetters 5 0 := ⟨kX0_tellLetters, bsw_216, bsw_217, bsw_218, by decide, _, rfl, rfl⟩
theorem bsw_219 : (Jvm.Cond.methodLink "BalloonStall$Ageing" (84 : Nat) ({ cls := "BalloonStall$Rule", name := "worthBy", desc := "([I[J)I" } : Jvm.MethodName)) ∈ bs_al := bs_al_in (bs_t5 _ (List.mem_of_getElem? (i := 110) rfl)) rfl
theorem qX0_84 : bs_cv "BalloonStall$Ageing" 84 mX6_worthBy 2 6 := ⟨kX6_worthBy, bsw_219, bsw_175, bsw_176, by decide, _, rfl, rfl⟩
theorem bsw_220 : (Jvm.Cond.methodLink "BalloonStall$Ageing" (90 : Nat) ({ cls := "java/lang/Math", name := "max", desc := "(II)I" } : Jvm.MethodName)) ∈ bs_al := bs_al_in (bs_t5 _ (List.mem_of_getElem? (i := 132) rfl)) rfl
theorem xX0_90 : Cond.methodLink "BalloonStall$Ageing" 90 Lib.Math.max.name ∈ bs_al ∧ Cond.static Lib.Math.max.name ∈ bs_al ∧ Cond.initialized "java/lang/Math" ∈ bs_al ∧ Cond.code Lib.Math.max.name Lib.Math.max.code 2 (some .int) ∈ bs_al := ⟨bsw_220, bsw_84, bsw_85, bsw_86⟩
theorem bsw_221 : (Jvm.Cond.methodLink "BalloonStall$Ageing" (93 : Nat) ({ cls := "BalloonStall$Net", name := "lostWith", desc := "(LBalloonStall$Figure;I)I" } : Jvm.MethodName)) ∈ bs_al := bs_al_in (bs_t5 _ (List.mem_of_getElem? (i := 133) rfl)) rfl
theorem qX0_93 : bs_cv "BalloonStall$Ageing" 93 mX5_lostWith 2 5 := ⟨kX5_lostWith, bsw_221, bsw_102, bsw_103, by decide, _, rfl, rfl⟩
theorem bsw_222 : (Jvm.Cond.code ({ cls := "BalloonStall$Ageing", name := "clearLost", desc := "(II)V" } : Jvm.MethodName) prog_2_method_6_code (4 : Nat) (Option.none : Option Jvm.ClassFile.FieldType)) ∈ bs_al := bs_al_in (bs_t5 _ (List.mem_of_getElem? (i := 137) rfl)) rfl
theorem kX0_clearLost : bs_cw mX0_clearLost 2 := ⟨bsw_177, bsw_222, by decide +kernel, by decide +kernel, by decide +kernel⟩
theorem bsw_223 : (Jvm.Cond.methodLink "BalloonStall$Ageing" (96 : Nat) ({ cls := "BalloonStall$Ageing", name := "clearLost", desc := "(II)V" } : Jvm.MethodName)) ∈ bs_al := bs_al_in (bs_t5 _ (List.mem_of_getElem? (i := 134) rfl)) rfl
theorem bsw_224 : (Jvm.Cond.instanceMethod ({ cls := "BalloonStall$Ageing", name := "clearLost", desc := "(II)V" } : Jvm.MethodName)) ∈ bs_al := bs_al_in (bs_t5 _ (List.mem_of_getElem? (i := 136) rfl)) rfl
theorem bsw_225 : (Jvm.Cond.selects "BalloonStall$Ageing" ({ cls := "BalloonStall$Ageing", name := "clearLost", desc := "(II)V" } : Jvm.MethodName) ({ cls := "BalloonStall$Ageing", name := "clearLost", desc := "(II)V" } : Jvm.MethodName)) ∈ bs_al := bs_al_in (bs_ps4 (({ cls := "BalloonStall$Ageing", name := "clearLost", desc := "(II)V" } : Jvm.MethodName), 7) (List.mem_of_getElem? (i := 3) rfl)) rfl
theorem qX0_96 : bs_cv "BalloonStall$Ageing" 96 mX0_clearLost 2 0 := ⟨kX0_clearLost, bsw_223, bsw_224, bsw_225, by decide, _, rfl, rfl⟩
theorem bsw_226 : (Jvm.Cond.methodLink "BalloonStall$Figure" (3 : Nat) ({ cls := "java/lang/Object", name := "<init>", desc := "()V" } : Jvm.MethodName)) ∈ bs_al := bs_al_in (bs_t1 _ (List.mem_of_getElem? (i := 90) rfl)) rfl
theorem oX1_3 : Cond.methodLink "BalloonStall$Figure" 3 objectInit ∈ bs_al := bsw_226
theorem bsw_227 : (Jvm.Cond.initialized "java/util/Arrays") ∈ bs_al := bs_al_in (bs_t1 _ (List.mem_of_getElem? (i := 11) rfl)) rfl
theorem bsw_228 : (Jvm.Cond.code ({ cls := "java/util/Arrays", name := "fill", desc := "([II)V" } : Jvm.MethodName) prog_23_method_103_code (4 : Nat) (Option.none : Option Jvm.ClassFile.FieldType)) ∈ bs_al := bs_al_in (bs_t2 _ (List.mem_of_getElem? (i := 72) rfl)) rfl
theorem kJ7_fill_53178 : bs_cw mJ7_fill_53178 2 := ⟨bsw_227, bsw_228, by decide +kernel, by decide +kernel, by decide +kernel⟩
theorem bsw_229 : (Jvm.Cond.methodLink "BalloonStall$Figure" (30 : Nat) ({ cls := "java/util/Arrays", name := "fill", desc := "([II)V" } : Jvm.MethodName)) ∈ bs_al := bs_al_in (bs_t3 _ (List.mem_of_getElem? (i := 36) rfl)) rfl
theorem bsw_230 : (Jvm.Cond.static ({ cls := "java/util/Arrays", name := "fill", desc := "([II)V" } : Jvm.MethodName)) ∈ bs_al := bs_al_in (bs_t2 _ (List.mem_of_getElem? (i := 71) rfl)) rfl
theorem qX1_30 : bs_cs "BalloonStall$Figure" 30 mJ7_fill_53178 2 := ⟨kJ7_fill_53178, bsw_229, bsw_230⟩
theorem bsw_231 : (Jvm.Cond.methodLink "BalloonStall$Figure" (55 : Nat) ({ cls := "BalloonStall$Figure", name := "slackTwistsUpTo", desc := "(I)I" } : Jvm.MethodName)) ∈ bs_al := bs_al_in (bs_t3 _ (List.mem_of_getElem? (i := 65) rfl)) rfl
theorem qX1_55 : bs_cv "BalloonStall$Figure" 55 mX1_slackTwistsUpTo 1 1 := ⟨kX1_slackTwistsUpTo, bsw_231, bsw_53, bsw_54, by decide, _, rfl, rfl⟩
theorem bsw_232 : (Jvm.Cond.methodLink "BalloonStall$Figure" (59 : Nat) ({ cls := "java/lang/Math", name := "max", desc := "(II)I" } : Jvm.MethodName)) ∈ bs_al := bs_al_in (bs_t3 _ (List.mem_of_getElem? (i := 69) rfl)) rfl
theorem xX1_59 : Cond.methodLink "BalloonStall$Figure" 59 Lib.Math.max.name ∈ bs_al ∧ Cond.static Lib.Math.max.name ∈ bs_al ∧ Cond.initialized "java/lang/Math" ∈ bs_al ∧ Cond.code Lib.Math.max.name Lib.Math.max.code 2 (some .int) ∈ bs_al := ⟨bsw_232, bsw_84, bsw_85, bsw_86⟩
theorem bsw_233 : (Jvm.Cond.methodLink "BalloonStall$Figure" (65 : Nat) ({ cls := "BalloonStall$Figure", name := "twistBehind", desc := "(I)Z" } : Jvm.MethodName)) ∈ bs_al := bs_al_in (bs_t3 _ (List.mem_of_getElem? (i := 230) rfl)) rfl
theorem qX1_65 : bs_cv "BalloonStall$Figure" 65 mX1_twistBehind 1 1 := ⟨kX1_twistBehind, bsw_233, bsw_89, bsw_90, by decide, _, rfl, rfl⟩
theorem bsw_234 : (Jvm.Cond.code ({ cls := "BalloonStall$Figure", name := "endBits", desc := "(I)I" } : Jvm.MethodName) prog_3_method_8_code (2 : Nat) (Option.some Jvm.ClassFile.FieldType.int)) ∈ bs_al := bs_al_in (bs_t4 _ (List.mem_of_getElem? (i := 2) rfl)) rfl
theorem kX1_endBits : bs_cw mX1_endBits 1 := ⟨bsw_33, bsw_234, by decide +kernel, by decide +kernel, by decide +kernel⟩
theorem bsw_235 : (Jvm.Cond.methodLink "BalloonStall$Figure" (69 : Nat) ({ cls := "BalloonStall$Figure", name := "endBits", desc := "(I)I" } : Jvm.MethodName)) ∈ bs_al := bs_al_in (bs_t3 _ (List.mem_of_getElem? (i := 239) rfl)) rfl
theorem bsw_236 : (Jvm.Cond.instanceMethod ({ cls := "BalloonStall$Figure", name := "endBits", desc := "(I)I" } : Jvm.MethodName)) ∈ bs_al := bs_al_in (bs_t4 _ (List.mem_of_getElem? (i := 0) rfl)) rfl
theorem bsw_237 : (Jvm.Cond.selects "BalloonStall$Figure" ({ cls := "BalloonStall$Figure", name := "endBits", desc := "(I)I" } : Jvm.MethodName) ({ cls := "BalloonStall$Figure", name := "endBits", desc := "(I)I" } : Jvm.MethodName)) ∈ bs_al := bs_al_in (bs_t4 _ (List.mem_of_getElem? (i := 1) rfl)) rfl
theorem qX1_69 : bs_cv "BalloonStall$Figure" 69 mX1_endBits 1 1 := ⟨kX1_endBits, bsw_235, bsw_236, bsw_237, by decide, _, rfl, rfl⟩
theorem bsw_238 : (Jvm.Cond.code ({ cls := "BalloonStall$Figure", name := "numberAnew", desc := "([II)I" } : Jvm.MethodName) prog_3_method_21_code (4 : Nat) (Option.some Jvm.ClassFile.FieldType.int)) ∈ bs_al := bs_al_in (bs_t3 _ (List.mem_of_getElem? (i := 121) rfl)) rfl
theorem kX1_numberAnew : bs_cw mX1_numberAnew 2 := ⟨bsw_33, bsw_238, by decide +kernel, by decide +kernel, by decide +kernel⟩
theorem bsw_239 : (Jvm.Cond.methodLink "BalloonStall$Figure" (72 : Nat) ({ cls := "BalloonStall$Figure", name := "numberAnew", desc := "([II)I" } : Jvm.MethodName)) ∈ bs_al := bs_al_in (bs_t3 _ (List.mem_of_getElem? (i := 119) rfl)) rfl
theorem bsw_240 : (Jvm.Cond.static ({ cls := "BalloonStall$Figure", name := "numberAnew", desc := "([II)I" } : Jvm.MethodName)) ∈ bs_al := bs_al_in (bs_t3 _ (List.mem_of_getElem? (i := 120) rfl)) rfl
theorem qX1_72 : bs_cs "BalloonStall$Figure" 72 mX1_numberAnew 2 := ⟨kX1_numberAnew, bsw_239, bsw_240⟩
theorem bsw_241 : (Jvm.Cond.code ({ cls := "BalloonStall$Figure", name := "clear", desc := "()V" } : Jvm.MethodName) prog_3_method_2_code (1 : Nat) (Option.none : Option Jvm.ClassFile.FieldType)) ∈ bs_al := bs_al_in (bs_t3 _ (List.mem_of_getElem? (i := 35) rfl)) rfl
theorem kX1_clear : bs_cw mX1_clear 0 := ⟨bsw_33, bsw_241, by decide +kernel, by decide +kernel, by decide +kernel⟩
theorem bsw_242 : (Jvm.Cond.methodLink "BalloonStall$Figure" (76 : Nat) ({ cls := "BalloonStall$Figure", name := "clear", desc := "()V" } : Jvm.MethodName)) ∈ bs_al := bs_al_in (bs_t4 _ (List.mem_of_getElem? (i := 63) rfl)) rfl
theorem bsw_243 : (Jvm.Cond.instanceMethod ({ cls := "BalloonStall$Figure", name := "clear", desc := "()V" } : Jvm.MethodName)) ∈ bs_al := bs_al_in (bs_t3 _ (List.mem_of_getElem? (i := 33) rfl)) rfl
theorem bsw_244 : (Jvm.Cond.selects "BalloonStall$Figure" ({ cls := "BalloonStall$Figure", name := "clear", desc := "()V" } : Jvm.MethodName) ({ cls := "BalloonStall$Figure", name := "clear", desc := "()V" } : Jvm.MethodName)) ∈ bs_al := bs_al_in (bs_t3 _ (List.mem_of_getElem? (i := 34) rfl)) rfl
theorem qX1_76 : bs_cv "BalloonStall$Figure" 76 mX1_clear 0 1 := ⟨kX1_clear, bsw_242, bsw_243, bsw_244, by decide, _, rfl, rfl⟩
theorem bsw_245 : (Jvm.Cond.methodLink "BalloonStall$Figure" (79 : Nat) ({ cls := "BalloonStall$Figure", name := "slackBehind", desc := "(I)Z" } : Jvm.MethodName)) ∈ bs_al := bs_al_in (bs_t4 _ (List.mem_of_getElem? (i := 64) rfl)) rfl
theorem qX1_79 : bs_cv "BalloonStall$Figure" 79 mX1_slackBehind 1 1 := ⟨kX1_slackBehind, bsw_245, bsw_93, bsw_94, by decide, _, rfl, rfl⟩
theorem bsw_246 : (Jvm.Cond.code ({ cls := "BalloonStall$Figure", name := "startBalloon", desc := "(I)V" } : Jvm.MethodName) prog_3_method_9_code (2 : Nat) (Option.none : Option Jvm.ClassFile.FieldType)) ∈ bs_al := bs_al_in (bs_t3 _ (List.mem_of_getElem? (i := 79) rfl)) rfl
theorem kX1_startBalloon : bs_cw mX1_startBalloon 1 := ⟨bsw_33, bsw_246, by decide +kernel, by decide +kernel, by decide +kernel⟩
theorem bsw_247 : (Jvm.Cond.methodLink "BalloonStall$Figure" (82 : Nat) ({ cls := "BalloonStall$Figure", name := "startBalloon", desc := "(I)V" } : Jvm.MethodName)) ∈ bs_al := bs_al_in (bs_t4 _ (List.mem_of_getElem? (i := 65) rfl)) rfl
theorem bsw_248 : (Jvm.Cond.instanceMethod ({ cls := "BalloonStall$Figure", name := "startBalloon", desc := "(I)V" } : Jvm.MethodName)) ∈ bs_al := bs_al_in (bs_t3 _ (List.mem_of_getElem? (i := 77) rfl)) rfl
theorem bsw_249 : (Jvm.Cond.selects "BalloonStall$Figure" ({ cls := "BalloonStall$Figure", name := "startBalloon", desc := "(I)V" } : Jvm.MethodName) ({ cls := "BalloonStall$Figure", name := "startBalloon", desc := "(I)V" } : Jvm.MethodName)) ∈ bs_al := bs_al_in (bs_t3 _ (List.mem_of_getElem? (i := 78) rfl)) rfl
theorem qX1_82 : bs_cv "BalloonStall$Figure" 82 mX1_startBalloon 1 1 := ⟨kX1_startBalloon, bsw_247, bsw_248, bsw_249, by decide, _, rfl, rfl⟩
theorem bsw_250 : (Jvm.Cond.code ({ cls := "BalloonStall$Figure", name := "turnBalloonBack", desc := "(LBalloonStall$Figure;II[I)I" } : Jvm.MethodName) prog_3_method_23_code (8 : Nat) (Option.some Jvm.ClassFile.FieldType.int)) ∈ bs_al := bs_al_in (bs_t4 _ (List.mem_of_getElem? (i := 69) rfl)) rfl
theorem kX1_turnBalloonBack : bs_cw mX1_turnBalloonBack 4 := ⟨bsw_33, bsw_250, by decide +kernel, by decide +kernel, by decide +kernel⟩
theorem bsw_251 : (Jvm.Cond.methodLink "BalloonStall$Figure" (86 : Nat) ({ cls := "BalloonStall$Figure", name := "turnBalloonBack", desc := "(LBalloonStall$Figure;II[I)I" } : Jvm.MethodName)) ∈ bs_al := bs_al_in (bs_t4 _ (List.mem_of_getElem? (i := 66) rfl)) rfl
theorem bsw_252 : (Jvm.Cond.instanceMethod ({ cls := "BalloonStall$Figure", name := "turnBalloonBack", desc := "(LBalloonStall$Figure;II[I)I" } : Jvm.MethodName)) ∈ bs_al := bs_al_in (bs_t4 _ (List.mem_of_getElem? (i := 68) rfl)) rfl
theorem bsw_253 : (Jvm.Cond.selects "BalloonStall$Figure" ({ cls := "BalloonStall$Figure", name := "turnBalloonBack", desc := "(LBalloonStall$Figure;II[I)I" } : Jvm.MethodName) ({ cls := "BalloonStall$Figure", name := "turnBalloonBack", desc := "(LBalloonStall$Figure;II[I)I" } : Jvm.MethodName)) ∈ bs_al := bs_al_in (bs_ps2 (({ cls := "BalloonStall$Figure", name := "turnBalloonBack", desc := "(LBalloonStall$Figure;II[I)I" } : Jvm.MethodName), 10) (List.mem_of_getElem? (i := 13) rfl)) rfl
theorem qX1_86 : bs_cv "BalloonStall$Figure" 86 mX1_turnBalloonBack 4 1 := ⟨kX1_turnBalloonBack, bsw_251, bsw_252, bsw_253, by decide, _, rfl, rfl⟩
theorem bsw_254 : (Jvm.Cond.code ({ cls := "BalloonStall$Figure", name := "makeBubble", desc := "(III)V" } : Jvm.MethodName) prog_3_method_10_code (4 : Nat) (Option.none : Option Jvm.ClassFile.FieldType)) ∈ bs_al := bs_al_in (bs_t3 _ (List.mem_of_getElem? (i := 64) rfl)) rfl
theorem kX1_makeBubble : bs_cw mX1_makeBubble 3 := ⟨bsw_33, bsw_254, by decide +kernel, by decide +kernel, by decide +kernel⟩
theorem bsw_255 : (Jvm.Cond.methodLink "BalloonStall$Figure" (90 : Nat) ({ cls := "BalloonStall$Figure", name := "makeBubble", desc := "(III)V" } : Jvm.MethodName)) ∈ bs_al := bs_al_in (bs_t4 _ (List.mem_of_getElem? (i := 70) rfl)) rfl
theorem bsw_256 : (Jvm.Cond.instanceMethod ({ cls := "BalloonStall$Figure", name := "makeBubble", desc := "(III)V" } : Jvm.MethodName)) ∈ bs_al := bs_al_in (bs_t3 _ (List.mem_of_getElem? (i := 62) rfl)) rfl
theorem bsw_257 : (Jvm.Cond.selects "BalloonStall$Figure" ({ cls := "BalloonStall$Figure", name := "makeBubble", desc := "(III)V" } : Jvm.MethodName) ({ cls := "BalloonStall$Figure", name := "makeBubble", desc := "(III)V" } : Jvm.MethodName)) ∈ bs_al := bs_al_in (bs_t3 _ (List.mem_of_getElem? (i := 63) rfl)) rfl
theorem qX1_90 : bs_cv "BalloonStall$Figure" 90 mX1_makeBubble 3 1 := ⟨kX1_makeBubble, bsw_255, bsw_256, bsw_257, by decide, _, rfl, rfl⟩
theorem bsw_258 : (Jvm.Cond.code ({ cls := "BalloonStall$Figure", name := "joinedNumber", desc := "(IIII)I" } : Jvm.MethodName) prog_3_method_25_code (4 : Nat) (Option.some Jvm.ClassFile.FieldType.int)) ∈ bs_al := bs_al_in (bs_t4 _ (List.mem_of_getElem? (i := 117) rfl)) rfl
theorem kX1_joinedNumber : bs_cw mX1_joinedNumber 4 := ⟨bsw_33, bsw_258, by decide +kernel, by decide +kernel, by decide +kernel⟩
theorem bsw_259 : (Jvm.Cond.methodLink "BalloonStall$Figure" (94 : Nat) ({ cls := "BalloonStall$Figure", name := "joinedNumber", desc := "(IIII)I" } : Jvm.MethodName)) ∈ bs_al := bs_al_in (bs_t4 _ (List.mem_of_getElem? (i := 115) rfl)) rfl
theorem bsw_260 : (Jvm.Cond.static ({ cls := "BalloonStall$Figure", name := "joinedNumber", desc := "(IIII)I" } : Jvm.MethodName)) ∈ bs_al := bs_al_in (bs_t4 _ (List.mem_of_getElem? (i := 116) rfl)) rfl
theorem qX1_94 : bs_cs "BalloonStall$Figure" 94 mX1_joinedNumber 4 := ⟨kX1_joinedNumber, bsw_259, bsw_260⟩
theorem bsw_261 : (Jvm.Cond.methodLink "BalloonStall$FigureReader" (3 : Nat) ({ cls := "java/lang/Object", name := "<init>", desc := "()V" } : Jvm.MethodName)) ∈ bs_al := bs_al_in (bs_t1 _ (List.mem_of_getElem? (i := 84) rfl)) rfl
theorem oX2_3 : Cond.methodLink "BalloonStall$FigureReader" 3 objectInit ∈ bs_al := bsw_261
theorem bsw_262 : (Jvm.Cond.code ({ cls := "BalloonStall$FigureReader", name := "begin", desc := "(I)V" } : Jvm.MethodName) prog_4_method_3_code (2 : Nat) (Option.none : Option Jvm.ClassFile.FieldType)) ∈ bs_al := bs_al_in (bs_t3 _ (List.mem_of_getElem? (i := 31) rfl)) rfl
theorem kX2_begin : bs_cw mX2_begin 1 := ⟨bsw_19, bsw_262, by decide +kernel, by decide +kernel, by decide +kernel⟩
theorem bsw_263 : (Jvm.Cond.methodLink "BalloonStall$FigureReader" (28 : Nat) ({ cls := "BalloonStall$FigureReader", name := "begin", desc := "(I)V" } : Jvm.MethodName)) ∈ bs_al := bs_al_in (bs_t3 _ (List.mem_of_getElem? (i := 28) rfl)) rfl
theorem bsw_264 : (Jvm.Cond.instanceMethod ({ cls := "BalloonStall$FigureReader", name := "begin", desc := "(I)V" } : Jvm.MethodName)) ∈ bs_al := bs_al_in (bs_t3 _ (List.mem_of_getElem? (i := 30) rfl)) rfl
theorem bsw_265 : (Jvm.Cond.selects "BalloonStall$FigureReader" ({ cls := "BalloonStall$FigureReader", name := "begin", desc := "(I)V" } : Jvm.MethodName) ({ cls := "BalloonStall$FigureReader", name := "begin", desc := "(I)V" } : Jvm.MethodName)) ∈ bs_al := bs_al_in (bs_ps1 (({ cls := "BalloonStall$FigureReader", name := "begin", desc := "(I)V" } : Jvm.MethodName), 11) (List.mem_of_getElem? (i := 0) rfl)) rfl
theorem qX2_28 : bs_cv "BalloonStall$FigureReader" 28 mX2_begin 1 2 := ⟨kX2_begin, bsw_263, bsw_264, bsw_265, by decide, _, rfl, rfl⟩
theorem bsw_266 : (Jvm.Cond.code ({ cls := "BalloonStall$Tape", name := "at", desc := "(I)I" } : Jvm.MethodName) prog_12_method_3_code (2 : Nat) (Option.some Jvm.ClassFile.FieldType.int)) ∈ bs_al := bs_al_in (bs_t3 _ (List.mem_of_getElem? (i := 41) rfl)) rfl
theorem kX10_at : bs_cw mX10_at 1 := ⟨bsw_14, bsw_266, by decide +kernel, by decide +kernel, by decide +kernel⟩
theorem bsw_267 : (Jvm.Cond.methodLink "BalloonStall$FigureReader" (38 : Nat) ({ cls := "BalloonStall$Tape", name := "at", desc := "(I)I" } : Jvm.MethodName)) ∈ bs_al := bs_al_in (bs_t3 _ (List.mem_of_getElem? (i := 38) rfl)) rfl
theorem bsw_268 : (Jvm.Cond.instanceMethod ({ cls := "BalloonStall$Tape", name := "at", desc := "(I)I" } : Jvm.MethodName)) ∈ bs_al := bs_al_in (bs_t3 _ (List.mem_of_getElem? (i := 39) rfl)) rfl
theorem bsw_269 : (Jvm.Cond.selects "BalloonStall$Tape" ({ cls := "BalloonStall$Tape", name := "at", desc := "(I)I" } : Jvm.MethodName) ({ cls := "BalloonStall$Tape", name := "at", desc := "(I)I" } : Jvm.MethodName)) ∈ bs_al := bs_al_in (bs_t3 _ (List.mem_of_getElem? (i := 40) rfl)) rfl
theorem qX2_38 : bs_cv "BalloonStall$FigureReader" 38 mX10_at 1 10 := ⟨kX10_at, bsw_267, bsw_268, bsw_269, by decide, _, rfl, rfl⟩
theorem bsw_270 : (Jvm.Cond.code ({ cls := "BalloonStall$FigureReader", name := "takes", desc := "(IZ)Z" } : Jvm.MethodName) prog_4_method_4_code (3 : Nat) (Option.some Jvm.ClassFile.FieldType.boolean)) ∈ bs_al := bs_al_in (bs_t3 _ (List.mem_of_getElem? (i := 48) rfl)) rfl
theorem kX2_takes : bs_cw mX2_takes 2 := ⟨bsw_19, bsw_270, by decide +kernel, by decide +kernel, by decide +kernel⟩
theorem bsw_271 : (Jvm.Cond.methodLink "BalloonStall$FigureReader" (46 : Nat) ({ cls := "BalloonStall$FigureReader", name := "takes", desc := "(IZ)Z" } : Jvm.MethodName)) ∈ bs_al := bs_al_in (bs_t3 _ (List.mem_of_getElem? (i := 45) rfl)) rfl
theorem bsw_272 : (Jvm.Cond.instanceMethod ({ cls := "BalloonStall$FigureReader", name := "takes", desc := "(IZ)Z" } : Jvm.MethodName)) ∈ bs_al := bs_al_in (bs_t3 _ (List.mem_of_getElem? (i := 47) rfl)) rfl
theorem bsw_273 : (Jvm.Cond.selects "BalloonStall$FigureReader" ({ cls := "BalloonStall$FigureReader", name := "takes", desc := "(IZ)Z" } : Jvm.MethodName) ({ cls := "BalloonStall$FigureReader", name := "takes", desc := "(IZ)Z" } : Jvm.MethodName)) ∈ bs_al := bs_al_in (bs_ps1 (({ cls := "BalloonStall$FigureReader", name := "takes", desc := "(IZ)Z" } : Jvm.MethodName), 11) (List.mem_of_getElem? (i := 1) rfl)) rfl
theorem qX2_46 : bs_cv "BalloonStall$FigureReader" 46 mX2_takes 2 2 := ⟨kX2_takes, bsw_271, bsw_272, bsw_273, by decide, _, rfl, rfl⟩
theorem bsw_274 : (Jvm.Cond.code ({ cls := "BalloonStall$Figure", name := "closeUp", desc := "([I)V" } : Jvm.MethodName) prog_3_method_20_code (4 : Nat) (Option.none : Option Jvm.ClassFile.FieldType)) ∈ bs_al := bs_al_in (bs_t3 _ (List.mem_of_getElem? (i := 118) rfl)) rfl
theorem kX1_closeUp : bs_cw mX1_closeUp 1 := ⟨bsw_33, bsw_274, by decide +kernel, by decide +kernel, by decide +kernel⟩
theorem bsw_275 : (Jvm.Cond.methodLink "BalloonStall$FigureReader" (60 : Nat) ({ cls := "BalloonStall$Figure", name := "closeUp", desc := "([I)V" } : Jvm.MethodName)) ∈ bs_al := bs_al_in (bs_t3 _ (List.mem_of_getElem? (i := 115) rfl)) rfl
theorem bsw_276 : (Jvm.Cond.instanceMethod ({ cls := "BalloonStall$Figure", name := "closeUp", desc := "([I)V" } : Jvm.MethodName)) ∈ bs_al := bs_al_in (bs_t3 _ (List.mem_of_getElem? (i := 116) rfl)) rfl
theorem bsw_277 : (Jvm.Cond.selects "BalloonStall$Figure" ({ cls := "BalloonStall$Figure", name := "closeUp", desc := "([I)V" } : Jvm.MethodName) ({ cls := "BalloonStall$Figure", name := "closeUp", desc := "([I)V" } : Jvm.MethodName)) ∈ bs_al := bs_al_in (bs_t3 _ (List.mem_of_getElem? (i := 117) rfl)) rfl
theorem qX2_60 : bs_cv "BalloonStall$FigureReader" 60 mX1_closeUp 1 1 := ⟨kX1_closeUp, bsw_275, bsw_276, bsw_277, by decide, _, rfl, rfl⟩
theorem bsw_278 : (Jvm.Cond.methodLink "BalloonStall$FigureReader" (64 : Nat) ({ cls := "BalloonStall$Figure", name := "clear", desc := "()V" } : Jvm.MethodName)) ∈ bs_al := bs_al_in (bs_t3 _ (List.mem_of_getElem? (i := 32) rfl)) rfl
theorem qX2_64 : bs_cv "BalloonStall$FigureReader" 64 mX1_clear 0 1 := ⟨kX1_clear, bsw_278, bsw_243, bsw_244, by decide, _, rfl, rfl⟩
theorem bsw_279 : (Jvm.Cond.methodLink "BalloonStall$FigureReader" (67 : Nat) ({ cls := "java/util/Arrays", name := "fill", desc := "([II)V" } : Jvm.MethodName)) ∈ bs_al := bs_al_in (bs_t3 _ (List.mem_of_getElem? (i := 37) rfl)) rfl
theorem qX2_67 : bs_cs "BalloonStall$FigureReader" 67 mJ7_fill_53178 2 := ⟨kJ7_fill_53178, bsw_279, bsw_230⟩
theorem bsw_280 : (Jvm.Cond.code ({ cls := "BalloonStall$FigureReader", name := "takesDigit", desc := "(IZ)Z" } : Jvm.MethodName) prog_4_method_6_code (3 : Nat) (Option.some Jvm.ClassFile.FieldType.boolean)) ∈ bs_al := bs_al_in (bs_t3 _ (List.mem_of_getElem? (i := 52) rfl)) rfl
theorem kX2_takesDigit : bs_cw mX2_takesDigit 2 := ⟨bsw_19, bsw_280, by decide +kernel, by decide +kernel, by decide +kernel⟩
theorem bsw_281 : (Jvm.Cond.methodLink "BalloonStall$FigureReader" (85 : Nat) ({ cls := "BalloonStall$FigureReader", name := "takesDigit", desc := "(IZ)Z" } : Jvm.MethodName)) ∈ bs_al := bs_al_in (bs_t3 _ (List.mem_of_getElem? (i := 49) rfl)) rfl
theorem bsw_282 : (Jvm.Cond.instanceMethod ({ cls := "BalloonStall$FigureReader", name := "takesDigit", desc := "(IZ)Z" } : Jvm.MethodName)) ∈ bs_al := bs_al_in (bs_t3 _ (List.mem_of_getElem? (i := 51) rfl)) rfl
theorem bsw_283 : (Jvm.Cond.selects "BalloonStall$FigureReader" ({ cls := "BalloonStall$FigureReader", name := "takesDigit", desc := "(IZ)Z" } : Jvm.MethodName) ({ cls := "BalloonStall$FigureReader", name := "takesDigit", desc := "(IZ)Z" } : Jvm.MethodName)) ∈ bs_al := bs_al_in (bs_ps1 (({ cls := "BalloonStall$FigureReader", name := "takesDigit", desc := "(IZ)Z" } : Jvm.MethodName), 11) (List.mem_of_getElem? (i := 2) rfl)) rfl
theorem qX2_85 : bs_cv "BalloonStall$FigureReader" 85 mX2_takesDigit 2 2 := ⟨kX2_takesDigit, bsw_281, bsw_282, bsw_283, by decide, _, rfl, rfl⟩
theorem bsw_284 : (Jvm.Cond.code ({ cls := "BalloonStall$FigureReader", name := "takesSort", desc := "(I)Z" } : Jvm.MethodName) prog_4_method_5_code (2 : Nat) (Option.some Jvm.ClassFile.FieldType.boolean)) ∈ bs_al := bs_al_in (bs_t3 _ (List.mem_of_getElem? (i := 75) rfl)) rfl
theorem kX2_takesSort : bs_cw mX2_takesSort 1 := ⟨bsw_19, bsw_284, by decide +kernel, by decide +kernel, by decide +kernel⟩
theorem bsw_285 : (Jvm.Cond.methodLink "BalloonStall$FigureReader" (88 : Nat) ({ cls := "BalloonStall$FigureReader", name := "takesSort", desc := "(I)Z" } : Jvm.MethodName)) ∈ bs_al := bs_al_in (bs_t3 _ (List.mem_of_getElem? (i := 72) rfl)) rfl
theorem bsw_286 : (Jvm.Cond.instanceMethod ({ cls := "BalloonStall$FigureReader", name := "takesSort", desc := "(I)Z" } : Jvm.MethodName)) ∈ bs_al := bs_al_in (bs_t3 _ (List.mem_of_getElem? (i := 74) rfl)) rfl
theorem bsw_287 : (Jvm.Cond.selects "BalloonStall$FigureReader" ({ cls := "BalloonStall$FigureReader", name := "takesSort", desc := "(I)Z" } : Jvm.MethodName) ({ cls := "BalloonStall$FigureReader", name := "takesSort", desc := "(I)Z" } : Jvm.MethodName)) ∈ bs_al := bs_al_in (bs_ps1 (({ cls := "BalloonStall$FigureReader", name := "takesSort", desc := "(I)Z" } : Jvm.MethodName), 11) (List.mem_of_getElem? (i := 5) rfl)) rfl
theorem qX2_88 : bs_cv "BalloonStall$FigureReader" 88 mX2_takesSort 1 2 := ⟨kX2_takesSort, bsw_285, bsw_286, bsw_287, by decide, _, rfl, rfl⟩
theorem bsw_288 : (Jvm.Cond.code ({ cls := "BalloonStall$FigureReader", name := "takesMove", desc := "(I)Z" } : Jvm.MethodName) prog_4_method_8_code (2 : Nat) (Option.some Jvm.ClassFile.FieldType.boolean)) ∈ bs_al := bs_al_in (bs_t3 _ (List.mem_of_getElem? (i := 83) rfl)) rfl
theorem kX2_takesMove : bs_cw mX2_takesMove 1 := ⟨bsw_19, bsw_288, by decide +kernel, by decide +kernel, by decide +kernel⟩
theorem bsw_289 : (Jvm.Cond.methodLink "BalloonStall$FigureReader" (91 : Nat) ({ cls := "BalloonStall$FigureReader", name := "takesMove", desc := "(I)Z" } : Jvm.MethodName)) ∈ bs_al := bs_al_in (bs_t3 _ (List.mem_of_getElem? (i := 80) rfl)) rfl
theorem bsw_290 : (Jvm.Cond.instanceMethod ({ cls := "BalloonStall$FigureReader", name := "takesMove", desc := "(I)Z" } : Jvm.MethodName)) ∈ bs_al := bs_al_in (bs_t3 _ (List.mem_of_getElem? (i := 82) rfl)) rfl
theorem bsw_291 : (Jvm.Cond.selects "BalloonStall$FigureReader" ({ cls := "BalloonStall$FigureReader", name := "takesMove", desc := "(I)Z" } : Jvm.MethodName) ({ cls := "BalloonStall$FigureReader", name := "takesMove", desc := "(I)Z" } : Jvm.MethodName)) ∈ bs_al := bs_al_in (bs_ps1 (({ cls := "BalloonStall$FigureReader", name := "takesMove", desc := "(I)Z" } : Jvm.MethodName), 11) (List.mem_of_getElem? (i := 6) rfl)) rfl
theorem qX2_91 : bs_cv "BalloonStall$FigureReader" 91 mX2_takesMove 1 2 := ⟨kX2_takesMove, bsw_289, bsw_290, bsw_291, by decide, _, rfl, rfl⟩
theorem bsw_292 : (Jvm.Cond.methodLink "BalloonStall$FigureReader" (94 : Nat) ({ cls := "BalloonStall$Figure", name := "startBalloon", desc := "(I)V" } : Jvm.MethodName)) ∈ bs_al := bs_al_in (bs_t3 _ (List.mem_of_getElem? (i := 76) rfl)) rfl
theorem qX2_94 : bs_cv "BalloonStall$FigureReader" 94 mX1_startBalloon 1 1 := ⟨kX1_startBalloon, bsw_292, bsw_248, bsw_249, by decide, _, rfl, rfl⟩
theorem bsw_293 : (Jvm.Cond.code ({ cls := "BalloonStall$FigureReader", name := "newPoint", desc := "()I" } : Jvm.MethodName) prog_4_method_13_code (1 : Nat) (Option.some Jvm.ClassFile.FieldType.int)) ∈ bs_al := bs_al_in (bs_t3 _ (List.mem_of_getElem? (i := 60) rfl)) rfl
theorem kX2_newPoint : bs_cw mX2_newPoint 0 := ⟨bsw_19, bsw_293, by decide +kernel, by decide +kernel, by decide +kernel⟩
theorem bsw_294 : (Jvm.Cond.methodLink "BalloonStall$FigureReader" (97 : Nat) ({ cls := "BalloonStall$FigureReader", name := "newPoint", desc := "()I" } : Jvm.MethodName)) ∈ bs_al := bs_al_in (bs_t3 _ (List.mem_of_getElem? (i := 57) rfl)) rfl
theorem bsw_295 : (Jvm.Cond.instanceMethod ({ cls := "BalloonStall$FigureReader", name := "newPoint", desc := "()I" } : Jvm.MethodName)) ∈ bs_al := bs_al_in (bs_t3 _ (List.mem_of_getElem? (i := 59) rfl)) rfl
theorem bsw_296 : (Jvm.Cond.selects "BalloonStall$FigureReader" ({ cls := "BalloonStall$FigureReader", name := "newPoint", desc := "()I" } : Jvm.MethodName) ({ cls := "BalloonStall$FigureReader", name := "newPoint", desc := "()I" } : Jvm.MethodName)) ∈ bs_al := bs_al_in (bs_ps1 (({ cls := "BalloonStall$FigureReader", name := "newPoint", desc := "()I" } : Jvm.MethodName), 11) (List.mem_of_getElem? (i := 4) rfl)) rfl
theorem qX2_97 : bs_cv "BalloonStall$FigureReader" 97 mX2_newPoint 0 2 := ⟨kX2_newPoint, bsw_294, bsw_295, bsw_296, by decide, _, rfl, rfl⟩
theorem bsw_297 : (Jvm.Cond.code ({ cls := "BalloonStall$FigureReader", name := "makesBubble", desc := "()Z" } : Jvm.MethodName) prog_4_method_7_code (2 : Nat) (Option.some Jvm.ClassFile.FieldType.boolean)) ∈ bs_al := bs_al_in (bs_t3 _ (List.mem_of_getElem? (i := 56) rfl)) rfl
theorem kX2_makesBubble : bs_cw mX2_makesBubble 0 := ⟨bsw_19, bsw_297, by decide +kernel, by decide +kernel, by decide +kernel⟩
theorem bsw_298 : (Jvm.Cond.methodLink "BalloonStall$FigureReader" (104 : Nat) ({ cls := "BalloonStall$FigureReader", name := "makesBubble", desc := "()Z" } : Jvm.MethodName)) ∈ bs_al := bs_al_in (bs_t3 _ (List.mem_of_getElem? (i := 53) rfl)) rfl
theorem bsw_299 : (Jvm.Cond.instanceMethod ({ cls := "BalloonStall$FigureReader", name := "makesBubble", desc := "()Z" } : Jvm.MethodName)) ∈ bs_al := bs_al_in (bs_t3 _ (List.mem_of_getElem? (i := 55) rfl)) rfl
theorem bsw_300 : (Jvm.Cond.selects "BalloonStall$FigureReader" ({ cls := "BalloonStall$FigureReader", name := "makesBubble", desc := "()Z" } : Jvm.MethodName) ({ cls := "BalloonStall$FigureReader", name := "makesBubble", desc := "()Z" } : Jvm.MethodName)) ∈ bs_al := bs_al_in (bs_ps1 (({ cls := "BalloonStall$FigureReader", name := "makesBubble", desc := "()Z" } : Jvm.MethodName), 11) (List.mem_of_getElem? (i := 3) rfl)) rfl
theorem qX2_104 : bs_cv "BalloonStall$FigureReader" 104 mX2_makesBubble 0 2 := ⟨kX2_makesBubble, bsw_298, bsw_299, bsw_300, by decide, _, rfl, rfl⟩
theorem bsw_301 : (Jvm.Cond.methodLink "BalloonStall$FigureReader" (108 : Nat) ({ cls := "BalloonStall$Figure", name := "makeBubble", desc := "(III)V" } : Jvm.MethodName)) ∈ bs_al := bs_al_in (bs_t3 _ (List.mem_of_getElem? (i := 61) rfl)) rfl
theorem qX2_108 : bs_cv "BalloonStall$FigureReader" 108 mX1_makeBubble 3 1 := ⟨kX1_makeBubble, bsw_301, bsw_256, bsw_257, by decide, _, rfl, rfl⟩
theorem bsw_302 : (Jvm.Cond.code ({ cls := "BalloonStall$FigureReader", name := "nameHere", desc := "(I)V" } : Jvm.MethodName) prog_4_method_9_code (2 : Nat) (Option.none : Option Jvm.ClassFile.FieldType)) ∈ bs_al := bs_al_in (bs_t3 _ (List.mem_of_getElem? (i := 87) rfl)) rfl
theorem kX2_nameHere : bs_cw mX2_nameHere 1 := ⟨bsw_19, bsw_302, by decide +kernel, by decide +kernel, by decide +kernel⟩
theorem bsw_303 : (Jvm.Cond.methodLink "BalloonStall$FigureReader" (112 : Nat) ({ cls := "BalloonStall$FigureReader", name := "nameHere", desc := "(I)V" } : Jvm.MethodName)) ∈ bs_al := bs_al_in (bs_t3 _ (List.mem_of_getElem? (i := 84) rfl)) rfl
theorem bsw_304 : (Jvm.Cond.instanceMethod ({ cls := "BalloonStall$FigureReader", name := "nameHere", desc := "(I)V" } : Jvm.MethodName)) ∈ bs_al := bs_al_in (bs_t3 _ (List.mem_of_getElem? (i := 86) rfl)) rfl
theorem bsw_305 : (Jvm.Cond.selects "BalloonStall$FigureReader" ({ cls := "BalloonStall$FigureReader", name := "nameHere", desc := "(I)V" } : Jvm.MethodName) ({ cls := "BalloonStall$FigureReader", name := "nameHere", desc := "(I)V" } : Jvm.MethodName)) ∈ bs_al := bs_al_in (bs_ps1 (({ cls := "BalloonStall$FigureReader", name := "nameHere", desc := "(I)V" } : Jvm.MethodName), 11) (List.mem_of_getElem? (i := 7) rfl)) rfl
theorem qX2_112 : bs_cv "BalloonStall$FigureReader" 112 mX2_nameHere 1 2 := ⟨kX2_nameHere, bsw_303, bsw_304, bsw_305, by decide, _, rfl, rfl⟩
theorem bsw_306 : (Jvm.Cond.code ({ cls := "BalloonStall$FigureReader", name := "opens", desc := "()Z" } : Jvm.MethodName) prog_4_method_10_code (1 : Nat) (Option.some Jvm.ClassFile.FieldType.boolean)) ∈ bs_al := bs_al_in (bs_t3 _ (List.mem_of_getElem? (i := 106) rfl)) rfl
theorem kX2_opens : bs_cw mX2_opens 0 := ⟨bsw_19, bsw_306, by decide +kernel, by decide +kernel, by decide +kernel⟩
theorem bsw_307 : (Jvm.Cond.methodLink "BalloonStall$FigureReader" (115 : Nat) ({ cls := "BalloonStall$FigureReader", name := "opens", desc := "()Z" } : Jvm.MethodName)) ∈ bs_al := bs_al_in (bs_t3 _ (List.mem_of_getElem? (i := 103) rfl)) rfl
theorem bsw_308 : (Jvm.Cond.instanceMethod ({ cls := "BalloonStall$FigureReader", name := "opens", desc := "()Z" } : Jvm.MethodName)) ∈ bs_al := bs_al_in (bs_t3 _ (List.mem_of_getElem? (i := 105) rfl)) rfl
theorem bsw_309 : (Jvm.Cond.selects "BalloonStall$FigureReader" ({ cls := "BalloonStall$FigureReader", name := "opens", desc := "()Z" } : Jvm.MethodName) ({ cls := "BalloonStall$FigureReader", name := "opens", desc := "()Z" } : Jvm.MethodName)) ∈ bs_al := bs_al_in (bs_ps1 (({ cls := "BalloonStall$FigureReader", name := "opens", desc := "()Z" } : Jvm.MethodName), 11) (List.mem_of_getElem? (i := 9) rfl)) rfl
theorem qX2_115 : bs_cv "BalloonStall$FigureReader" 115 mX2_opens 0 2 := ⟨kX2_opens, bsw_307, bsw_308, bsw_309, by decide, _, rfl, rfl⟩
theorem bsw_310 : (Jvm.Cond.code ({ cls := "BalloonStall$FigureReader", name := "closes", desc := "()Z" } : Jvm.MethodName) prog_4_method_11_code (1 : Nat) (Option.some Jvm.ClassFile.FieldType.boolean)) ∈ bs_al := bs_al_in (bs_t3 _ (List.mem_of_getElem? (i := 110) rfl)) rfl
theorem kX2_closes : bs_cw mX2_closes 0 := ⟨bsw_19, bsw_310, by decide +kernel, by decide +kernel, by decide +kernel⟩
theorem bsw_311 : (Jvm.Cond.methodLink "BalloonStall$FigureReader" (118 : Nat) ({ cls := "BalloonStall$FigureReader", name := "closes", desc := "()Z" } : Jvm.MethodName)) ∈ bs_al := bs_al_in (bs_t3 _ (List.mem_of_getElem? (i := 107) rfl)) rfl
theorem bsw_312 : (Jvm.Cond.instanceMethod ({ cls := "BalloonStall$FigureReader", name := "closes", desc := "()Z" } : Jvm.MethodName)) ∈ bs_al := bs_al_in (bs_t3 _ (List.mem_of_getElem? (i := 109) rfl)) rfl
theorem bsw_313 : (Jvm.Cond.selects "BalloonStall$FigureReader" ({ cls := "BalloonStall$FigureReader", name := "closes", desc := "()Z" } : Jvm.MethodName) ({ cls := "BalloonStall$FigureReader", name := "closes", desc := "()Z" } : Jvm.MethodName)) ∈ bs_al := bs_al_in (bs_ps1 (({ cls := "BalloonStall$FigureReader", name := "closes", desc := "()Z" } : Jvm.MethodName), 11) (List.mem_of_getElem? (i := 10) rfl)) rfl
theorem qX2_118 : bs_cv "BalloonStall$FigureReader" 118 mX2_closes 0 2 := ⟨kX2_closes, bsw_311, bsw_312, bsw_313, by decide, _, rfl, rfl⟩
theorem bsw_314 : (Jvm.Cond.code ({ cls := "BalloonStall$FigureReader", name := "endsBalloon", desc := "()Z" } : Jvm.MethodName) prog_4_method_12_code (1 : Nat) (Option.some Jvm.ClassFile.FieldType.boolean)) ∈ bs_al := bs_al_in (bs_t3 _ (List.mem_of_getElem? (i := 114) rfl)) rfl
theorem kX2_endsBalloon : bs_cw mX2_endsBalloon 0 := ⟨bsw_19, bsw_314, by decide +kernel, by decide +kernel, by decide +kernel⟩
theorem bsw_315 : (Jvm.Cond.methodLink "BalloonStall$FigureReader" (121 : Nat) ({ cls := "BalloonStall$FigureReader", name := "endsBalloon", desc := "()Z" } : Jvm.MethodName)) ∈ bs_al := bs_al_in (bs_t3 _ (List.mem_of_getElem? (i := 111) rfl)) rfl
theorem bsw_316 : (Jvm.Cond.instanceMethod ({ cls := "BalloonStall$FigureReader", name := "endsBalloon", desc := "()Z" } : Jvm.MethodName)) ∈ bs_al := bs_al_in (bs_t3 _ (List.mem_of_getElem? (i := 113) rfl)) rfl
theorem bsw_317 : (Jvm.Cond.selects "BalloonStall$FigureReader" ({ cls := "BalloonStall$FigureReader", name := "endsBalloon", desc := "()Z" } : Jvm.MethodName) ({ cls := "BalloonStall$FigureReader", name := "endsBalloon", desc := "()Z" } : Jvm.MethodName)) ∈ bs_al := bs_al_in (bs_ps1 (({ cls := "BalloonStall$FigureReader", name := "endsBalloon", desc := "()Z" } : Jvm.MethodName), 11) (List.mem_of_getElem? (i := 11) rfl)) rfl
theorem qX2_121 : bs_cv "BalloonStall$FigureReader" 121 mX2_endsBalloon 0 2 := ⟨kX2_endsBalloon, bsw_315, bsw_316, bsw_317, by decide, _, rfl, rfl⟩
theorem bsw_318 : (Jvm.Cond.code ({ cls := "BalloonStall$FigureReader", name := "join", desc := "(II)V" } : Jvm.MethodName) prog_4_method_14_code (5 : Nat) (Option.none : Option Jvm.ClassFile.FieldType)) ∈ bs_al := bs_al_in (bs_t3 _ (List.mem_of_getElem? (i := 91) rfl)) rfl
theorem kX2_join : bs_cw mX2_join 2 := ⟨bsw_19, bsw_318, by decide +kernel, by decide +kernel, by decide +kernel⟩
theorem bsw_319 : (Jvm.Cond.methodLink "BalloonStall$FigureReader" (124 : Nat) ({ cls := "BalloonStall$FigureReader", name := "join", desc := "(II)V" } : Jvm.MethodName)) ∈ bs_al := bs_al_in (bs_t3 _ (List.mem_of_getElem? (i := 88) rfl)) rfl
theorem bsw_320 : (Jvm.Cond.instanceMethod ({ cls := "BalloonStall$FigureReader", name := "join", desc := "(II)V" } : Jvm.MethodName)) ∈ bs_al := bs_al_in (bs_t3 _ (List.mem_of_getElem? (i := 90) rfl)) rfl
theorem bsw_321 : (Jvm.Cond.selects "BalloonStall$FigureReader" ({ cls := "BalloonStall$FigureReader", name := "join", desc := "(II)V" } : Jvm.MethodName) ({ cls := "BalloonStall$FigureReader", name := "join", desc := "(II)V" } : Jvm.MethodName)) ∈ bs_al := bs_al_in (bs_ps1 (({ cls := "BalloonStall$FigureReader", name := "join", desc := "(II)V" } : Jvm.MethodName), 11) (List.mem_of_getElem? (i := 8) rfl)) rfl
theorem qX2_124 : bs_cv "BalloonStall$FigureReader" 124 mX2_join 2 2 := ⟨kX2_join, bsw_319, bsw_320, bsw_321, by decide, _, rfl, rfl⟩
theorem bsw_322 : (Jvm.Cond.methodLink "BalloonStall$FigureReader" (134 : Nat) ({ cls := "java/lang/Math", name := "min", desc := "(II)I" } : Jvm.MethodName)) ∈ bs_al := bs_al_in (bs_t3 _ (List.mem_of_getElem? (i := 92) rfl)) rfl
theorem xX2_134 : Cond.methodLink "BalloonStall$FigureReader" 134 Lib.Math.min.name ∈ bs_al ∧ Cond.static Lib.Math.min.name ∈ bs_al ∧ Cond.initialized "java/lang/Math" ∈ bs_al ∧ Cond.code Lib.Math.min.name Lib.Math.min.code 2 (some .int) ∈ bs_al := ⟨bsw_322, bsw_200, bsw_85, bsw_201⟩
theorem bsw_323 : (Jvm.Cond.methodLink "BalloonStall$FigureReader" (140 : Nat) ({ cls := "java/lang/Math", name := "max", desc := "(II)I" } : Jvm.MethodName)) ∈ bs_al := bs_al_in (bs_t3 _ (List.mem_of_getElem? (i := 95) rfl)) rfl
theorem xX2_140 : Cond.methodLink "BalloonStall$FigureReader" 140 Lib.Math.max.name ∈ bs_al ∧ Cond.static Lib.Math.max.name ∈ bs_al ∧ Cond.initialized "java/lang/Math" ∈ bs_al ∧ Cond.code Lib.Math.max.name Lib.Math.max.code 2 (some .int) ∈ bs_al := ⟨bsw_323, bsw_84, bsw_85, bsw_86⟩
theorem bsw_324 : (Jvm.Cond.code ({ cls := "BalloonStall$Figure", name := "moveEnds", desc := "(II)V" } : Jvm.MethodName) prog_3_method_19_code (4 : Nat) (Option.none : Option Jvm.ClassFile.FieldType)) ∈ bs_al := bs_al_in (bs_t3 _ (List.mem_of_getElem? (i := 99) rfl)) rfl
theorem kX1_moveEnds : bs_cw mX1_moveEnds 2 := ⟨bsw_33, bsw_324, by decide +kernel, by decide +kernel, by decide +kernel⟩
theorem bsw_325 : (Jvm.Cond.methodLink "BalloonStall$FigureReader" (143 : Nat) ({ cls := "BalloonStall$Figure", name := "moveEnds", desc := "(II)V" } : Jvm.MethodName)) ∈ bs_al := bs_al_in (bs_t3 _ (List.mem_of_getElem? (i := 96) rfl)) rfl
theorem bsw_326 : (Jvm.Cond.instanceMethod ({ cls := "BalloonStall$Figure", name := "moveEnds", desc := "(II)V" } : Jvm.MethodName)) ∈ bs_al := bs_al_in (bs_t3 _ (List.mem_of_getElem? (i := 97) rfl)) rfl
theorem bsw_327 : (Jvm.Cond.selects "BalloonStall$Figure" ({ cls := "BalloonStall$Figure", name := "moveEnds", desc := "(II)V" } : Jvm.MethodName) ({ cls := "BalloonStall$Figure", name := "moveEnds", desc := "(II)V" } : Jvm.MethodName)) ∈ bs_al := bs_al_in (bs_t3 _ (List.mem_of_getElem? (i := 98) rfl)) rfl
theorem qX2_143 : bs_cv "BalloonStall$FigureReader" 143 mX1_moveEnds 2 1 := ⟨kX1_moveEnds, bsw_325, bsw_326, bsw_327, by decide, _, rfl, rfl⟩
theorem bsw_328 : (Jvm.Cond.code ({ cls := "BalloonStall$FigureReader", name := "renameIn", desc := "([IIII)V" } : Jvm.MethodName) prog_4_method_15_code (5 : Nat) (Option.none : Option Jvm.ClassFile.FieldType)) ∈ bs_al := bs_al_in (bs_t3 _ (List.mem_of_getElem? (i := 102) rfl)) rfl
theorem kX2_renameIn : bs_cw mX2_renameIn 4 := ⟨bsw_19, bsw_328, by decide +kernel, by decide +kernel, by decide +kernel⟩
theorem bsw_329 : (Jvm.Cond.methodLink "BalloonStall$FigureReader" (146 : Nat) ({ cls := "BalloonStall$FigureReader", name := "renameIn", desc := "([IIII)V" } : Jvm.MethodName)) ∈ bs_al := bs_al_in (bs_t3 _ (List.mem_of_getElem? (i := 100) rfl)) rfl
theorem bsw_330 : (Jvm.Cond.static ({ cls := "BalloonStall$FigureReader", name := "renameIn", desc := "([IIII)V" } : Jvm.MethodName)) ∈ bs_al := bs_al_in (bs_t3 _ (List.mem_of_getElem? (i := 101) rfl)) rfl
theorem qX2_146 : bs_cs "BalloonStall$FigureReader" 146 mX2_renameIn 4 := ⟨kX2_renameIn, bsw_329, bsw_330⟩
theorem bsw_331 : (Jvm.Cond.methodLink "BalloonStall$Maker" (5 : Nat) ({ cls := "java/lang/Object", name := "<init>", desc := "()V" } : Jvm.MethodName)) ∈ bs_al := bs_al_in (bs_t2 _ (List.mem_of_getElem? (i := 69) rfl)) rfl
theorem oX3_5 : Cond.methodLink "BalloonStall$Maker" 5 objectInit ∈ bs_al := bsw_331
theorem bsw_332 : (Jvm.Cond.methodLink "BalloonStall$Maker" (37 : Nat) ({ cls := "java/util/Arrays", name := "fill", desc := "([II)V" } : Jvm.MethodName)) ∈ bs_al := bs_al_in (bs_t2 _ (List.mem_of_getElem? (i := 70) rfl)) rfl
theorem qX3_37 : bs_cs "BalloonStall$Maker" 37 mJ7_fill_53178 2 := ⟨kJ7_fill_53178, bsw_332, bsw_230⟩
theorem bsw_333 : (Jvm.Cond.code ({ cls := "BalloonStall$Maker", name := "tellChoices", desc := "(LBalloonStall$Figure;II)V" } : Jvm.MethodName) prog_5_method_4_code (7 : Nat) (Option.none : Option Jvm.ClassFile.FieldType)) ∈ bs_al := bs_al_in (bs_t4 _ (List.mem_of_getElem? (i := 209) rfl)) rfl
theorem kX3_tellChoices : bs_cw mX3_tellChoices 3 := ⟨bsw_1, bsw_333, by decide +kernel, by decide +kernel, by decide +kernel⟩
theorem bsw_334 : (Jvm.Cond.methodLink "BalloonStall$Maker" (51 : Nat) ({ cls := "BalloonStall$Maker", name := "tellChoices", desc := "(LBalloonStall$Figure;II)V" } : Jvm.MethodName)) ∈ bs_al := bs_al_in (bs_t4 _ (List.mem_of_getElem? (i := 206) rfl)) rfl
theorem bsw_335 : (Jvm.Cond.instanceMethod ({ cls := "BalloonStall$Maker", name := "tellChoices", desc := "(LBalloonStall$Figure;II)V" } : Jvm.MethodName)) ∈ bs_al := bs_al_in (bs_t4 _ (List.mem_of_getElem? (i := 208) rfl)) rfl
theorem bsw_336 : (Jvm.Cond.selects "BalloonStall$Maker" ({ cls := "BalloonStall$Maker", name := "tellChoices", desc := "(LBalloonStall$Figure;II)V" } : Jvm.MethodName) ({ cls := "BalloonStall$Maker", name := "tellChoices", desc := "(LBalloonStall$Figure;II)V" } : Jvm.MethodName)) ∈ bs_al := bs_al_in (bs_ps3 (({ cls := "BalloonStall$Maker", name := "tellChoices", desc := "(LBalloonStall$Figure;II)V" } : Jvm.MethodName), 8) (List.mem_of_getElem? (i := 7) rfl)) rfl
theorem qX3_51 : bs_cv "BalloonStall$Maker" 51 mX3_tellChoices 3 3 := ⟨kX3_tellChoices, bsw_334, bsw_335, bsw_336, by decide, _, rfl, rfl⟩
theorem bsw_337 : (Jvm.Cond.methodLink "BalloonStall$Maker" (55 : Nat) ({ cls := "BalloonStall$Figure", name := "allBubbles", desc := "()I" } : Jvm.MethodName)) ∈ bs_al := bs_al_in (bs_t4 _ (List.mem_of_getElem? (i := 210) rfl)) rfl
theorem qX3_55 : bs_cv "BalloonStall$Maker" 55 mX1_allBubbles 0 1 := ⟨kX1_allBubbles, bsw_337, bsw_196, bsw_197, by decide, _, rfl, rfl⟩
theorem bsw_338 : (Jvm.Cond.code ({ cls := "BalloonStall$Maker", name := "countFewest", desc := "(I)V" } : Jvm.MethodName) prog_5_method_6_code (3 : Nat) (Option.none : Option Jvm.ClassFile.FieldType)) ∈ bs_al := bs_al_in (bs_t4 _ (List.mem_of_getElem? (i := 227) rfl)) rfl
theorem kX3_countFewest : bs_cw mX3_countFewest 1 := ⟨bsw_1, bsw_338, by decide +kernel, by decide +kernel, by decide +kernel⟩
theorem bsw_339 : (Jvm.Cond.methodLink "BalloonStall$Maker" (61 : Nat) ({ cls := "BalloonStall$Maker", name := "countFewest", desc := "(I)V" } : Jvm.MethodName)) ∈ bs_al := bs_al_in (bs_t4 _ (List.mem_of_getElem? (i := 224) rfl)) rfl
theorem bsw_340 : (Jvm.Cond.instanceMethod ({ cls := "BalloonStall$Maker", name := "countFewest", desc := "(I)V" } : Jvm.MethodName)) ∈ bs_al := bs_al_in (bs_t4 _ (List.mem_of_getElem? (i := 226) rfl)) rfl
theorem bsw_341 : (Jvm.Cond.selects "BalloonStall$Maker" ({ cls := "BalloonStall$Maker", name := "countFewest", desc := "(I)V" } : Jvm.MethodName) ({ cls := "BalloonStall$Maker", name := "countFewest", desc := "(I)V" } : Jvm.MethodName)) ∈ bs_al := bs_al_in (bs_ps3 (({ cls := "BalloonStall$Maker", name := "countFewest", desc := "(I)V" } : Jvm.MethodName), 8) (List.mem_of_getElem? (i := 9) rfl)) rfl
theorem qX3_61 : bs_cv "BalloonStall$Maker" 61 mX3_countFewest 1 3 := ⟨kX3_countFewest, bsw_339, bsw_340, bsw_341, by decide, _, rfl, rfl⟩
theorem bsw_342 : (Jvm.Cond.code ({ cls := "BalloonStall$Maker", name := "keepSets", desc := "(II)I" } : Jvm.MethodName) prog_5_method_8_code (6 : Nat) (Option.some Jvm.ClassFile.FieldType.int)) ∈ bs_al := bs_al_in (bs_t4 _ (List.mem_of_getElem? (i := 236) rfl)) rfl
theorem kX3_keepSets : bs_cw mX3_keepSets 2 := ⟨bsw_1, bsw_342, by decide +kernel, by decide +kernel, by decide +kernel⟩
theorem bsw_343 : (Jvm.Cond.methodLink "BalloonStall$Maker" (65 : Nat) ({ cls := "BalloonStall$Maker", name := "keepSets", desc := "(II)I" } : Jvm.MethodName)) ∈ bs_al := bs_al_in (bs_t4 _ (List.mem_of_getElem? (i := 233) rfl)) rfl
theorem bsw_344 : (Jvm.Cond.instanceMethod ({ cls := "BalloonStall$Maker", name := "keepSets", desc := "(II)I" } : Jvm.MethodName)) ∈ bs_al := bs_al_in (bs_t4 _ (List.mem_of_getElem? (i := 235) rfl)) rfl
theorem bsw_345 : (Jvm.Cond.selects "BalloonStall$Maker" ({ cls := "BalloonStall$Maker", name := "keepSets", desc := "(II)I" } : Jvm.MethodName) ({ cls := "BalloonStall$Maker", name := "keepSets", desc := "(II)I" } : Jvm.MethodName)) ∈ bs_al := bs_al_in (bs_ps3 (({ cls := "BalloonStall$Maker", name := "keepSets", desc := "(II)I" } : Jvm.MethodName), 8) (List.mem_of_getElem? (i := 11) rfl)) rfl
theorem qX3_65 : bs_cv "BalloonStall$Maker" 65 mX3_keepSets 2 3 := ⟨kX3_keepSets, bsw_343, bsw_344, bsw_345, by decide, _, rfl, rfl⟩
theorem bsw_346 : (Jvm.Cond.code ({ cls := "java/lang/Integer", name := "numberOfTrailingZeros", desc := "(I)I" } : Jvm.MethodName) prog_17_method_48_code (2 : Nat) (Option.some Jvm.ClassFile.FieldType.int)) ∈ bs_al := bs_al_in (bs_t4 _ (List.mem_of_getElem? (i := 216) rfl)) rfl
theorem kJ6_numberOfTrailingZeros_0f7a4 : bs_cw mJ6_numberOfTrailingZeros_0f7a4 1 := ⟨bsw_59, bsw_346, by decide +kernel, by decide +kernel, by decide +kernel⟩
theorem bsw_347 : (Jvm.Cond.methodLink "BalloonStall$Maker" (69 : Nat) ({ cls := "java/lang/Integer", name := "numberOfTrailingZeros", desc := "(I)I" } : Jvm.MethodName)) ∈ bs_al := bs_al_in (bs_t4 _ (List.mem_of_getElem? (i := 214) rfl)) rfl
theorem bsw_348 : (Jvm.Cond.static ({ cls := "java/lang/Integer", name := "numberOfTrailingZeros", desc := "(I)I" } : Jvm.MethodName)) ∈ bs_al := bs_al_in (bs_t4 _ (List.mem_of_getElem? (i := 215) rfl)) rfl
theorem qX3_69 : bs_cs "BalloonStall$Maker" 69 mJ6_numberOfTrailingZeros_0f7a4 1 := ⟨kJ6_numberOfTrailingZeros_0f7a4, bsw_347, bsw_348⟩
theorem bsw_349 : (Jvm.Cond.methodLink "BalloonStall$Maker" (82 : Nat) ({ cls := "BalloonStall$Figure", name := "endBits", desc := "(I)I" } : Jvm.MethodName)) ∈ bs_al := bs_al_in (bs_t4 _ (List.mem_of_getElem? (i := 218) rfl)) rfl
theorem qX3_82 : bs_cv "BalloonStall$Maker" 82 mX1_endBits 1 1 := ⟨kX1_endBits, bsw_349, bsw_236, bsw_237, by decide, _, rfl, rfl⟩
theorem bsw_350 : (Jvm.Cond.code ({ cls := "BalloonStall$Maker", name := "hangsTogether", desc := "(II)Z" } : Jvm.MethodName) prog_5_method_5_code (6 : Nat) (Option.some Jvm.ClassFile.FieldType.boolean)) ∈ bs_al := bs_al_in (bs_t4 _ (List.mem_of_getElem? (i := 222) rfl)) rfl
theorem kX3_hangsTogether : bs_cw mX3_hangsTogether 2 := ⟨bsw_1, bsw_350, by decide +kernel, by decide +kernel, by decide +kernel⟩
theorem bsw_351 : (Jvm.Cond.methodLink "BalloonStall$Maker" (89 : Nat) ({ cls := "BalloonStall$Maker", name := "hangsTogether", desc := "(II)Z" } : Jvm.MethodName)) ∈ bs_al := bs_al_in (bs_t4 _ (List.mem_of_getElem? (i := 219) rfl)) rfl
theorem bsw_352 : (Jvm.Cond.instanceMethod ({ cls := "BalloonStall$Maker", name := "hangsTogether", desc := "(II)Z" } : Jvm.MethodName)) ∈ bs_al := bs_al_in (bs_t4 _ (List.mem_of_getElem? (i := 221) rfl)) rfl
theorem bsw_353 : (Jvm.Cond.selects "BalloonStall$Maker" ({ cls := "BalloonStall$Maker", name := "hangsTogether", desc := "(II)Z" } : Jvm.MethodName) ({ cls := "BalloonStall$Maker", name := "hangsTogether", desc := "(II)Z" } : Jvm.MethodName)) ∈ bs_al := bs_al_in (bs_ps3 (({ cls := "BalloonStall$Maker", name := "hangsTogether", desc := "(II)Z" } : Jvm.MethodName), 8) (List.mem_of_getElem? (i := 8) rfl)) rfl
theorem qX3_89 : bs_cv "BalloonStall$Maker" 89 mX3_hangsTogether 2 3 := ⟨kX3_hangsTogether, bsw_351, bsw_352, bsw_353, by decide, _, rfl, rfl⟩
theorem bsw_354 : (Jvm.Cond.methodLink "BalloonStall$Maker" (93 : Nat) ({ cls := "java/lang/Integer", name := "bitCount", desc := "(I)I" } : Jvm.MethodName)) ∈ bs_al := bs_al_in (bs_t4 _ (List.mem_of_getElem? (i := 223) rfl)) rfl
theorem qX3_93 : bs_cs "BalloonStall$Maker" 93 mJ6_bitCount_0f7a4 1 := ⟨kJ6_bitCount_0f7a4, bsw_354, bsw_62⟩
theorem bsw_355 : (Jvm.Cond.code ({ cls := "BalloonStall$Maker", name := "fewestOf", desc := "(I)I" } : Jvm.MethodName) prog_5_method_7_code (7 : Nat) (Option.some Jvm.ClassFile.FieldType.int)) ∈ bs_al := bs_al_in (bs_t4 _ (List.mem_of_getElem? (i := 231) rfl)) rfl
theorem kX3_fewestOf : bs_cw mX3_fewestOf 1 := ⟨bsw_1, bsw_355, by decide +kernel, by decide +kernel, by decide +kernel⟩
theorem bsw_356 : (Jvm.Cond.methodLink "BalloonStall$Maker" (96 : Nat) ({ cls := "BalloonStall$Maker", name := "fewestOf", desc := "(I)I" } : Jvm.MethodName)) ∈ bs_al := bs_al_in (bs_t4 _ (List.mem_of_getElem? (i := 228) rfl)) rfl
theorem bsw_357 : (Jvm.Cond.instanceMethod ({ cls := "BalloonStall$Maker", name := "fewestOf", desc := "(I)I" } : Jvm.MethodName)) ∈ bs_al := bs_al_in (bs_t4 _ (List.mem_of_getElem? (i := 230) rfl)) rfl
theorem bsw_358 : (Jvm.Cond.selects "BalloonStall$Maker" ({ cls := "BalloonStall$Maker", name := "fewestOf", desc := "(I)I" } : Jvm.MethodName) ({ cls := "BalloonStall$Maker", name := "fewestOf", desc := "(I)I" } : Jvm.MethodName)) ∈ bs_al := bs_al_in (bs_ps3 (({ cls := "BalloonStall$Maker", name := "fewestOf", desc := "(I)I" } : Jvm.MethodName), 8) (List.mem_of_getElem? (i := 10) rfl)) rfl
theorem qX3_96 : bs_cv "BalloonStall$Maker" 96 mX3_fewestOf 1 3 := ⟨kX3_fewestOf, bsw_356, bsw_357, bsw_358, by decide, _, rfl, rfl⟩
theorem bsw_359 : (Jvm.Cond.methodLink "BalloonStall$Maker" (99 : Nat) ({ cls := "java/lang/Math", name := "min", desc := "(II)I" } : Jvm.MethodName)) ∈ bs_al := bs_al_in (bs_t4 _ (List.mem_of_getElem? (i := 232) rfl)) rfl
theorem xX3_99 : Cond.methodLink "BalloonStall$Maker" 99 Lib.Math.min.name ∈ bs_al ∧ Cond.static Lib.Math.min.name ∈ bs_al ∧ Cond.initialized "java/lang/Math" ∈ bs_al ∧ Cond.code Lib.Math.min.name Lib.Math.min.code 2 (some .int) ∈ bs_al := ⟨bsw_359, bsw_200, bsw_85, bsw_201⟩
theorem bsw_360 : (Jvm.Cond.code ({ cls := "BalloonStall$Maker", name := "lowestSet", desc := "(I)I" } : Jvm.MethodName) prog_5_method_9_code (5 : Nat) (Option.some Jvm.ClassFile.FieldType.int)) ∈ bs_al := bs_al_in (bs_t5 _ (List.mem_of_getElem? (i := 0) rfl)) rfl
theorem kX3_lowestSet : bs_cw mX3_lowestSet 1 := ⟨bsw_1, bsw_360, by decide +kernel, by decide +kernel, by decide +kernel⟩
theorem bsw_361 : (Jvm.Cond.methodLink "BalloonStall$Maker" (104 : Nat) ({ cls := "BalloonStall$Maker", name := "lowestSet", desc := "(I)I" } : Jvm.MethodName)) ∈ bs_al := bs_al_in (bs_t4 _ (List.mem_of_getElem? (i := 237) rfl)) rfl
theorem bsw_362 : (Jvm.Cond.instanceMethod ({ cls := "BalloonStall$Maker", name := "lowestSet", desc := "(I)I" } : Jvm.MethodName)) ∈ bs_al := bs_al_in (bs_t4 _ (List.mem_of_getElem? (i := 239) rfl)) rfl
theorem bsw_363 : (Jvm.Cond.selects "BalloonStall$Maker" ({ cls := "BalloonStall$Maker", name := "lowestSet", desc := "(I)I" } : Jvm.MethodName) ({ cls := "BalloonStall$Maker", name := "lowestSet", desc := "(I)I" } : Jvm.MethodName)) ∈ bs_al := bs_al_in (bs_ps3 (({ cls := "BalloonStall$Maker", name := "lowestSet", desc := "(I)I" } : Jvm.MethodName), 8) (List.mem_of_getElem? (i := 12) rfl)) rfl
theorem qX3_104 : bs_cv "BalloonStall$Maker" 104 mX3_lowestSet 1 3 := ⟨kX3_lowestSet, bsw_361, bsw_362, bsw_363, by decide, _, rfl, rfl⟩
theorem bsw_364 : (Jvm.Cond.methodLink "BalloonStall$Matcher" (3 : Nat) ({ cls := "java/lang/Object", name := "<init>", desc := "()V" } : Jvm.MethodName)) ∈ bs_al := bs_al_in (bs_t2 _ (List.mem_of_getElem? (i := 31) rfl)) rfl
theorem oX4_3 : Cond.methodLink "BalloonStall$Matcher" 3 objectInit ∈ bs_al := bsw_364
theorem bsw_365 : (Jvm.Cond.code ({ cls := "BalloonStall$Matcher", name := "findRow", desc := "(LBalloonStall$Figure;LBalloonStall$Figure;)Z" } : Jvm.MethodName) prog_6_method_4_code (3 : Nat) (Option.some Jvm.ClassFile.FieldType.boolean)) ∈ bs_al := bs_al_in (bs_t4 _ (List.mem_of_getElem? (i := 132) rfl)) rfl
theorem kX4_findRow : bs_cw mX4_findRow 2 := ⟨bsw_116, bsw_365, by decide +kernel, by decide +kernel, by decide +kernel⟩
theorem bsw_366 : (Jvm.Cond.methodLink "BalloonStall$Matcher" (43 : Nat) ({ cls := "BalloonStall$Matcher", name := "findRow", desc := "(LBalloonStall$Figure;LBalloonStall$Figure;)Z" } : Jvm.MethodName)) ∈ bs_al := bs_al_in (bs_t4 _ (List.mem_of_getElem? (i := 129) rfl)) rfl
theorem bsw_367 : (Jvm.Cond.instanceMethod ({ cls := "BalloonStall$Matcher", name := "findRow", desc := "(LBalloonStall$Figure;LBalloonStall$Figure;)Z" } : Jvm.MethodName)) ∈ bs_al := bs_al_in (bs_t4 _ (List.mem_of_getElem? (i := 131) rfl)) rfl
theorem bsw_368 : (Jvm.Cond.selects "BalloonStall$Matcher" ({ cls := "BalloonStall$Matcher", name := "findRow", desc := "(LBalloonStall$Figure;LBalloonStall$Figure;)Z" } : Jvm.MethodName) ({ cls := "BalloonStall$Matcher", name := "findRow", desc := "(LBalloonStall$Figure;LBalloonStall$Figure;)Z" } : Jvm.MethodName)) ∈ bs_al := bs_al_in (bs_ps3 (({ cls := "BalloonStall$Matcher", name := "findRow", desc := "(LBalloonStall$Figure;LBalloonStall$Figure;)Z" } : Jvm.MethodName), 10) (List.mem_of_getElem? (i := 0) rfl)) rfl
theorem qX4_43 : bs_cv "BalloonStall$Matcher" 43 mX4_findRow 2 4 := ⟨kX4_findRow, bsw_366, bsw_367, bsw_368, by decide, _, rfl, rfl⟩
theorem bsw_369 : (Jvm.Cond.code ({ cls := "BalloonStall$Matcher", name := "tellKinds", desc := "(LBalloonStall$Figure;[I)V" } : Jvm.MethodName) prog_6_method_5_code (9 : Nat) (Option.none : Option Jvm.ClassFile.FieldType)) ∈ bs_al := bs_al_in (bs_t4 _ (List.mem_of_getElem? (i := 136) rfl)) rfl
theorem kX4_tellKinds : bs_cw mX4_tellKinds 2 := ⟨bsw_116, bsw_369, by decide +kernel, by decide +kernel, by decide +kernel⟩
theorem bsw_370 : (Jvm.Cond.methodLink "BalloonStall$Matcher" (55 : Nat) ({ cls := "BalloonStall$Matcher", name := "tellKinds", desc := "(LBalloonStall$Figure;[I)V" } : Jvm.MethodName)) ∈ bs_al := bs_al_in (bs_t4 _ (List.mem_of_getElem? (i := 133) rfl)) rfl
theorem bsw_371 : (Jvm.Cond.instanceMethod ({ cls := "BalloonStall$Matcher", name := "tellKinds", desc := "(LBalloonStall$Figure;[I)V" } : Jvm.MethodName)) ∈ bs_al := bs_al_in (bs_t4 _ (List.mem_of_getElem? (i := 135) rfl)) rfl
theorem bsw_372 : (Jvm.Cond.selects "BalloonStall$Matcher" ({ cls := "BalloonStall$Matcher", name := "tellKinds", desc := "(LBalloonStall$Figure;[I)V" } : Jvm.MethodName) ({ cls := "BalloonStall$Matcher", name := "tellKinds", desc := "(LBalloonStall$Figure;[I)V" } : Jvm.MethodName)) ∈ bs_al := bs_al_in (bs_ps3 (({ cls := "BalloonStall$Matcher", name := "tellKinds", desc := "(LBalloonStall$Figure;[I)V" } : Jvm.MethodName), 10) (List.mem_of_getElem? (i := 1) rfl)) rfl
theorem qX4_55 : bs_cv "BalloonStall$Matcher" 55 mX4_tellKinds 2 4 := ⟨kX4_tellKinds, bsw_370, bsw_371, bsw_372, by decide, _, rfl, rfl⟩
theorem bsw_373 : (Jvm.Cond.code ({ cls := "BalloonStall$Matcher", name := "searchRow", desc := "()Z" } : Jvm.MethodName) prog_6_method_8_code (4 : Nat) (Option.some Jvm.ClassFile.FieldType.boolean)) ∈ bs_al := bs_al_in (bs_t4 _ (List.mem_of_getElem? (i := 149) rfl)) rfl
theorem kX4_searchRow : bs_cw mX4_searchRow 0 := ⟨bsw_116, bsw_373, by decide +kernel, by decide +kernel, by decide +kernel⟩
theorem bsw_374 : (Jvm.Cond.methodLink "BalloonStall$Matcher" (59 : Nat) ({ cls := "BalloonStall$Matcher", name := "searchRow", desc := "()Z" } : Jvm.MethodName)) ∈ bs_al := bs_al_in (bs_t4 _ (List.mem_of_getElem? (i := 146) rfl)) rfl
theorem bsw_375 : (Jvm.Cond.instanceMethod ({ cls := "BalloonStall$Matcher", name := "searchRow", desc := "()Z" } : Jvm.MethodName)) ∈ bs_al := bs_al_in (bs_t4 _ (List.mem_of_getElem? (i := 148) rfl)) rfl
theorem bsw_376 : (Jvm.Cond.selects "BalloonStall$Matcher" ({ cls := "BalloonStall$Matcher", name := "searchRow", desc := "()Z" } : Jvm.MethodName) ({ cls := "BalloonStall$Matcher", name := "searchRow", desc := "()Z" } : Jvm.MethodName)) ∈ bs_al := bs_al_in (bs_ps3 (({ cls := "BalloonStall$Matcher", name := "searchRow", desc := "()Z" } : Jvm.MethodName), 10) (List.mem_of_getElem? (i := 3) rfl)) rfl
theorem qX4_59 : bs_cv "BalloonStall$Matcher" 59 mX4_searchRow 0 4 := ⟨kX4_searchRow, bsw_374, bsw_375, bsw_376, by decide, _, rfl, rfl⟩
theorem bsw_377 : (Jvm.Cond.methodLink "BalloonStall$Matcher" (63 : Nat) ({ cls := "java/util/Arrays", name := "fill", desc := "([II)V" } : Jvm.MethodName)) ∈ bs_al := bs_al_in (bs_t4 _ (List.mem_of_getElem? (i := 137) rfl)) rfl
theorem qX4_63 : bs_cs "BalloonStall$Matcher" 63 mJ7_fill_53178 2 := ⟨kJ7_fill_53178, bsw_377, bsw_230⟩
theorem bsw_378 : (Jvm.Cond.code ({ cls := "BalloonStall$Matcher", name := "shortest", desc := "(LBalloonStall$Figure;I)I" } : Jvm.MethodName) prog_6_method_6_code (5 : Nat) (Option.some Jvm.ClassFile.FieldType.int)) ∈ bs_al := bs_al_in (bs_t4 _ (List.mem_of_getElem? (i := 140) rfl)) rfl
theorem kX4_shortest : bs_cw mX4_shortest 2 := ⟨bsw_116, bsw_378, by decide +kernel, by decide +kernel, by decide +kernel⟩
theorem bsw_379 : (Jvm.Cond.methodLink "BalloonStall$Matcher" (69 : Nat) ({ cls := "BalloonStall$Matcher", name := "shortest", desc := "(LBalloonStall$Figure;I)I" } : Jvm.MethodName)) ∈ bs_al := bs_al_in (bs_t4 _ (List.mem_of_getElem? (i := 138) rfl)) rfl
theorem bsw_380 : (Jvm.Cond.static ({ cls := "BalloonStall$Matcher", name := "shortest", desc := "(LBalloonStall$Figure;I)I" } : Jvm.MethodName)) ∈ bs_al := bs_al_in (bs_t4 _ (List.mem_of_getElem? (i := 139) rfl)) rfl
theorem qX4_69 : bs_cs "BalloonStall$Matcher" 69 mX4_shortest 2 := ⟨kX4_shortest, bsw_379, bsw_380⟩
theorem bsw_381 : (Jvm.Cond.code ({ cls := "BalloonStall$Matcher", name := "kindBehind", desc := "(II)I" } : Jvm.MethodName) prog_6_method_7_code (4 : Nat) (Option.some Jvm.ClassFile.FieldType.int)) ∈ bs_al := bs_al_in (bs_t4 _ (List.mem_of_getElem? (i := 145) rfl)) rfl
theorem kX4_kindBehind : bs_cw mX4_kindBehind 2 := ⟨bsw_116, bsw_381, by decide +kernel, by decide +kernel, by decide +kernel⟩
theorem bsw_382 : (Jvm.Cond.methodLink "BalloonStall$Matcher" (82 : Nat) ({ cls := "BalloonStall$Matcher", name := "kindBehind", desc := "(II)I" } : Jvm.MethodName)) ∈ bs_al := bs_al_in (bs_t4 _ (List.mem_of_getElem? (i := 142) rfl)) rfl
theorem bsw_383 : (Jvm.Cond.instanceMethod ({ cls := "BalloonStall$Matcher", name := "kindBehind", desc := "(II)I" } : Jvm.MethodName)) ∈ bs_al := bs_al_in (bs_t4 _ (List.mem_of_getElem? (i := 144) rfl)) rfl
theorem bsw_384 : (Jvm.Cond.selects "BalloonStall$Matcher" ({ cls := "BalloonStall$Matcher", name := "kindBehind", desc := "(II)I" } : Jvm.MethodName) ({ cls := "BalloonStall$Matcher", name := "kindBehind", desc := "(II)I" } : Jvm.MethodName)) ∈ bs_al := bs_al_in (bs_ps3 (({ cls := "BalloonStall$Matcher", name := "kindBehind", desc := "(II)I" } : Jvm.MethodName), 10) (List.mem_of_getElem? (i := 2) rfl)) rfl
theorem qX4_82 : bs_cv "BalloonStall$Matcher" 82 mX4_kindBehind 2 4 := ⟨kX4_kindBehind, bsw_382, bsw_383, bsw_384, by decide, _, rfl, rfl⟩
theorem bsw_385 : (Jvm.Cond.code ({ cls := "BalloonStall$Matcher", name := "nextFitting", desc := "(III)I" } : Jvm.MethodName) prog_6_method_9_code (5 : Nat) (Option.some Jvm.ClassFile.FieldType.int)) ∈ bs_al := bs_al_in (bs_t4 _ (List.mem_of_getElem? (i := 153) rfl)) rfl
theorem kX4_nextFitting : bs_cw mX4_nextFitting 3 := ⟨bsw_116, bsw_385, by decide +kernel, by decide +kernel, by decide +kernel⟩
theorem bsw_386 : (Jvm.Cond.methodLink "BalloonStall$Matcher" (87 : Nat) ({ cls := "BalloonStall$Matcher", name := "nextFitting", desc := "(III)I" } : Jvm.MethodName)) ∈ bs_al := bs_al_in (bs_t4 _ (List.mem_of_getElem? (i := 150) rfl)) rfl
theorem bsw_387 : (Jvm.Cond.instanceMethod ({ cls := "BalloonStall$Matcher", name := "nextFitting", desc := "(III)I" } : Jvm.MethodName)) ∈ bs_al := bs_al_in (bs_t4 _ (List.mem_of_getElem? (i := 152) rfl)) rfl
theorem bsw_388 : (Jvm.Cond.selects "BalloonStall$Matcher" ({ cls := "BalloonStall$Matcher", name := "nextFitting", desc := "(III)I" } : Jvm.MethodName) ({ cls := "BalloonStall$Matcher", name := "nextFitting", desc := "(III)I" } : Jvm.MethodName)) ∈ bs_al := bs_al_in (bs_ps3 (({ cls := "BalloonStall$Matcher", name := "nextFitting", desc := "(III)I" } : Jvm.MethodName), 10) (List.mem_of_getElem? (i := 4) rfl)) rfl
theorem qX4_87 : bs_cv "BalloonStall$Matcher" 87 mX4_nextFitting 3 4 := ⟨kX4_nextFitting, bsw_386, bsw_387, bsw_388, by decide, _, rfl, rfl⟩
theorem bsw_389 : (Jvm.Cond.code ({ cls := "BalloonStall$Matcher", name := "fits", desc := "(II)Z" } : Jvm.MethodName) prog_6_method_10_code (4 : Nat) (Option.some Jvm.ClassFile.FieldType.boolean)) ∈ bs_al := bs_al_in (bs_t4 _ (List.mem_of_getElem? (i := 157) rfl)) rfl
theorem kX4_fits : bs_cw mX4_fits 2 := ⟨bsw_116, bsw_389, by decide +kernel, by decide +kernel, by decide +kernel⟩
theorem bsw_390 : (Jvm.Cond.methodLink "BalloonStall$Matcher" (91 : Nat) ({ cls := "BalloonStall$Matcher", name := "fits", desc := "(II)Z" } : Jvm.MethodName)) ∈ bs_al := bs_al_in (bs_t4 _ (List.mem_of_getElem? (i := 154) rfl)) rfl
theorem bsw_391 : (Jvm.Cond.instanceMethod ({ cls := "BalloonStall$Matcher", name := "fits", desc := "(II)Z" } : Jvm.MethodName)) ∈ bs_al := bs_al_in (bs_t4 _ (List.mem_of_getElem? (i := 156) rfl)) rfl
theorem bsw_392 : (Jvm.Cond.selects "BalloonStall$Matcher" ({ cls := "BalloonStall$Matcher", name := "fits", desc := "(II)Z" } : Jvm.MethodName) ({ cls := "BalloonStall$Matcher", name := "fits", desc := "(II)Z" } : Jvm.MethodName)) ∈ bs_al := bs_al_in (bs_ps3 (({ cls := "BalloonStall$Matcher", name := "fits", desc := "(II)Z" } : Jvm.MethodName), 10) (List.mem_of_getElem? (i := 5) rfl)) rfl
theorem qX4_91 : bs_cv "BalloonStall$Matcher" 91 mX4_fits 2 4 := ⟨kX4_fits, bsw_390, bsw_391, bsw_392, by decide, _, rfl, rfl⟩
theorem bsw_393 : (Jvm.Cond.methodLink "BalloonStall$Net" (3 : Nat) ({ cls := "java/lang/Object", name := "<init>", desc := "()V" } : Jvm.MethodName)) ∈ bs_al := bs_al_in (bs_t2 _ (List.mem_of_getElem? (i := 14) rfl)) rfl
theorem oX5_3 : Cond.methodLink "BalloonStall$Net" 3 objectInit ∈ bs_al := bsw_393
theorem bsw_394 : (Jvm.Cond.methodLink "BalloonStall$Net" (21 : Nat) ({ cls := "BalloonStall$Net", name := "countLive", desc := "(LBalloonStall$Figure;I)V" } : Jvm.MethodName)) ∈ bs_al := bs_al_in (bs_t4 _ (List.mem_of_getElem? (i := 79) rfl)) rfl
theorem qX5_21 : bs_cv "BalloonStall$Net" 21 mX5_countLive 2 5 := ⟨kX5_countLive, bsw_394, bsw_208, bsw_209, by decide, _, rfl, rfl⟩
theorem bsw_395 : (Jvm.Cond.code ({ cls := "BalloonStall$Net", name := "hangsLoose", desc := "(LBalloonStall$Figure;II)Z" } : Jvm.MethodName) prog_7_method_3_code (6 : Nat) (Option.some Jvm.ClassFile.FieldType.boolean)) ∈ bs_al := bs_al_in (bs_t4 _ (List.mem_of_getElem? (i := 87) rfl)) rfl
theorem kX5_hangsLoose : bs_cw mX5_hangsLoose 3 := ⟨bsw_99, bsw_395, by decide +kernel, by decide +kernel, by decide +kernel⟩
theorem bsw_396 : (Jvm.Cond.methodLink "BalloonStall$Net" (31 : Nat) ({ cls := "BalloonStall$Net", name := "hangsLoose", desc := "(LBalloonStall$Figure;II)Z" } : Jvm.MethodName)) ∈ bs_al := bs_al_in (bs_t4 _ (List.mem_of_getElem? (i := 84) rfl)) rfl
theorem bsw_397 : (Jvm.Cond.instanceMethod ({ cls := "BalloonStall$Net", name := "hangsLoose", desc := "(LBalloonStall$Figure;II)Z" } : Jvm.MethodName)) ∈ bs_al := bs_al_in (bs_t4 _ (List.mem_of_getElem? (i := 86) rfl)) rfl
theorem bsw_398 : (Jvm.Cond.selects "BalloonStall$Net" ({ cls := "BalloonStall$Net", name := "hangsLoose", desc := "(LBalloonStall$Figure;II)Z" } : Jvm.MethodName) ({ cls := "BalloonStall$Net", name := "hangsLoose", desc := "(LBalloonStall$Figure;II)Z" } : Jvm.MethodName)) ∈ bs_al := bs_al_in (bs_ps2 (({ cls := "BalloonStall$Net", name := "hangsLoose", desc := "(LBalloonStall$Figure;II)Z" } : Jvm.MethodName), 3) (List.mem_of_getElem? (i := 14) rfl)) rfl
theorem qX5_31 : bs_cv "BalloonStall$Net" 31 mX5_hangsLoose 3 5 := ⟨kX5_hangsLoose, bsw_396, bsw_397, bsw_398, by decide, _, rfl, rfl⟩
theorem bsw_399 : (Jvm.Cond.methodLink "BalloonStall$Net" (41 : Nat) ({ cls := "BalloonStall$Figure", name := "twistBehind", desc := "(I)Z" } : Jvm.MethodName)) ∈ bs_al := bs_al_in (bs_t4 _ (List.mem_of_getElem? (i := 88) rfl)) rfl
theorem qX5_41 : bs_cv "BalloonStall$Net" 41 mX1_twistBehind 1 1 := ⟨kX1_twistBehind, bsw_399, bsw_89, bsw_90, by decide, _, rfl, rfl⟩
theorem bsw_400 : (Jvm.Cond.methodLink "BalloonStall$Net" (45 : Nat) ({ cls := "java/util/Arrays", name := "fill", desc := "([II)V" } : Jvm.MethodName)) ∈ bs_al := bs_al_in (bs_t4 _ (List.mem_of_getElem? (i := 83) rfl)) rfl
theorem qX5_45 : bs_cs "BalloonStall$Net" 45 mJ7_fill_53178 2 := ⟨kJ7_fill_53178, bsw_400, bsw_230⟩
theorem bsw_401 : (Jvm.Cond.methodLink "BalloonStall$Net" (51 : Nat) ({ cls := "BalloonStall$Net", name := "lostWith", desc := "(LBalloonStall$Figure;I)I" } : Jvm.MethodName)) ∈ bs_al := bs_al_in (bs_t4 _ (List.mem_of_getElem? (i := 105) rfl)) rfl
theorem qX5_51 : bs_cv "BalloonStall$Net" 51 mX5_lostWith 2 5 := ⟨kX5_lostWith, bsw_401, bsw_102, bsw_103, by decide, _, rfl, rfl⟩
theorem bsw_402 : (Jvm.Cond.methodLink "BalloonStall$Net" (55 : Nat) ({ cls := "java/lang/Integer", name := "bitCount", desc := "(I)I" } : Jvm.MethodName)) ∈ bs_al := bs_al_in (bs_t4 _ (List.mem_of_getElem? (i := 106) rfl)) rfl
theorem qX5_55 : bs_cs "BalloonStall$Net" 55 mJ6_bitCount_0f7a4 1 := ⟨kJ6_bitCount_0f7a4, bsw_402, bsw_62⟩
theorem bsw_403 : (Jvm.Cond.code ({ cls := "BalloonStall$Net", name := "mergeGroups", desc := "(III)V" } : Jvm.MethodName) prog_7_method_8_code (5 : Nat) (Option.none : Option Jvm.ClassFile.FieldType)) ∈ bs_al := bs_al_in (bs_t4 _ (List.mem_of_getElem? (i := 96) rfl)) rfl
theorem kX5_mergeGroups : bs_cw mX5_mergeGroups 3 := ⟨bsw_99, bsw_403, by decide +kernel, by decide +kernel, by decide +kernel⟩
theorem bsw_404 : (Jvm.Cond.methodLink "BalloonStall$Net" (64 : Nat) ({ cls := "BalloonStall$Net", name := "mergeGroups", desc := "(III)V" } : Jvm.MethodName)) ∈ bs_al := bs_al_in (bs_t4 _ (List.mem_of_getElem? (i := 93) rfl)) rfl
theorem bsw_405 : (Jvm.Cond.instanceMethod ({ cls := "BalloonStall$Net", name := "mergeGroups", desc := "(III)V" } : Jvm.MethodName)) ∈ bs_al := bs_al_in (bs_t4 _ (List.mem_of_getElem? (i := 95) rfl)) rfl
theorem bsw_406 : (Jvm.Cond.selects "BalloonStall$Net" ({ cls := "BalloonStall$Net", name := "mergeGroups", desc := "(III)V" } : Jvm.MethodName) ({ cls := "BalloonStall$Net", name := "mergeGroups", desc := "(III)V" } : Jvm.MethodName)) ∈ bs_al := bs_al_in (bs_ps2 (({ cls := "BalloonStall$Net", name := "mergeGroups", desc := "(III)V" } : Jvm.MethodName), 3) (List.mem_of_getElem? (i := 15) rfl)) rfl
theorem qX5_64 : bs_cv "BalloonStall$Net" 64 mX5_mergeGroups 3 5 := ⟨kX5_mergeGroups, bsw_404, bsw_405, bsw_406, by decide, _, rfl, rfl⟩
theorem bsw_407 : (Jvm.Cond.methodLink "BalloonStall$Net" (68 : Nat) ({ cls := "BalloonStall$Net", name := "parts", desc := "(LBalloonStall$Figure;I)I" } : Jvm.MethodName)) ∈ bs_al := bs_al_in (bs_t4 _ (List.mem_of_getElem? (i := 192) rfl)) rfl
theorem qX5_68 : bs_cv "BalloonStall$Net" 68 mX5_parts 2 5 := ⟨kX5_parts, bsw_407, bsw_106, bsw_107, by decide, _, rfl, rfl⟩
theorem bsw_408 : (Jvm.Cond.methodLink "BalloonStall$Net" (71 : Nat) ({ cls := "BalloonStall$Figure", name := "oddPoints", desc := "()I" } : Jvm.MethodName)) ∈ bs_al := bs_al_in (bs_t4 _ (List.mem_of_getElem? (i := 193) rfl)) rfl
theorem qX5_71 : bs_cv "BalloonStall$Net" 71 mX1_oddPoints 0 1 := ⟨kX1_oddPoints, bsw_408, bsw_57, bsw_58, by decide, _, rfl, rfl⟩
theorem bsw_409 : (Jvm.Cond.code ({ cls := "BalloonStall$Net", name := "shortens", desc := "(III)Z" } : Jvm.MethodName) prog_7_method_11_code (4 : Nat) (Option.some Jvm.ClassFile.FieldType.boolean)) ∈ bs_al := bs_al_in (bs_t4 _ (List.mem_of_getElem? (i := 173) rfl)) rfl
theorem kX5_shortens : bs_cw mX5_shortens 3 := ⟨bsw_99, bsw_409, by decide +kernel, by decide +kernel, by decide +kernel⟩
theorem bsw_410 : (Jvm.Cond.methodLink "BalloonStall$Net" (78 : Nat) ({ cls := "BalloonStall$Net", name := "shortens", desc := "(III)Z" } : Jvm.MethodName)) ∈ bs_al := bs_al_in (bs_t4 _ (List.mem_of_getElem? (i := 170) rfl)) rfl
theorem bsw_411 : (Jvm.Cond.instanceMethod ({ cls := "BalloonStall$Net", name := "shortens", desc := "(III)Z" } : Jvm.MethodName)) ∈ bs_al := bs_al_in (bs_t4 _ (List.mem_of_getElem? (i := 172) rfl)) rfl
theorem bsw_412 : (Jvm.Cond.selects "BalloonStall$Net" ({ cls := "BalloonStall$Net", name := "shortens", desc := "(III)Z" } : Jvm.MethodName) ({ cls := "BalloonStall$Net", name := "shortens", desc := "(III)Z" } : Jvm.MethodName)) ∈ bs_al := bs_al_in (bs_ps3 (({ cls := "BalloonStall$Net", name := "shortens", desc := "(III)Z" } : Jvm.MethodName), 3) (List.mem_of_getElem? (i := 6) rfl)) rfl
theorem qX5_78 : bs_cv "BalloonStall$Net" 78 mX5_shortens 3 5 := ⟨kX5_shortens, bsw_410, bsw_411, bsw_412, by decide, _, rfl, rfl⟩
theorem bsw_413 : (Jvm.Cond.methodLink "BalloonStall$Net" (82 : Nat) ({ cls := "BalloonStall$Net", name := "measure", desc := "(LBalloonStall$Figure;I)V" } : Jvm.MethodName)) ∈ bs_al := bs_al_in (bs_t4 _ (List.mem_of_getElem? (i := 182) rfl)) rfl
theorem qX5_82 : bs_cv "BalloonStall$Net" 82 mX5_measure 2 5 := ⟨kX5_measure, bsw_413, bsw_126, bsw_127, by decide, _, rfl, rfl⟩
theorem bsw_414 : (Jvm.Cond.methodLink "BalloonStall$Net" (85 : Nat) ({ cls := "java/lang/Math", name := "max", desc := "(II)I" } : Jvm.MethodName)) ∈ bs_al := bs_al_in (bs_t4 _ (List.mem_of_getElem? (i := 183) rfl)) rfl
theorem xX5_85 : Cond.methodLink "BalloonStall$Net" 85 Lib.Math.max.name ∈ bs_al ∧ Cond.static Lib.Math.max.name ∈ bs_al ∧ Cond.initialized "java/lang/Math" ∈ bs_al ∧ Cond.code Lib.Math.max.name Lib.Math.max.code 2 (some .int) ∈ bs_al := ⟨bsw_414, bsw_84, bsw_85, bsw_86⟩
theorem bsw_415 : (Jvm.Cond.methodLink "BalloonStall$Net" (92 : Nat) ({ cls := "java/lang/Integer", name := "numberOfTrailingZeros", desc := "(I)I" } : Jvm.MethodName)) ∈ bs_al := bs_al_in (bs_t5 _ (List.mem_of_getElem? (i := 19) rfl)) rfl
theorem qX5_92 : bs_cs "BalloonStall$Net" 92 mJ6_numberOfTrailingZeros_0f7a4 1 := ⟨kJ6_numberOfTrailingZeros_0f7a4, bsw_415, bsw_348⟩
theorem bsw_416 : (Jvm.Cond.methodLink "BalloonStall$Net" (95 : Nat) ({ cls := "BalloonStall$Figure", name := "endBits", desc := "(I)I" } : Jvm.MethodName)) ∈ bs_al := bs_al_in (bs_t5 _ (List.mem_of_getElem? (i := 20) rfl)) rfl
theorem qX5_95 : bs_cv "BalloonStall$Net" 95 mX1_endBits 1 1 := ⟨kX1_endBits, bsw_416, bsw_236, bsw_237, by decide, _, rfl, rfl⟩
theorem bsw_417 : (Jvm.Cond.methodLink "BalloonStall$Rule" (3 : Nat) ({ cls := "java/lang/Object", name := "<init>", desc := "()V" } : Jvm.MethodName)) ∈ bs_al := bs_al_in (bs_t1 _ (List.mem_of_getElem? (i := 202) rfl)) rfl
theorem oX6_3 : Cond.methodLink "BalloonStall$Rule" 3 objectInit ∈ bs_al := bsw_417
theorem bsw_418 : (Jvm.Cond.methodLink "BalloonStall$Rule" (25 : Nat) ({ cls := "java/lang/Math", name := "max", desc := "(II)I" } : Jvm.MethodName)) ∈ bs_al := bs_al_in (bs_t5 _ (List.mem_of_getElem? (i := 114) rfl)) rfl
theorem xX6_25 : Cond.methodLink "BalloonStall$Rule" 25 Lib.Math.max.name ∈ bs_al ∧ Cond.static Lib.Math.max.name ∈ bs_al ∧ Cond.initialized "java/lang/Math" ∈ bs_al ∧ Cond.code Lib.Math.max.name Lib.Math.max.code 2 (some .int) ∈ bs_al := ⟨bsw_418, bsw_84, bsw_85, bsw_86⟩
theorem bsw_419 : (Jvm.Cond.code ({ cls := "BalloonStall$Rule", name := "reckon", desc := "(I[JI)I" } : Jvm.MethodName) prog_8_method_4_code (3 : Nat) (Option.some Jvm.ClassFile.FieldType.int)) ∈ bs_al := bs_al_in (bs_t5 _ (List.mem_of_getElem? (i := 117) rfl)) rfl
theorem kX6_reckon : bs_cw mX6_reckon 3 := ⟨bsw_38, bsw_419, by decide +kernel, by decide +kernel, by decide +kernel⟩
theorem bsw_420 : (Jvm.Cond.methodLink "BalloonStall$Rule" (31 : Nat) ({ cls := "BalloonStall$Rule", name := "reckon", desc := "(I[JI)I" } : Jvm.MethodName)) ∈ bs_al := bs_al_in (bs_t5 _ (List.mem_of_getElem? (i := 115) rfl)) rfl
theorem bsw_421 : (Jvm.Cond.static ({ cls := "BalloonStall$Rule", name := "reckon", desc := "(I[JI)I" } : Jvm.MethodName)) ∈ bs_al := bs_al_in (bs_t5 _ (List.mem_of_getElem? (i := 116) rfl)) rfl
theorem qX6_31 : bs_cs "BalloonStall$Rule" 31 mX6_reckon 3 := ⟨kX6_reckon, bsw_420, bsw_421⟩
theorem bsw_422 : (Jvm.Cond.code ({ cls := "BalloonStall$Rule", name := "joined", desc := "(IJJ)J" } : Jvm.MethodName) prog_8_method_5_code (5 : Nat) (Option.some Jvm.ClassFile.FieldType.long)) ∈ bs_al := bs_al_in (bs_t5 _ (List.mem_of_getElem? (i := 120) rfl)) rfl
theorem kX6_joined : bs_cw mX6_joined 3 := ⟨bsw_38, bsw_422, by decide +kernel, by decide +kernel, by decide +kernel⟩
theorem bsw_423 : (Jvm.Cond.methodLink "BalloonStall$Rule" (35 : Nat) ({ cls := "BalloonStall$Rule", name := "joined", desc := "(IJJ)J" } : Jvm.MethodName)) ∈ bs_al := bs_al_in (bs_t5 _ (List.mem_of_getElem? (i := 118) rfl)) rfl
theorem bsw_424 : (Jvm.Cond.static ({ cls := "BalloonStall$Rule", name := "joined", desc := "(IJJ)J" } : Jvm.MethodName)) ∈ bs_al := bs_al_in (bs_t5 _ (List.mem_of_getElem? (i := 119) rfl)) rfl
theorem qX6_35 : bs_cs "BalloonStall$Rule" 35 mX6_joined 3 := ⟨kX6_joined, bsw_423, bsw_424⟩
theorem bsw_425 : (Jvm.Cond.code ({ cls := "BalloonStall$Rule", name := "within", desc := "(J)J" } : Jvm.MethodName) prog_8_method_6_code (2 : Nat) (Option.some Jvm.ClassFile.FieldType.long)) ∈ bs_al := bs_al_in (bs_t5 _ (List.mem_of_getElem? (i := 123) rfl)) rfl
theorem kX6_within : bs_cw mX6_within 1 := ⟨bsw_38, bsw_425, by decide +kernel, by decide +kernel, by decide +kernel⟩
theorem bsw_426 : (Jvm.Cond.methodLink "BalloonStall$Rule" (39 : Nat) ({ cls := "BalloonStall$Rule", name := "within", desc := "(J)J" } : Jvm.MethodName)) ∈ bs_al := bs_al_in (bs_t5 _ (List.mem_of_getElem? (i := 121) rfl)) rfl
theorem bsw_427 : (Jvm.Cond.static ({ cls := "BalloonStall$Rule", name := "within", desc := "(J)J" } : Jvm.MethodName)) ∈ bs_al := bs_al_in (bs_t5 _ (List.mem_of_getElem? (i := 122) rfl)) rfl
theorem qX6_39 : bs_cs "BalloonStall$Rule" 39 mX6_within 1 := ⟨kX6_within, bsw_426, bsw_427⟩
theorem bsw_428 : (Jvm.Cond.methodLink "BalloonStall$Rule" (47 : Nat) ({ cls := "java/lang/Math", name := "min", desc := "(JJ)J" } : Jvm.MethodName)) ∈ bs_al := bs_al_in (bs_t5 _ (List.mem_of_getElem? (i := 126) rfl)) rfl
theorem bsw_429 : (Jvm.Cond.static ({ cls := "java/lang/Math", name := "min", desc := "(JJ)J" } : Jvm.MethodName)) ∈ bs_al := bs_al_in (bs_t5 _ (List.mem_of_getElem? (i := 127) rfl)) rfl
theorem bsw_430 : (Jvm.Cond.code ({ cls := "java/lang/Math", name := "min", desc := "(JJ)J" } : Jvm.MethodName) prog_18_method_70_code (4 : Nat) (Option.some Jvm.ClassFile.FieldType.long)) ∈ bs_al := bs_al_in (bs_t5 _ (List.mem_of_getElem? (i := 128) rfl)) rfl
theorem xX6_47 : Cond.methodLink "BalloonStall$Rule" 47 Lib.MathLoose.min_long.x ∈ bs_al ∧ Cond.static Lib.MathLoose.min_long.x ∈ bs_al ∧ Cond.initialized "java/lang/Math" ∈ bs_al ∧ Cond.code Lib.MathLoose.min_long.x Lib.MathLoose.min_long.code 4 (some .long) ∈ bs_al := ⟨bsw_428, bsw_429, bsw_85, bsw_430⟩
theorem bsw_431 : (Jvm.Cond.methodLink "BalloonStall$Rule" (51 : Nat) ({ cls := "java/lang/Math", name := "max", desc := "(JJ)J" } : Jvm.MethodName)) ∈ bs_al := bs_al_in (bs_t5 _ (List.mem_of_getElem? (i := 129) rfl)) rfl
theorem bsw_432 : (Jvm.Cond.static ({ cls := "java/lang/Math", name := "max", desc := "(JJ)J" } : Jvm.MethodName)) ∈ bs_al := bs_al_in (bs_t5 _ (List.mem_of_getElem? (i := 130) rfl)) rfl
theorem bsw_433 : (Jvm.Cond.code ({ cls := "java/lang/Math", name := "max", desc := "(JJ)J" } : Jvm.MethodName) prog_18_method_66_code (4 : Nat) (Option.some Jvm.ClassFile.FieldType.long)) ∈ bs_al := bs_al_in (bs_t5 _ (List.mem_of_getElem? (i := 131) rfl)) rfl
theorem xX6_51 : Cond.methodLink "BalloonStall$Rule" 51 Lib.MathLoose.max_long.x ∈ bs_al ∧ Cond.static Lib.MathLoose.max_long.x ∈ bs_al ∧ Cond.initialized "java/lang/Math" ∈ bs_al ∧ Cond.code Lib.MathLoose.max_long.x Lib.MathLoose.max_long.code 4 (some .long) ∈ bs_al := ⟨bsw_431, bsw_432, bsw_85, bsw_433⟩
theorem bsw_434 : (Jvm.Cond.methodLink "BalloonStall$RuleReader" (3 : Nat) ({ cls := "java/lang/Object", name := "<init>", desc := "()V" } : Jvm.MethodName)) ∈ bs_al := bs_al_in (bs_t1 _ (List.mem_of_getElem? (i := 196) rfl)) rfl
theorem oX7_3 : Cond.methodLink "BalloonStall$RuleReader" 3 objectInit ∈ bs_al := bsw_434
theorem bsw_435 : (Jvm.Cond.code ({ cls := "BalloonStall$RuleReader", name := "begin", desc := "()V" } : Jvm.MethodName) prog_9_method_3_code (1 : Nat) (Option.none : Option Jvm.ClassFile.FieldType)) ∈ bs_al := bs_al_in (bs_t3 _ (List.mem_of_getElem? (i := 129) rfl)) rfl
theorem kX7_begin : bs_cw mX7_begin 0 := ⟨bsw_24, bsw_435, by decide +kernel, by decide +kernel, by decide +kernel⟩
theorem bsw_436 : (Jvm.Cond.methodLink "BalloonStall$RuleReader" (29 : Nat) ({ cls := "BalloonStall$RuleReader", name := "begin", desc := "()V" } : Jvm.MethodName)) ∈ bs_al := bs_al_in (bs_t3 _ (List.mem_of_getElem? (i := 126) rfl)) rfl
theorem bsw_437 : (Jvm.Cond.instanceMethod ({ cls := "BalloonStall$RuleReader", name := "begin", desc := "()V" } : Jvm.MethodName)) ∈ bs_al := bs_al_in (bs_t3 _ (List.mem_of_getElem? (i := 128) rfl)) rfl
theorem bsw_438 : (Jvm.Cond.selects "BalloonStall$RuleReader" ({ cls := "BalloonStall$RuleReader", name := "begin", desc := "()V" } : Jvm.MethodName) ({ cls := "BalloonStall$RuleReader", name := "begin", desc := "()V" } : Jvm.MethodName)) ∈ bs_al := bs_al_in (bs_ps1 (({ cls := "BalloonStall$RuleReader", name := "begin", desc := "()V" } : Jvm.MethodName), 11) (List.mem_of_getElem? (i := 12) rfl)) rfl
theorem qX7_29 : bs_cv "BalloonStall$RuleReader" 29 mX7_begin 0 7 := ⟨kX7_begin, bsw_436, bsw_437, bsw_438, by decide, _, rfl, rfl⟩
theorem bsw_439 : (Jvm.Cond.methodLink "BalloonStall$RuleReader" (38 : Nat) ({ cls := "BalloonStall$Tape", name := "at", desc := "(I)I" } : Jvm.MethodName)) ∈ bs_al := bs_al_in (bs_t3 _ (List.mem_of_getElem? (i := 130) rfl)) rfl
theorem qX7_38 : bs_cv "BalloonStall$RuleReader" 38 mX10_at 1 10 := ⟨kX10_at, bsw_439, bsw_268, bsw_269, by decide, _, rfl, rfl⟩
theorem bsw_440 : (Jvm.Cond.code ({ cls := "BalloonStall$RuleReader", name := "takes", desc := "(I)Z" } : Jvm.MethodName) prog_9_method_4_code (2 : Nat) (Option.some Jvm.ClassFile.FieldType.boolean)) ∈ bs_al := bs_al_in (bs_t3 _ (List.mem_of_getElem? (i := 134) rfl)) rfl
theorem kX7_takes : bs_cw mX7_takes 1 := ⟨bsw_24, bsw_440, by decide +kernel, by decide +kernel, by decide +kernel⟩
theorem bsw_441 : (Jvm.Cond.methodLink "BalloonStall$RuleReader" (42 : Nat) ({ cls := "BalloonStall$RuleReader", name := "takes", desc := "(I)Z" } : Jvm.MethodName)) ∈ bs_al := bs_al_in (bs_t3 _ (List.mem_of_getElem? (i := 131) rfl)) rfl
theorem bsw_442 : (Jvm.Cond.instanceMethod ({ cls := "BalloonStall$RuleReader", name := "takes", desc := "(I)Z" } : Jvm.MethodName)) ∈ bs_al := bs_al_in (bs_t3 _ (List.mem_of_getElem? (i := 133) rfl)) rfl
theorem bsw_443 : (Jvm.Cond.selects "BalloonStall$RuleReader" ({ cls := "BalloonStall$RuleReader", name := "takes", desc := "(I)Z" } : Jvm.MethodName) ({ cls := "BalloonStall$RuleReader", name := "takes", desc := "(I)Z" } : Jvm.MethodName)) ∈ bs_al := bs_al_in (bs_ps1 (({ cls := "BalloonStall$RuleReader", name := "takes", desc := "(I)Z" } : Jvm.MethodName), 11) (List.mem_of_getElem? (i := 13) rfl)) rfl
theorem qX7_42 : bs_cv "BalloonStall$RuleReader" 42 mX7_takes 1 7 := ⟨kX7_takes, bsw_441, bsw_442, bsw_443, by decide, _, rfl, rfl⟩
theorem bsw_444 : (Jvm.Cond.code ({ cls := "BalloonStall$RuleReader", name := "endsClause", desc := "()Z" } : Jvm.MethodName) prog_9_method_15_code (1 : Nat) (Option.some Jvm.ClassFile.FieldType.boolean)) ∈ bs_al := bs_al_in (bs_t3 _ (List.mem_of_getElem? (i := 193) rfl)) rfl
theorem kX7_endsClause : bs_cw mX7_endsClause 0 := ⟨bsw_24, bsw_444, by decide +kernel, by decide +kernel, by decide +kernel⟩
theorem bsw_445 : (Jvm.Cond.methodLink "BalloonStall$RuleReader" (49 : Nat) ({ cls := "BalloonStall$RuleReader", name := "endsClause", desc := "()Z" } : Jvm.MethodName)) ∈ bs_al := bs_al_in (bs_t3 _ (List.mem_of_getElem? (i := 190) rfl)) rfl
theorem bsw_446 : (Jvm.Cond.instanceMethod ({ cls := "BalloonStall$RuleReader", name := "endsClause", desc := "()Z" } : Jvm.MethodName)) ∈ bs_al := bs_al_in (bs_t3 _ (List.mem_of_getElem? (i := 192) rfl)) rfl
theorem bsw_447 : (Jvm.Cond.selects "BalloonStall$RuleReader" ({ cls := "BalloonStall$RuleReader", name := "endsClause", desc := "()Z" } : Jvm.MethodName) ({ cls := "BalloonStall$RuleReader", name := "endsClause", desc := "()Z" } : Jvm.MethodName)) ∈ bs_al := bs_al_in (bs_ps2 (({ cls := "BalloonStall$RuleReader", name := "endsClause", desc := "()Z" } : Jvm.MethodName), 11) (List.mem_of_getElem? (i := 10) rfl)) rfl
theorem qX7_49 : bs_cv "BalloonStall$RuleReader" 49 mX7_endsClause 0 7 := ⟨kX7_endsClause, bsw_445, bsw_446, bsw_447, by decide, _, rfl, rfl⟩
theorem bsw_448 : (Jvm.Cond.code ({ cls := "BalloonStall$RuleReader", name := "takesDigit", desc := "(I)Z" } : Jvm.MethodName) prog_9_method_5_code (3 : Nat) (Option.some Jvm.ClassFile.FieldType.boolean)) ∈ bs_al := bs_al_in (bs_t3 _ (List.mem_of_getElem? (i := 139) rfl)) rfl
theorem kX7_takesDigit : bs_cw mX7_takesDigit 1 := ⟨bsw_24, bsw_448, by decide +kernel, by decide +kernel, by decide +kernel⟩
theorem bsw_449 : (Jvm.Cond.methodLink "BalloonStall$RuleReader" (77 : Nat) ({ cls := "BalloonStall$RuleReader", name := "takesDigit", desc := "(I)Z" } : Jvm.MethodName)) ∈ bs_al := bs_al_in (bs_t3 _ (List.mem_of_getElem? (i := 136) rfl)) rfl
theorem bsw_450 : (Jvm.Cond.instanceMethod ({ cls := "BalloonStall$RuleReader", name := "takesDigit", desc := "(I)Z" } : Jvm.MethodName)) ∈ bs_al := bs_al_in (bs_t3 _ (List.mem_of_getElem? (i := 138) rfl)) rfl
theorem bsw_451 : (Jvm.Cond.selects "BalloonStall$RuleReader" ({ cls := "BalloonStall$RuleReader", name := "takesDigit", desc := "(I)Z" } : Jvm.MethodName) ({ cls := "BalloonStall$RuleReader", name := "takesDigit", desc := "(I)Z" } : Jvm.MethodName)) ∈ bs_al := bs_al_in (bs_ps1 (({ cls := "BalloonStall$RuleReader", name := "takesDigit", desc := "(I)Z" } : Jvm.MethodName), 11) (List.mem_of_getElem? (i := 14) rfl)) rfl
theorem qX7_77 : bs_cv "BalloonStall$RuleReader" 77 mX7_takesDigit 1 7 := ⟨kX7_takesDigit, bsw_449, bsw_450, bsw_451, by decide, _, rfl, rfl⟩
theorem bsw_452 : (Jvm.Cond.code ({ cls := "BalloonStall$RuleReader", name := "opensUnit", desc := "(I)Z" } : Jvm.MethodName) prog_9_method_6_code (2 : Nat) (Option.some Jvm.ClassFile.FieldType.boolean)) ∈ bs_al := bs_al_in (bs_t3 _ (List.mem_of_getElem? (i := 147) rfl)) rfl
theorem kX7_opensUnit : bs_cw mX7_opensUnit 1 := ⟨bsw_24, bsw_452, by decide +kernel, by decide +kernel, by decide +kernel⟩
theorem bsw_453 : (Jvm.Cond.methodLink "BalloonStall$RuleReader" (80 : Nat) ({ cls := "BalloonStall$RuleReader", name := "opensUnit", desc := "(I)Z" } : Jvm.MethodName)) ∈ bs_al := bs_al_in (bs_t3 _ (List.mem_of_getElem? (i := 144) rfl)) rfl
theorem bsw_454 : (Jvm.Cond.instanceMethod ({ cls := "BalloonStall$RuleReader", name := "opensUnit", desc := "(I)Z" } : Jvm.MethodName)) ∈ bs_al := bs_al_in (bs_t3 _ (List.mem_of_getElem? (i := 146) rfl)) rfl
theorem bsw_455 : (Jvm.Cond.selects "BalloonStall$RuleReader" ({ cls := "BalloonStall$RuleReader", name := "opensUnit", desc := "(I)Z" } : Jvm.MethodName) ({ cls := "BalloonStall$RuleReader", name := "opensUnit", desc := "(I)Z" } : Jvm.MethodName)) ∈ bs_al := bs_al_in (bs_ps2 (({ cls := "BalloonStall$RuleReader", name := "opensUnit", desc := "(I)Z" } : Jvm.MethodName), 11) (List.mem_of_getElem? (i := 0) rfl)) rfl
theorem qX7_80 : bs_cv "BalloonStall$RuleReader" 80 mX7_opensUnit 1 7 := ⟨kX7_opensUnit, bsw_453, bsw_454, bsw_455, by decide, _, rfl, rfl⟩
theorem bsw_456 : (Jvm.Cond.code ({ cls := "BalloonStall$RuleReader", name := "takesAtom", desc := "(I)Z" } : Jvm.MethodName) prog_9_method_7_code (3 : Nat) (Option.some Jvm.ClassFile.FieldType.boolean)) ∈ bs_al := bs_al_in (bs_t3 _ (List.mem_of_getElem? (i := 155) rfl)) rfl
theorem kX7_takesAtom : bs_cw mX7_takesAtom 1 := ⟨bsw_24, bsw_456, by decide +kernel, by decide +kernel, by decide +kernel⟩
theorem bsw_457 : (Jvm.Cond.methodLink "BalloonStall$RuleReader" (83 : Nat) ({ cls := "BalloonStall$RuleReader", name := "takesAtom", desc := "(I)Z" } : Jvm.MethodName)) ∈ bs_al := bs_al_in (bs_t3 _ (List.mem_of_getElem? (i := 152) rfl)) rfl
theorem bsw_458 : (Jvm.Cond.instanceMethod ({ cls := "BalloonStall$RuleReader", name := "takesAtom", desc := "(I)Z" } : Jvm.MethodName)) ∈ bs_al := bs_al_in (bs_t3 _ (List.mem_of_getElem? (i := 154) rfl)) rfl
theorem bsw_459 : (Jvm.Cond.selects "BalloonStall$RuleReader" ({ cls := "BalloonStall$RuleReader", name := "takesAtom", desc := "(I)Z" } : Jvm.MethodName) ({ cls := "BalloonStall$RuleReader", name := "takesAtom", desc := "(I)Z" } : Jvm.MethodName)) ∈ bs_al := bs_al_in (bs_ps2 (({ cls := "BalloonStall$RuleReader", name := "takesAtom", desc := "(I)Z" } : Jvm.MethodName), 11) (List.mem_of_getElem? (i := 2) rfl)) rfl
theorem qX7_83 : bs_cv "BalloonStall$RuleReader" 83 mX7_takesAtom 1 7 := ⟨kX7_takesAtom, bsw_457, bsw_458, bsw_459, by decide, _, rfl, rfl⟩
theorem bsw_460 : (Jvm.Cond.code ({ cls := "BalloonStall$RuleReader", name := "takesSign", desc := "(I)Z" } : Jvm.MethodName) prog_9_method_10_code (2 : Nat) (Option.some Jvm.ClassFile.FieldType.boolean)) ∈ bs_al := bs_al_in (bs_t3 _ (List.mem_of_getElem? (i := 166) rfl)) rfl
theorem kX7_takesSign : bs_cw mX7_takesSign 1 := ⟨bsw_24, bsw_460, by decide +kernel, by decide +kernel, by decide +kernel⟩
theorem bsw_461 : (Jvm.Cond.methodLink "BalloonStall$RuleReader" (86 : Nat) ({ cls := "BalloonStall$RuleReader", name := "takesSign", desc := "(I)Z" } : Jvm.MethodName)) ∈ bs_al := bs_al_in (bs_t3 _ (List.mem_of_getElem? (i := 163) rfl)) rfl
theorem bsw_462 : (Jvm.Cond.instanceMethod ({ cls := "BalloonStall$RuleReader", name := "takesSign", desc := "(I)Z" } : Jvm.MethodName)) ∈ bs_al := bs_al_in (bs_t3 _ (List.mem_of_getElem? (i := 165) rfl)) rfl
theorem bsw_463 : (Jvm.Cond.selects "BalloonStall$RuleReader" ({ cls := "BalloonStall$RuleReader", name := "takesSign", desc := "(I)Z" } : Jvm.MethodName) ({ cls := "BalloonStall$RuleReader", name := "takesSign", desc := "(I)Z" } : Jvm.MethodName)) ∈ bs_al := bs_al_in (bs_ps2 (({ cls := "BalloonStall$RuleReader", name := "takesSign", desc := "(I)Z" } : Jvm.MethodName), 11) (List.mem_of_getElem? (i := 4) rfl)) rfl
theorem qX7_86 : bs_cv "BalloonStall$RuleReader" 86 mX7_takesSign 1 7 := ⟨kX7_takesSign, bsw_461, bsw_462, bsw_463, by decide, _, rfl, rfl⟩
theorem bsw_464 : (Jvm.Cond.code ({ cls := "BalloonStall$RuleReader", name := "tell", desc := "(I)V" } : Jvm.MethodName) prog_9_method_19_code (2 : Nat) (Option.none : Option Jvm.ClassFile.FieldType)) ∈ bs_al := bs_al_in (bs_t3 _ (List.mem_of_getElem? (i := 143) rfl)) rfl
theorem kX7_tell : bs_cw mX7_tell 1 := ⟨bsw_24, bsw_464, by decide +kernel, by decide +kernel, by decide +kernel⟩
theorem bsw_465 : (Jvm.Cond.methodLink "BalloonStall$RuleReader" (92 : Nat) ({ cls := "BalloonStall$RuleReader", name := "tell", desc := "(I)V" } : Jvm.MethodName)) ∈ bs_al := bs_al_in (bs_t3 _ (List.mem_of_getElem? (i := 140) rfl)) rfl
theorem bsw_466 : (Jvm.Cond.instanceMethod ({ cls := "BalloonStall$RuleReader", name := "tell", desc := "(I)V" } : Jvm.MethodName)) ∈ bs_al := bs_al_in (bs_t3 _ (List.mem_of_getElem? (i := 142) rfl)) rfl
theorem bsw_467 : (Jvm.Cond.selects "BalloonStall$RuleReader" ({ cls := "BalloonStall$RuleReader", name := "tell", desc := "(I)V" } : Jvm.MethodName) ({ cls := "BalloonStall$RuleReader", name := "tell", desc := "(I)V" } : Jvm.MethodName)) ∈ bs_al := bs_al_in (bs_ps1 (({ cls := "BalloonStall$RuleReader", name := "tell", desc := "(I)V" } : Jvm.MethodName), 11) (List.mem_of_getElem? (i := 15) rfl)) rfl
theorem qX7_92 : bs_cv "BalloonStall$RuleReader" 92 mX7_tell 1 7 := ⟨kX7_tell, bsw_465, bsw_466, bsw_467, by decide, _, rfl, rfl⟩
theorem bsw_468 : (Jvm.Cond.code ({ cls := "BalloonStall$RuleReader", name := "await", desc := "(I)V" } : Jvm.MethodName) prog_9_method_18_code (2 : Nat) (Option.none : Option Jvm.ClassFile.FieldType)) ∈ bs_al := bs_al_in (bs_t3 _ (List.mem_of_getElem? (i := 151) rfl)) rfl
theorem kX7_await : bs_cw mX7_await 1 := ⟨bsw_24, bsw_468, by decide +kernel, by decide +kernel, by decide +kernel⟩
theorem bsw_469 : (Jvm.Cond.methodLink "BalloonStall$RuleReader" (96 : Nat) ({ cls := "BalloonStall$RuleReader", name := "await", desc := "(I)V" } : Jvm.MethodName)) ∈ bs_al := bs_al_in (bs_t3 _ (List.mem_of_getElem? (i := 148) rfl)) rfl
theorem bsw_470 : (Jvm.Cond.instanceMethod ({ cls := "BalloonStall$RuleReader", name := "await", desc := "(I)V" } : Jvm.MethodName)) ∈ bs_al := bs_al_in (bs_t3 _ (List.mem_of_getElem? (i := 150) rfl)) rfl
theorem bsw_471 : (Jvm.Cond.selects "BalloonStall$RuleReader" ({ cls := "BalloonStall$RuleReader", name := "await", desc := "(I)V" } : Jvm.MethodName) ({ cls := "BalloonStall$RuleReader", name := "await", desc := "(I)V" } : Jvm.MethodName)) ∈ bs_al := bs_al_in (bs_ps2 (({ cls := "BalloonStall$RuleReader", name := "await", desc := "(I)V" } : Jvm.MethodName), 11) (List.mem_of_getElem? (i := 1) rfl)) rfl
theorem qX7_96 : bs_cv "BalloonStall$RuleReader" 96 mX7_await 1 7 := ⟨kX7_await, bsw_469, bsw_470, bsw_471, by decide, _, rfl, rfl⟩
theorem bsw_472 : (Jvm.Cond.code ({ cls := "BalloonStall$RuleReader", name := "opensBracket", desc := "()Z" } : Jvm.MethodName) prog_9_method_9_code (1 : Nat) (Option.some Jvm.ClassFile.FieldType.boolean)) ∈ bs_al := bs_al_in (bs_t3 _ (List.mem_of_getElem? (i := 159) rfl)) rfl
theorem kX7_opensBracket : bs_cw mX7_opensBracket 0 := ⟨bsw_24, bsw_472, by decide +kernel, by decide +kernel, by decide +kernel⟩
theorem bsw_473 : (Jvm.Cond.methodLink "BalloonStall$RuleReader" (99 : Nat) ({ cls := "BalloonStall$RuleReader", name := "opensBracket", desc := "()Z" } : Jvm.MethodName)) ∈ bs_al := bs_al_in (bs_t3 _ (List.mem_of_getElem? (i := 156) rfl)) rfl
theorem bsw_474 : (Jvm.Cond.instanceMethod ({ cls := "BalloonStall$RuleReader", name := "opensBracket", desc := "()Z" } : Jvm.MethodName)) ∈ bs_al := bs_al_in (bs_t3 _ (List.mem_of_getElem? (i := 158) rfl)) rfl
theorem bsw_475 : (Jvm.Cond.selects "BalloonStall$RuleReader" ({ cls := "BalloonStall$RuleReader", name := "opensBracket", desc := "()Z" } : Jvm.MethodName) ({ cls := "BalloonStall$RuleReader", name := "opensBracket", desc := "()Z" } : Jvm.MethodName)) ∈ bs_al := bs_al_in (bs_ps2 (({ cls := "BalloonStall$RuleReader", name := "opensBracket", desc := "()Z" } : Jvm.MethodName), 11) (List.mem_of_getElem? (i := 3) rfl)) rfl
theorem qX7_99 : bs_cv "BalloonStall$RuleReader" 99 mX7_opensBracket 0 7 := ⟨kX7_opensBracket, bsw_473, bsw_474, bsw_475, by decide, _, rfl, rfl⟩
theorem bsw_476 : (Jvm.Cond.code ({ cls := "BalloonStall$RuleReader", name := "letterOf", desc := "(I)I" } : Jvm.MethodName) prog_9_method_8_code (1 : Nat) (Option.some Jvm.ClassFile.FieldType.int)) ∈ bs_al := bs_al_in (bs_t3 _ (List.mem_of_getElem? (i := 162) rfl)) rfl
theorem kX7_letterOf : bs_cw mX7_letterOf 1 := ⟨bsw_24, bsw_476, by decide +kernel, by decide +kernel, by decide +kernel⟩
theorem bsw_477 : (Jvm.Cond.methodLink "BalloonStall$RuleReader" (102 : Nat) ({ cls := "BalloonStall$RuleReader", name := "letterOf", desc := "(I)I" } : Jvm.MethodName)) ∈ bs_al := bs_al_in (bs_t3 _ (List.mem_of_getElem? (i := 160) rfl)) rfl
theorem bsw_478 : (Jvm.Cond.static ({ cls := "BalloonStall$RuleReader", name := "letterOf", desc := "(I)I" } : Jvm.MethodName)) ∈ bs_al := bs_al_in (bs_t3 _ (List.mem_of_getElem? (i := 161) rfl)) rfl
theorem qX7_102 : bs_cs "BalloonStall$RuleReader" 102 mX7_letterOf 1 := ⟨kX7_letterOf, bsw_477, bsw_478⟩
theorem bsw_479 : (Jvm.Cond.code ({ cls := "BalloonStall$RuleReader", name := "joins", desc := "(III)Z" } : Jvm.MethodName) prog_9_method_12_code (4 : Nat) (Option.some Jvm.ClassFile.FieldType.boolean)) ∈ bs_al := bs_al_in (bs_t3 _ (List.mem_of_getElem? (i := 170) rfl)) rfl
theorem kX7_joins : bs_cw mX7_joins 3 := ⟨bsw_24, bsw_479, by decide +kernel, by decide +kernel, by decide +kernel⟩
theorem bsw_480 : (Jvm.Cond.methodLink "BalloonStall$RuleReader" (105 : Nat) ({ cls := "BalloonStall$RuleReader", name := "joins", desc := "(III)Z" } : Jvm.MethodName)) ∈ bs_al := bs_al_in (bs_t3 _ (List.mem_of_getElem? (i := 167) rfl)) rfl
theorem bsw_481 : (Jvm.Cond.instanceMethod ({ cls := "BalloonStall$RuleReader", name := "joins", desc := "(III)Z" } : Jvm.MethodName)) ∈ bs_al := bs_al_in (bs_t3 _ (List.mem_of_getElem? (i := 169) rfl)) rfl
theorem bsw_482 : (Jvm.Cond.selects "BalloonStall$RuleReader" ({ cls := "BalloonStall$RuleReader", name := "joins", desc := "(III)Z" } : Jvm.MethodName) ({ cls := "BalloonStall$RuleReader", name := "joins", desc := "(III)Z" } : Jvm.MethodName)) ∈ bs_al := bs_al_in (bs_ps2 (({ cls := "BalloonStall$RuleReader", name := "joins", desc := "(III)Z" } : Jvm.MethodName), 11) (List.mem_of_getElem? (i := 5) rfl)) rfl
theorem qX7_105 : bs_cv "BalloonStall$RuleReader" 105 mX7_joins 3 7 := ⟨kX7_joins, bsw_480, bsw_481, bsw_482, by decide, _, rfl, rfl⟩
theorem bsw_483 : (Jvm.Cond.code ({ cls := "BalloonStall$RuleReader", name := "unitIsWhole", desc := "()Z" } : Jvm.MethodName) prog_9_method_11_code (1 : Nat) (Option.some Jvm.ClassFile.FieldType.boolean)) ∈ bs_al := bs_al_in (bs_t3 _ (List.mem_of_getElem? (i := 181) rfl)) rfl
theorem kX7_unitIsWhole : bs_cw mX7_unitIsWhole 0 := ⟨bsw_24, bsw_483, by decide +kernel, by decide +kernel, by decide +kernel⟩
theorem bsw_484 : (Jvm.Cond.methodLink "BalloonStall$RuleReader" (109 : Nat) ({ cls := "BalloonStall$RuleReader", name := "unitIsWhole", desc := "()Z" } : Jvm.MethodName)) ∈ bs_al := bs_al_in (bs_t3 _ (List.mem_of_getElem? (i := 178) rfl)) rfl
theorem bsw_485 : (Jvm.Cond.instanceMethod ({ cls := "BalloonStall$RuleReader", name := "unitIsWhole", desc := "()Z" } : Jvm.MethodName)) ∈ bs_al := bs_al_in (bs_t3 _ (List.mem_of_getElem? (i := 180) rfl)) rfl
theorem bsw_486 : (Jvm.Cond.selects "BalloonStall$RuleReader" ({ cls := "BalloonStall$RuleReader", name := "unitIsWhole", desc := "()Z" } : Jvm.MethodName) ({ cls := "BalloonStall$RuleReader", name := "unitIsWhole", desc := "()Z" } : Jvm.MethodName)) ∈ bs_al := bs_al_in (bs_ps2 (({ cls := "BalloonStall$RuleReader", name := "unitIsWhole", desc := "()Z" } : Jvm.MethodName), 11) (List.mem_of_getElem? (i := 7) rfl)) rfl
theorem qX7_109 : bs_cv "BalloonStall$RuleReader" 109 mX7_unitIsWhole 0 7 := ⟨kX7_unitIsWhole, bsw_484, bsw_485, bsw_486, by decide, _, rfl, rfl⟩
theorem bsw_487 : (Jvm.Cond.code ({ cls := "BalloonStall$RuleReader", name := "closes", desc := "(II)Z" } : Jvm.MethodName) prog_9_method_13_code (3 : Nat) (Option.some Jvm.ClassFile.FieldType.boolean)) ∈ bs_al := bs_al_in (bs_t3 _ (List.mem_of_getElem? (i := 185) rfl)) rfl
theorem kX7_closes : bs_cw mX7_closes 2 := ⟨bsw_24, bsw_487, by decide +kernel, by decide +kernel, by decide +kernel⟩
theorem bsw_488 : (Jvm.Cond.methodLink "BalloonStall$RuleReader" (112 : Nat) ({ cls := "BalloonStall$RuleReader", name := "closes", desc := "(II)Z" } : Jvm.MethodName)) ∈ bs_al := bs_al_in (bs_t3 _ (List.mem_of_getElem? (i := 182) rfl)) rfl
theorem bsw_489 : (Jvm.Cond.instanceMethod ({ cls := "BalloonStall$RuleReader", name := "closes", desc := "(II)Z" } : Jvm.MethodName)) ∈ bs_al := bs_al_in (bs_t3 _ (List.mem_of_getElem? (i := 184) rfl)) rfl
theorem bsw_490 : (Jvm.Cond.selects "BalloonStall$RuleReader" ({ cls := "BalloonStall$RuleReader", name := "closes", desc := "(II)Z" } : Jvm.MethodName) ({ cls := "BalloonStall$RuleReader", name := "closes", desc := "(II)Z" } : Jvm.MethodName)) ∈ bs_al := bs_al_in (bs_ps2 (({ cls := "BalloonStall$RuleReader", name := "closes", desc := "(II)Z" } : Jvm.MethodName), 11) (List.mem_of_getElem? (i := 8) rfl)) rfl
theorem qX7_112 : bs_cv "BalloonStall$RuleReader" 112 mX7_closes 2 7 := ⟨kX7_closes, bsw_488, bsw_489, bsw_490, by decide, _, rfl, rfl⟩
theorem bsw_491 : (Jvm.Cond.code ({ cls := "BalloonStall$RuleReader", name := "endsCondition", desc := "()Z" } : Jvm.MethodName) prog_9_method_14_code (1 : Nat) (Option.some Jvm.ClassFile.FieldType.boolean)) ∈ bs_al := bs_al_in (bs_t3 _ (List.mem_of_getElem? (i := 189) rfl)) rfl
theorem kX7_endsCondition : bs_cw mX7_endsCondition 0 := ⟨bsw_24, bsw_491, by decide +kernel, by decide +kernel, by decide +kernel⟩
theorem bsw_492 : (Jvm.Cond.methodLink "BalloonStall$RuleReader" (116 : Nat) ({ cls := "BalloonStall$RuleReader", name := "endsCondition", desc := "()Z" } : Jvm.MethodName)) ∈ bs_al := bs_al_in (bs_t3 _ (List.mem_of_getElem? (i := 186) rfl)) rfl
theorem bsw_493 : (Jvm.Cond.instanceMethod ({ cls := "BalloonStall$RuleReader", name := "endsCondition", desc := "()Z" } : Jvm.MethodName)) ∈ bs_al := bs_al_in (bs_t3 _ (List.mem_of_getElem? (i := 188) rfl)) rfl
theorem bsw_494 : (Jvm.Cond.selects "BalloonStall$RuleReader" ({ cls := "BalloonStall$RuleReader", name := "endsCondition", desc := "()Z" } : Jvm.MethodName) ({ cls := "BalloonStall$RuleReader", name := "endsCondition", desc := "()Z" } : Jvm.MethodName)) ∈ bs_al := bs_al_in (bs_ps2 (({ cls := "BalloonStall$RuleReader", name := "endsCondition", desc := "()Z" } : Jvm.MethodName), 11) (List.mem_of_getElem? (i := 9) rfl)) rfl
theorem qX7_116 : bs_cv "BalloonStall$RuleReader" 116 mX7_endsCondition 0 7 := ⟨kX7_endsCondition, bsw_492, bsw_493, bsw_494, by decide, _, rfl, rfl⟩
theorem bsw_495 : (Jvm.Cond.code ({ cls := "BalloonStall$RuleReader", name := "tightness", desc := "(I)I" } : Jvm.MethodName) prog_9_method_16_code (1 : Nat) (Option.some Jvm.ClassFile.FieldType.int)) ∈ bs_al := bs_al_in (bs_t3 _ (List.mem_of_getElem? (i := 173) rfl)) rfl
theorem kX7_tightness : bs_cw mX7_tightness 1 := ⟨bsw_24, bsw_495, by decide +kernel, by decide +kernel, by decide +kernel⟩
theorem bsw_496 : (Jvm.Cond.methodLink "BalloonStall$RuleReader" (119 : Nat) ({ cls := "BalloonStall$RuleReader", name := "tightness", desc := "(I)I" } : Jvm.MethodName)) ∈ bs_al := bs_al_in (bs_t3 _ (List.mem_of_getElem? (i := 171) rfl)) rfl
theorem bsw_497 : (Jvm.Cond.static ({ cls := "BalloonStall$RuleReader", name := "tightness", desc := "(I)I" } : Jvm.MethodName)) ∈ bs_al := bs_al_in (bs_t3 _ (List.mem_of_getElem? (i := 172) rfl)) rfl
theorem qX7_119 : bs_cs "BalloonStall$RuleReader" 119 mX7_tightness 1 := ⟨kX7_tightness, bsw_496, bsw_497⟩
theorem bsw_498 : (Jvm.Cond.code ({ cls := "BalloonStall$RuleReader", name := "tellWaiting", desc := "(I)V" } : Jvm.MethodName) prog_9_method_17_code (2 : Nat) (Option.none : Option Jvm.ClassFile.FieldType)) ∈ bs_al := bs_al_in (bs_t3 _ (List.mem_of_getElem? (i := 177) rfl)) rfl
theorem kX7_tellWaiting : bs_cw mX7_tellWaiting 1 := ⟨bsw_24, bsw_498, by decide +kernel, by decide +kernel, by decide +kernel⟩
theorem bsw_499 : (Jvm.Cond.methodLink "BalloonStall$RuleReader" (122 : Nat) ({ cls := "BalloonStall$RuleReader", name := "tellWaiting", desc := "(I)V" } : Jvm.MethodName)) ∈ bs_al := bs_al_in (bs_t3 _ (List.mem_of_getElem? (i := 174) rfl)) rfl
theorem bsw_500 : (Jvm.Cond.instanceMethod ({ cls := "BalloonStall$RuleReader", name := "tellWaiting", desc := "(I)V" } : Jvm.MethodName)) ∈ bs_al := bs_al_in (bs_t3 _ (List.mem_of_getElem? (i := 176) rfl)) rfl
theorem bsw_501 : (Jvm.Cond.selects "BalloonStall$RuleReader" ({ cls := "BalloonStall$RuleReader", name := "tellWaiting", desc := "(I)V" } : Jvm.MethodName) ({ cls := "BalloonStall$RuleReader", name := "tellWaiting", desc := "(I)V" } : Jvm.MethodName)) ∈ bs_al := bs_al_in (bs_ps2 (({ cls := "BalloonStall$RuleReader", name := "tellWaiting", desc := "(I)V" } : Jvm.MethodName), 11) (List.mem_of_getElem? (i := 6) rfl)) rfl
theorem qX7_122 : bs_cv "BalloonStall$RuleReader" 122 mX7_tellWaiting 1 7 := ⟨kX7_tellWaiting, bsw_499, bsw_500, bsw_501, by decide, _, rfl, rfl⟩
theorem bsw_502 : (Jvm.Cond.methodLink "BalloonStall$Sorts" (3 : Nat) ({ cls := "java/lang/Object", name := "<init>", desc := "()V" } : Jvm.MethodName)) ∈ bs_al := bs_al_in (bs_t1 _ (List.mem_of_getElem? (i := 35) rfl)) rfl
theorem oX8_3 : Cond.methodLink "BalloonStall$Sorts" 3 objectInit ∈ bs_al := bsw_502
theorem bsw_503 : (Jvm.Cond.methodLink "BalloonStall$Stall" (3 : Nat) ({ cls := "java/lang/Object", name := "<init>", desc := "()V" } : Jvm.MethodName)) ∈ bs_al := bs_al_in (bs_t2 _ (List.mem_of_getElem? (i := 133) rfl)) rfl
theorem oX9_3 : Cond.methodLink "BalloonStall$Stall" 3 objectInit ∈ bs_al := bsw_503
theorem bsw_504 : (Jvm.Cond.methodLink "BalloonStall$Stall" (62 : Nat) ({ cls := "java/lang/Math", name := "max", desc := "(II)I" } : Jvm.MethodName)) ∈ bs_al := bs_al_in (bs_t5 _ (List.mem_of_getElem? (i := 54) rfl)) rfl
theorem xX9_62 : Cond.methodLink "BalloonStall$Stall" 62 Lib.Math.max.name ∈ bs_al ∧ Cond.static Lib.Math.max.name ∈ bs_al ∧ Cond.initialized "java/lang/Math" ∈ bs_al ∧ Cond.code Lib.Math.max.name Lib.Math.max.code 2 (some .int) ∈ bs_al := ⟨bsw_504, bsw_84, bsw_85, bsw_86⟩
theorem bsw_505 : (Jvm.Cond.code ({ cls := "BalloonStall$Stall", name := "outcomeFor", desc := "(ILBalloonStall$Figure;LBalloonStall$Sorts;)I" } : Jvm.MethodName) prog_11_method_5_code (6 : Nat) (Option.some Jvm.ClassFile.FieldType.int)) ∈ bs_al := bs_al_in (bs_t5 _ (List.mem_of_getElem? (i := 58) rfl)) rfl
theorem kX9_outcomeFor : bs_cw mX9_outcomeFor 3 := ⟨bsw_156, bsw_505, by decide +kernel, by decide +kernel, by decide +kernel⟩
theorem bsw_506 : (Jvm.Cond.methodLink "BalloonStall$Stall" (68 : Nat) ({ cls := "BalloonStall$Stall", name := "outcomeFor", desc := "(ILBalloonStall$Figure;LBalloonStall$Sorts;)I" } : Jvm.MethodName)) ∈ bs_al := bs_al_in (bs_t5 _ (List.mem_of_getElem? (i := 55) rfl)) rfl
theorem bsw_507 : (Jvm.Cond.instanceMethod ({ cls := "BalloonStall$Stall", name := "outcomeFor", desc := "(ILBalloonStall$Figure;LBalloonStall$Sorts;)I" } : Jvm.MethodName)) ∈ bs_al := bs_al_in (bs_t5 _ (List.mem_of_getElem? (i := 57) rfl)) rfl
theorem bsw_508 : (Jvm.Cond.selects "BalloonStall$Stall" ({ cls := "BalloonStall$Stall", name := "outcomeFor", desc := "(ILBalloonStall$Figure;LBalloonStall$Sorts;)I" } : Jvm.MethodName) ({ cls := "BalloonStall$Stall", name := "outcomeFor", desc := "(ILBalloonStall$Figure;LBalloonStall$Sorts;)I" } : Jvm.MethodName)) ∈ bs_al := bs_al_in (bs_ps3 (({ cls := "BalloonStall$Stall", name := "outcomeFor", desc := "(ILBalloonStall$Figure;LBalloonStall$Sorts;)I" } : Jvm.MethodName), 15) (List.mem_of_getElem? (i := 13) rfl)) rfl
theorem qX9_68 : bs_cv "BalloonStall$Stall" 68 mX9_outcomeFor 3 9 := ⟨kX9_outcomeFor, bsw_506, bsw_507, bsw_508, by decide, _, rfl, rfl⟩
theorem bsw_509 : (Jvm.Cond.code ({ cls := "BalloonStall$Stall", name := "isThere", desc := "(LBalloonStall$Figure;)Z" } : Jvm.MethodName) prog_11_method_6_code (3 : Nat) (Option.some Jvm.ClassFile.FieldType.boolean)) ∈ bs_al := bs_al_in (bs_t5 _ (List.mem_of_getElem? (i := 62) rfl)) rfl
theorem kX9_isThere : bs_cw mX9_isThere 1 := ⟨bsw_156, bsw_509, by decide +kernel, by decide +kernel, by decide +kernel⟩
theorem bsw_510 : (Jvm.Cond.methodLink "BalloonStall$Stall" (72 : Nat) ({ cls := "BalloonStall$Stall", name := "isThere", desc := "(LBalloonStall$Figure;)Z" } : Jvm.MethodName)) ∈ bs_al := bs_al_in (bs_t5 _ (List.mem_of_getElem? (i := 59) rfl)) rfl
theorem bsw_511 : (Jvm.Cond.instanceMethod ({ cls := "BalloonStall$Stall", name := "isThere", desc := "(LBalloonStall$Figure;)Z" } : Jvm.MethodName)) ∈ bs_al := bs_al_in (bs_t5 _ (List.mem_of_getElem? (i := 61) rfl)) rfl
theorem bsw_512 : (Jvm.Cond.selects "BalloonStall$Stall" ({ cls := "BalloonStall$Stall", name := "isThere", desc := "(LBalloonStall$Figure;)Z" } : Jvm.MethodName) ({ cls := "BalloonStall$Stall", name := "isThere", desc := "(LBalloonStall$Figure;)Z" } : Jvm.MethodName)) ∈ bs_al := bs_al_in (bs_ps3 (({ cls := "BalloonStall$Stall", name := "isThere", desc := "(LBalloonStall$Figure;)Z" } : Jvm.MethodName), 15) (List.mem_of_getElem? (i := 14) rfl)) rfl
theorem qX9_72 : bs_cv "BalloonStall$Stall" 72 mX9_isThere 1 9 := ⟨kX9_isThere, bsw_510, bsw_511, bsw_512, by decide, _, rfl, rfl⟩
theorem bsw_513 : (Jvm.Cond.code ({ cls := "BalloonStall$Figure", name := "bubblesOf", desc := "(I)I" } : Jvm.MethodName) prog_3_method_18_code (4 : Nat) (Option.some Jvm.ClassFile.FieldType.int)) ∈ bs_al := bs_al_in (bs_t5 _ (List.mem_of_getElem? (i := 67) rfl)) rfl
theorem kX1_bubblesOf : bs_cw mX1_bubblesOf 1 := ⟨bsw_33, bsw_513, by decide +kernel, by decide +kernel, by decide +kernel⟩
theorem bsw_514 : (Jvm.Cond.methodLink "BalloonStall$Stall" (87 : Nat) ({ cls := "BalloonStall$Figure", name := "bubblesOf", desc := "(I)I" } : Jvm.MethodName)) ∈ bs_al := bs_al_in (bs_t5 _ (List.mem_of_getElem? (i := 64) rfl)) rfl
theorem bsw_515 : (Jvm.Cond.instanceMethod ({ cls := "BalloonStall$Figure", name := "bubblesOf", desc := "(I)I" } : Jvm.MethodName)) ∈ bs_al := bs_al_in (bs_t5 _ (List.mem_of_getElem? (i := 65) rfl)) rfl
theorem bsw_516 : (Jvm.Cond.selects "BalloonStall$Figure" ({ cls := "BalloonStall$Figure", name := "bubblesOf", desc := "(I)I" } : Jvm.MethodName) ({ cls := "BalloonStall$Figure", name := "bubblesOf", desc := "(I)I" } : Jvm.MethodName)) ∈ bs_al := bs_al_in (bs_t5 _ (List.mem_of_getElem? (i := 66) rfl)) rfl
theorem qX9_87 : bs_cv "BalloonStall$Stall" 87 mX1_bubblesOf 1 1 := ⟨kX1_bubblesOf, bsw_514, bsw_515, bsw_516, by decide, _, rfl, rfl⟩
theorem bsw_517 : (Jvm.Cond.code ({ cls := "BalloonStall$Stall", name := "makesBalloon", desc := "(IIII)Z" } : Jvm.MethodName) prog_11_method_7_code (5 : Nat) (Option.some Jvm.ClassFile.FieldType.boolean)) ∈ bs_al := bs_al_in (bs_t5 _ (List.mem_of_getElem? (i := 71) rfl)) rfl
theorem kX9_makesBalloon : bs_cw mX9_makesBalloon 4 := ⟨bsw_156, bsw_517, by decide +kernel, by decide +kernel, by decide +kernel⟩
theorem bsw_518 : (Jvm.Cond.methodLink "BalloonStall$Stall" (95 : Nat) ({ cls := "BalloonStall$Stall", name := "makesBalloon", desc := "(IIII)Z" } : Jvm.MethodName)) ∈ bs_al := bs_al_in (bs_t5 _ (List.mem_of_getElem? (i := 68) rfl)) rfl
theorem bsw_519 : (Jvm.Cond.instanceMethod ({ cls := "BalloonStall$Stall", name := "makesBalloon", desc := "(IIII)Z" } : Jvm.MethodName)) ∈ bs_al := bs_al_in (bs_t5 _ (List.mem_of_getElem? (i := 70) rfl)) rfl
theorem bsw_520 : (Jvm.Cond.selects "BalloonStall$Stall" ({ cls := "BalloonStall$Stall", name := "makesBalloon", desc := "(IIII)Z" } : Jvm.MethodName) ({ cls := "BalloonStall$Stall", name := "makesBalloon", desc := "(IIII)Z" } : Jvm.MethodName)) ∈ bs_al := bs_al_in (bs_ps3 (({ cls := "BalloonStall$Stall", name := "makesBalloon", desc := "(IIII)Z" } : Jvm.MethodName), 15) (List.mem_of_getElem? (i := 15) rfl)) rfl
theorem qX9_95 : bs_cv "BalloonStall$Stall" 95 mX9_makesBalloon 4 9 := ⟨kX9_makesBalloon, bsw_518, bsw_519, bsw_520, by decide, _, rfl, rfl⟩
theorem bsw_521 : (Jvm.Cond.methodLink "BalloonStall$Stall" (99 : Nat) ({ cls := "java/util/Arrays", name := "fill", desc := "([II)V" } : Jvm.MethodName)) ∈ bs_al := bs_al_in (bs_t5 _ (List.mem_of_getElem? (i := 63) rfl)) rfl
theorem qX9_99 : bs_cs "BalloonStall$Stall" 99 mJ7_fill_53178 2 := ⟨kJ7_fill_53178, bsw_521, bsw_230⟩
theorem bsw_522 : (Jvm.Cond.methodLink "BalloonStall$Tape" (3 : Nat) ({ cls := "java/lang/Object", name := "<init>", desc := "()V" } : Jvm.MethodName)) ∈ bs_al := bs_al_in (bs_t1 _ (List.mem_of_getElem? (i := 63) rfl)) rfl
theorem oX10_3 : Cond.methodLink "BalloonStall$Tape" 3 objectInit ∈ bs_al := bsw_522
theorem bsw_523 : (Jvm.Cond.code ({ cls := "BalloonStall", name := "bubble", desc := "(III)I" } : Jvm.MethodName) prog_1_method_9_code (5 : Nat) (Option.some Jvm.ClassFile.FieldType.int)) ∈ bs_al := bs_al_in (bs_t5 _ (List.mem_of_getElem? (i := 159) rfl)) rfl
theorem kX11_bubble : bs_cw mX11_bubble 3 := ⟨bsw_10, bsw_523, by decide +kernel, by decide +kernel, by decide +kernel⟩
theorem bsw_524 : (Jvm.Cond.methodLink "BalloonStallLaw" (7 : Nat) ({ cls := "BalloonStall", name := "bubble", desc := "(III)I" } : Jvm.MethodName)) ∈ bs_al := bs_al_in (bs_t5 _ (List.mem_of_getElem? (i := 156) rfl)) rfl
theorem bsw_525 : (Jvm.Cond.instanceMethod ({ cls := "BalloonStall", name := "bubble", desc := "(III)I" } : Jvm.MethodName)) ∈ bs_al := bs_al_in (bs_t5 _ (List.mem_of_getElem? (i := 157) rfl)) rfl
theorem bsw_526 : (Jvm.Cond.selects "BalloonStall" ({ cls := "BalloonStall", name := "bubble", desc := "(III)I" } : Jvm.MethodName) ({ cls := "BalloonStall", name := "bubble", desc := "(III)I" } : Jvm.MethodName)) ∈ bs_al := bs_al_in (bs_t5 _ (List.mem_of_getElem? (i := 158) rfl)) rfl
theorem qL_7 : bs_cv "BalloonStallLaw" 7 mX11_bubble 3 11 := ⟨kX11_bubble, bsw_524, bsw_525, bsw_526, by decide, _, rfl, rfl⟩
theorem bsw_527 : (Jvm.Cond.code ({ cls := "BalloonStall", name := "guest", desc := "(II)I" } : Jvm.MethodName) prog_1_method_32_code (3 : Nat) (Option.some Jvm.ClassFile.FieldType.int)) ∈ bs_al := bs_al_in (bs_t5 _ (List.mem_of_getElem? (i := 233) rfl)) rfl
theorem kX11_guest : bs_cw mX11_guest 2 := ⟨bsw_10, bsw_527, by decide +kernel, by decide +kernel, by decide +kernel⟩
theorem bsw_528 : (Jvm.Cond.methodLink "BalloonStallLaw" (15 : Nat) ({ cls := "BalloonStall", name := "guest", desc := "(II)I" } : Jvm.MethodName)) ∈ bs_al := bs_al_in (bs_t5 _ (List.mem_of_getElem? (i := 230) rfl)) rfl
theorem bsw_529 : (Jvm.Cond.instanceMethod ({ cls := "BalloonStall", name := "guest", desc := "(II)I" } : Jvm.MethodName)) ∈ bs_al := bs_al_in (bs_t5 _ (List.mem_of_getElem? (i := 231) rfl)) rfl
theorem bsw_530 : (Jvm.Cond.selects "BalloonStall" ({ cls := "BalloonStall", name := "guest", desc := "(II)I" } : Jvm.MethodName) ({ cls := "BalloonStall", name := "guest", desc := "(II)I" } : Jvm.MethodName)) ∈ bs_al := bs_al_in (bs_t5 _ (List.mem_of_getElem? (i := 232) rfl)) rfl
theorem qL_15 : bs_cv "BalloonStallLaw" 15 mX11_guest 2 11 := ⟨kX11_guest, bsw_528, bsw_529, bsw_530, by decide, _, rfl, rfl⟩
theorem bsw_531 : (Jvm.Cond.code ({ cls := "BalloonStall", name := "worth", desc := "(IIIIII)I" } : Jvm.MethodName) prog_1_method_33_code (8 : Nat) (Option.some Jvm.ClassFile.FieldType.int)) ∈ bs_al := bs_al_in (bs_t6 _ (List.mem_of_getElem? (i := 2) rfl)) rfl
theorem kX11_worth : bs_cw mX11_worth 6 := ⟨bsw_10, bsw_531, by decide +kernel, by decide +kernel, by decide +kernel⟩
theorem bsw_532 : (Jvm.Cond.methodLink "BalloonStallLaw" (19 : Nat) ({ cls := "BalloonStall", name := "worth", desc := "(IIIIII)I" } : Jvm.MethodName)) ∈ bs_al := bs_al_in (bs_t5 _ (List.mem_of_getElem? (i := 239) rfl)) rfl
theorem bsw_533 : (Jvm.Cond.instanceMethod ({ cls := "BalloonStall", name := "worth", desc := "(IIIIII)I" } : Jvm.MethodName)) ∈ bs_al := bs_al_in (bs_t6 _ (List.mem_of_getElem? (i := 0) rfl)) rfl
theorem bsw_534 : (Jvm.Cond.selects "BalloonStall" ({ cls := "BalloonStall", name := "worth", desc := "(IIIIII)I" } : Jvm.MethodName) ({ cls := "BalloonStall", name := "worth", desc := "(IIIIII)I" } : Jvm.MethodName)) ∈ bs_al := bs_al_in (bs_t6 _ (List.mem_of_getElem? (i := 1) rfl)) rfl
theorem qL_19 : bs_cv "BalloonStallLaw" 19 mX11_worth 6 11 := ⟨kX11_worth, bsw_532, bsw_533, bsw_534, by decide, _, rfl, rfl⟩
theorem bsw_535 : (Jvm.Cond.code ({ cls := "BalloonStall", name := "<init>", desc := "()V" } : Jvm.MethodName) prog_1_method_1_code (2 : Nat) (Option.none : Option Jvm.ClassFile.FieldType)) ∈ bs_al := bs_al_in (bs_t1 _ (List.mem_of_getElem? (i := 26) rfl)) rfl
theorem kX11_init : bs_cw mX11_init 0 := ⟨bsw_10, bsw_535, by decide +kernel, by decide +kernel, by decide +kernel⟩
theorem bsw_536 : (Jvm.Cond.methodLink "BalloonStallLaw" (23 : Nat) ({ cls := "BalloonStall", name := "<init>", desc := "()V" } : Jvm.MethodName)) ∈ bs_al := bs_al_in (bs_t1 _ (List.mem_of_getElem? (i := 24) rfl)) rfl
theorem bsw_537 : (Jvm.Cond.instanceMethod ({ cls := "BalloonStall", name := "<init>", desc := "()V" } : Jvm.MethodName)) ∈ bs_al := bs_al_in (bs_t1 _ (List.mem_of_getElem? (i := 25) rfl)) rfl
theorem qL_23 : bs_ci "BalloonStallLaw" 23 mX11_init 0 := ⟨kX11_init, bsw_536, rfl, bsw_537⟩
theorem bsw_538 : (Jvm.Cond.initialized "BalloonStallModel") ∈ bs_al := bs_al_in (bs_t1 _ (List.mem_of_getElem? (i := 14) rfl)) rfl
theorem bsw_539 : (Jvm.Cond.code ({ cls := "BalloonStallModel", name := "<init>", desc := "()V" } : Jvm.MethodName) prog_14_method_2_code (1 : Nat) (Option.none : Option Jvm.ClassFile.FieldType)) ∈ bs_al := bs_al_in (bs_t6 _ (List.mem_of_getElem? (i := 9) rfl)) rfl
theorem kX12_init : bs_cw mX12_init 0 := ⟨bsw_538, bsw_539, by decide +kernel, by decide +kernel, by decide +kernel⟩
theorem bsw_540 : (Jvm.Cond.methodLink "BalloonStallLaw" (26 : Nat) ({ cls := "BalloonStallModel", name := "<init>", desc := "()V" } : Jvm.MethodName)) ∈ bs_al := bs_al_in (bs_t6 _ (List.mem_of_getElem? (i := 7) rfl)) rfl
theorem bsw_541 : (Jvm.Cond.instanceMethod ({ cls := "BalloonStallModel", name := "<init>", desc := "()V" } : Jvm.MethodName)) ∈ bs_al := bs_al_in (bs_t6 _ (List.mem_of_getElem? (i := 8) rfl)) rfl
theorem qL_26 : bs_ci "BalloonStallLaw" 26 mX12_init 0 := ⟨kX12_init, bsw_540, rfl, bsw_541⟩
theorem bsw_542 : (Jvm.Cond.code ({ cls := "BalloonStall", name := "sort", desc := "(III)I" } : Jvm.MethodName) prog_1_method_2_code (4 : Nat) (Option.some Jvm.ClassFile.FieldType.int)) ∈ bs_al := bs_al_in (bs_t3 _ (List.mem_of_getElem? (i := 0) rfl)) rfl
theorem kX11_sort : bs_cw mX11_sort 3 := ⟨bsw_10, bsw_542, by decide +kernel, by decide +kernel, by decide +kernel⟩
theorem bsw_543 : (Jvm.Cond.methodLink "BalloonStallLaw" (27 : Nat) ({ cls := "BalloonStall", name := "sort", desc := "(III)I" } : Jvm.MethodName)) ∈ bs_al := bs_al_in (bs_t2 _ (List.mem_of_getElem? (i := 237) rfl)) rfl
theorem bsw_544 : (Jvm.Cond.instanceMethod ({ cls := "BalloonStall", name := "sort", desc := "(III)I" } : Jvm.MethodName)) ∈ bs_al := bs_al_in (bs_t2 _ (List.mem_of_getElem? (i := 238) rfl)) rfl
theorem bsw_545 : (Jvm.Cond.selects "BalloonStall" ({ cls := "BalloonStall", name := "sort", desc := "(III)I" } : Jvm.MethodName) ({ cls := "BalloonStall", name := "sort", desc := "(III)I" } : Jvm.MethodName)) ∈ bs_al := bs_al_in (bs_t2 _ (List.mem_of_getElem? (i := 239) rfl)) rfl
theorem qL_27 : bs_cv "BalloonStallLaw" 27 mX11_sort 3 11 := ⟨kX11_sort, bsw_543, bsw_544, bsw_545, by decide, _, rfl, rfl⟩
theorem bsw_546 : (Jvm.Cond.code ({ cls := "BalloonStallModel", name := "sort", desc := "(III)I" } : Jvm.MethodName) prog_14_method_4_code (4 : Nat) (Option.some Jvm.ClassFile.FieldType.int)) ∈ bs_al := bs_al_in (bs_t6 _ (List.mem_of_getElem? (i := 175) rfl)) rfl
theorem kX12_sort : bs_cw mX12_sort 3 := ⟨bsw_538, bsw_546, by decide +kernel, by decide +kernel, by decide +kernel⟩
theorem bsw_547 : (Jvm.Cond.methodLink "BalloonStallLaw" (30 : Nat) ({ cls := "BalloonStallModel", name := "sort", desc := "(III)I" } : Jvm.MethodName)) ∈ bs_al := bs_al_in (bs_t6 _ (List.mem_of_getElem? (i := 172) rfl)) rfl
theorem bsw_548 : (Jvm.Cond.instanceMethod ({ cls := "BalloonStallModel", name := "sort", desc := "(III)I" } : Jvm.MethodName)) ∈ bs_al := bs_al_in (bs_t6 _ (List.mem_of_getElem? (i := 173) rfl)) rfl
theorem bsw_549 : (Jvm.Cond.selects "BalloonStallModel" ({ cls := "BalloonStallModel", name := "sort", desc := "(III)I" } : Jvm.MethodName) ({ cls := "BalloonStallModel", name := "sort", desc := "(III)I" } : Jvm.MethodName)) ∈ bs_al := bs_al_in (bs_t6 _ (List.mem_of_getElem? (i := 174) rfl)) rfl
theorem qL_30 : bs_cv "BalloonStallLaw" 30 mX12_sort 3 12 := ⟨kX12_sort, bsw_547, bsw_548, bsw_549, by decide, _, rfl, rfl⟩
theorem bsw_550 : (Jvm.Cond.code ({ cls := "BalloonStall", name := "feed", desc := "(IIIII)I" } : Jvm.MethodName) prog_1_method_3_code (7 : Nat) (Option.some Jvm.ClassFile.FieldType.int)) ∈ bs_al := bs_al_in (bs_t3 _ (List.mem_of_getElem? (i := 8) rfl)) rfl
theorem kX11_feed : bs_cw mX11_feed 5 := ⟨bsw_10, bsw_550, by decide +kernel, by decide +kernel, by decide +kernel⟩
theorem bsw_551 : (Jvm.Cond.methodLink "BalloonStallLaw" (31 : Nat) ({ cls := "BalloonStall", name := "feed", desc := "(IIIII)I" } : Jvm.MethodName)) ∈ bs_al := bs_al_in (bs_t3 _ (List.mem_of_getElem? (i := 5) rfl)) rfl
theorem bsw_552 : (Jvm.Cond.instanceMethod ({ cls := "BalloonStall", name := "feed", desc := "(IIIII)I" } : Jvm.MethodName)) ∈ bs_al := bs_al_in (bs_t3 _ (List.mem_of_getElem? (i := 6) rfl)) rfl
theorem bsw_553 : (Jvm.Cond.selects "BalloonStall" ({ cls := "BalloonStall", name := "feed", desc := "(IIIII)I" } : Jvm.MethodName) ({ cls := "BalloonStall", name := "feed", desc := "(IIIII)I" } : Jvm.MethodName)) ∈ bs_al := bs_al_in (bs_t3 _ (List.mem_of_getElem? (i := 7) rfl)) rfl
theorem qL_31 : bs_cv "BalloonStallLaw" 31 mX11_feed 5 11 := ⟨kX11_feed, bsw_551, bsw_552, bsw_553, by decide, _, rfl, rfl⟩
theorem bsw_554 : (Jvm.Cond.code ({ cls := "BalloonStallModel", name := "feed", desc := "(IIIII)I" } : Jvm.MethodName) prog_14_method_6_code (9 : Nat) (Option.some Jvm.ClassFile.FieldType.int)) ∈ bs_al := bs_al_in (bs_t6 _ (List.mem_of_getElem? (i := 182) rfl)) rfl
theorem kX12_feed : bs_cw mX12_feed 5 := ⟨bsw_538, bsw_554, by decide +kernel, by decide +kernel, by decide +kernel⟩
theorem bsw_555 : (Jvm.Cond.methodLink "BalloonStallLaw" (35 : Nat) ({ cls := "BalloonStallModel", name := "feed", desc := "(IIIII)I" } : Jvm.MethodName)) ∈ bs_al := bs_al_in (bs_t6 _ (List.mem_of_getElem? (i := 179) rfl)) rfl
theorem bsw_556 : (Jvm.Cond.instanceMethod ({ cls := "BalloonStallModel", name := "feed", desc := "(IIIII)I" } : Jvm.MethodName)) ∈ bs_al := bs_al_in (bs_t6 _ (List.mem_of_getElem? (i := 180) rfl)) rfl
theorem bsw_557 : (Jvm.Cond.selects "BalloonStallModel" ({ cls := "BalloonStallModel", name := "feed", desc := "(IIIII)I" } : Jvm.MethodName) ({ cls := "BalloonStallModel", name := "feed", desc := "(IIIII)I" } : Jvm.MethodName)) ∈ bs_al := bs_al_in (bs_t6 _ (List.mem_of_getElem? (i := 181) rfl)) rfl
theorem qL_35 : bs_cv "BalloonStallLaw" 35 mX12_feed 5 12 := ⟨kX12_feed, bsw_555, bsw_556, bsw_557, by decide, _, rfl, rfl⟩
theorem bsw_558 : (Jvm.Cond.code ({ cls := "BalloonStall", name := "end", desc := "(I)Z" } : Jvm.MethodName) prog_1_method_4_code (2 : Nat) (Option.some Jvm.ClassFile.FieldType.boolean)) ∈ bs_al := bs_al_in (bs_t3 _ (List.mem_of_getElem? (i := 19) rfl)) rfl
theorem kX11_end : bs_cw mX11_end 1 := ⟨bsw_10, bsw_558, by decide +kernel, by decide +kernel, by decide +kernel⟩
theorem bsw_559 : (Jvm.Cond.methodLink "BalloonStallLaw" (36 : Nat) ({ cls := "BalloonStall", name := "end", desc := "(I)Z" } : Jvm.MethodName)) ∈ bs_al := bs_al_in (bs_t3 _ (List.mem_of_getElem? (i := 16) rfl)) rfl
theorem bsw_560 : (Jvm.Cond.instanceMethod ({ cls := "BalloonStall", name := "end", desc := "(I)Z" } : Jvm.MethodName)) ∈ bs_al := bs_al_in (bs_t3 _ (List.mem_of_getElem? (i := 17) rfl)) rfl
theorem bsw_561 : (Jvm.Cond.selects "BalloonStall" ({ cls := "BalloonStall", name := "end", desc := "(I)Z" } : Jvm.MethodName) ({ cls := "BalloonStall", name := "end", desc := "(I)Z" } : Jvm.MethodName)) ∈ bs_al := bs_al_in (bs_t3 _ (List.mem_of_getElem? (i := 18) rfl)) rfl
theorem qL_36 : bs_cv "BalloonStallLaw" 36 mX11_end 1 11 := ⟨kX11_end, bsw_559, bsw_560, bsw_561, by decide, _, rfl, rfl⟩
theorem bsw_562 : (Jvm.Cond.code ({ cls := "BalloonStallModel", name := "end", desc := "(I)Z" } : Jvm.MethodName) prog_14_method_7_code (2 : Nat) (Option.some Jvm.ClassFile.FieldType.boolean)) ∈ bs_al := bs_al_in (bs_t6 _ (List.mem_of_getElem? (i := 189) rfl)) rfl
theorem kX12_end : bs_cw mX12_end 1 := ⟨bsw_538, bsw_562, by decide +kernel, by decide +kernel, by decide +kernel⟩
theorem bsw_563 : (Jvm.Cond.methodLink "BalloonStallLaw" (40 : Nat) ({ cls := "BalloonStallModel", name := "end", desc := "(I)Z" } : Jvm.MethodName)) ∈ bs_al := bs_al_in (bs_t6 _ (List.mem_of_getElem? (i := 186) rfl)) rfl
theorem bsw_564 : (Jvm.Cond.instanceMethod ({ cls := "BalloonStallModel", name := "end", desc := "(I)Z" } : Jvm.MethodName)) ∈ bs_al := bs_al_in (bs_t6 _ (List.mem_of_getElem? (i := 187) rfl)) rfl
theorem bsw_565 : (Jvm.Cond.selects "BalloonStallModel" ({ cls := "BalloonStallModel", name := "end", desc := "(I)Z" } : Jvm.MethodName) ({ cls := "BalloonStallModel", name := "end", desc := "(I)Z" } : Jvm.MethodName)) ∈ bs_al := bs_al_in (bs_t6 _ (List.mem_of_getElem? (i := 188) rfl)) rfl
theorem qL_40 : bs_cv "BalloonStallLaw" 40 mX12_end 1 12 := ⟨kX12_end, bsw_563, bsw_564, bsw_565, by decide, _, rfl, rfl⟩
theorem bsw_566 : (Jvm.Cond.code ({ cls := "BalloonStall", name := "fault", desc := "(I)I" } : Jvm.MethodName) prog_1_method_5_code (2 : Nat) (Option.some Jvm.ClassFile.FieldType.int)) ∈ bs_al := bs_al_in (bs_t3 _ (List.mem_of_getElem? (i := 23) rfl)) rfl
theorem kX11_fault : bs_cw mX11_fault 1 := ⟨bsw_10, bsw_566, by decide +kernel, by decide +kernel, by decide +kernel⟩
theorem bsw_567 : (Jvm.Cond.methodLink "BalloonStallLaw" (41 : Nat) ({ cls := "BalloonStall", name := "fault", desc := "(I)I" } : Jvm.MethodName)) ∈ bs_al := bs_al_in (bs_t3 _ (List.mem_of_getElem? (i := 20) rfl)) rfl
theorem bsw_568 : (Jvm.Cond.instanceMethod ({ cls := "BalloonStall", name := "fault", desc := "(I)I" } : Jvm.MethodName)) ∈ bs_al := bs_al_in (bs_t3 _ (List.mem_of_getElem? (i := 21) rfl)) rfl
theorem bsw_569 : (Jvm.Cond.selects "BalloonStall" ({ cls := "BalloonStall", name := "fault", desc := "(I)I" } : Jvm.MethodName) ({ cls := "BalloonStall", name := "fault", desc := "(I)I" } : Jvm.MethodName)) ∈ bs_al := bs_al_in (bs_t3 _ (List.mem_of_getElem? (i := 22) rfl)) rfl
theorem qL_41 : bs_cv "BalloonStallLaw" 41 mX11_fault 1 11 := ⟨kX11_fault, bsw_567, bsw_568, bsw_569, by decide, _, rfl, rfl⟩
theorem bsw_570 : (Jvm.Cond.code ({ cls := "BalloonStallModel", name := "fault", desc := "(I)I" } : Jvm.MethodName) prog_14_method_34_code (2 : Nat) (Option.some Jvm.ClassFile.FieldType.int)) ∈ bs_al := bs_al_in (bs_t6 _ (List.mem_of_getElem? (i := 193) rfl)) rfl
theorem kX12_fault : bs_cw mX12_fault 1 := ⟨bsw_538, bsw_570, by decide +kernel, by decide +kernel, by decide +kernel⟩
theorem bsw_571 : (Jvm.Cond.methodLink "BalloonStallLaw" (45 : Nat) ({ cls := "BalloonStallModel", name := "fault", desc := "(I)I" } : Jvm.MethodName)) ∈ bs_al := bs_al_in (bs_t6 _ (List.mem_of_getElem? (i := 190) rfl)) rfl
theorem bsw_572 : (Jvm.Cond.instanceMethod ({ cls := "BalloonStallModel", name := "fault", desc := "(I)I" } : Jvm.MethodName)) ∈ bs_al := bs_al_in (bs_t6 _ (List.mem_of_getElem? (i := 191) rfl)) rfl
theorem bsw_573 : (Jvm.Cond.selects "BalloonStallModel" ({ cls := "BalloonStallModel", name := "fault", desc := "(I)I" } : Jvm.MethodName) ({ cls := "BalloonStallModel", name := "fault", desc := "(I)I" } : Jvm.MethodName)) ∈ bs_al := bs_al_in (bs_t6 _ (List.mem_of_getElem? (i := 192) rfl)) rfl
theorem qL_45 : bs_cv "BalloonStallLaw" 45 mX12_fault 1 12 := ⟨kX12_fault, bsw_571, bsw_572, bsw_573, by decide, _, rfl, rfl⟩
theorem bsw_574 : (Jvm.Cond.code ({ cls := "BalloonStall", name := "figure", desc := "()I" } : Jvm.MethodName) prog_1_method_6_code (2 : Nat) (Option.some Jvm.ClassFile.FieldType.int)) ∈ bs_al := bs_al_in (bs_t3 _ (List.mem_of_getElem? (i := 197) rfl)) rfl
theorem kX11_figure : bs_cw mX11_figure 0 := ⟨bsw_10, bsw_574, by decide +kernel, by decide +kernel, by decide +kernel⟩
theorem bsw_575 : (Jvm.Cond.methodLink "BalloonStallLaw" (46 : Nat) ({ cls := "BalloonStall", name := "figure", desc := "()I" } : Jvm.MethodName)) ∈ bs_al := bs_al_in (bs_t3 _ (List.mem_of_getElem? (i := 194) rfl)) rfl
theorem bsw_576 : (Jvm.Cond.instanceMethod ({ cls := "BalloonStall", name := "figure", desc := "()I" } : Jvm.MethodName)) ∈ bs_al := bs_al_in (bs_t3 _ (List.mem_of_getElem? (i := 195) rfl)) rfl
theorem bsw_577 : (Jvm.Cond.selects "BalloonStall" ({ cls := "BalloonStall", name := "figure", desc := "()I" } : Jvm.MethodName) ({ cls := "BalloonStall", name := "figure", desc := "()I" } : Jvm.MethodName)) ∈ bs_al := bs_al_in (bs_t3 _ (List.mem_of_getElem? (i := 196) rfl)) rfl
theorem qL_46 : bs_cv "BalloonStallLaw" 46 mX11_figure 0 11 := ⟨kX11_figure, bsw_575, bsw_576, bsw_577, by decide, _, rfl, rfl⟩
theorem bsw_578 : (Jvm.Cond.code ({ cls := "BalloonStallModel", name := "figure", desc := "()I" } : Jvm.MethodName) prog_14_method_35_code (1 : Nat) (Option.some Jvm.ClassFile.FieldType.int)) ∈ bs_al := bs_al_in (bs_t7 _ (List.mem_of_getElem? (i := 61) rfl)) rfl
theorem kX12_figure : bs_cw mX12_figure 0 := ⟨bsw_538, bsw_578, by decide +kernel, by decide +kernel, by decide +kernel⟩
theorem bsw_579 : (Jvm.Cond.methodLink "BalloonStallLaw" (50 : Nat) ({ cls := "BalloonStallModel", name := "figure", desc := "()I" } : Jvm.MethodName)) ∈ bs_al := bs_al_in (bs_t7 _ (List.mem_of_getElem? (i := 58) rfl)) rfl
theorem bsw_580 : (Jvm.Cond.instanceMethod ({ cls := "BalloonStallModel", name := "figure", desc := "()I" } : Jvm.MethodName)) ∈ bs_al := bs_al_in (bs_t7 _ (List.mem_of_getElem? (i := 59) rfl)) rfl
theorem bsw_581 : (Jvm.Cond.selects "BalloonStallModel" ({ cls := "BalloonStallModel", name := "figure", desc := "()I" } : Jvm.MethodName) ({ cls := "BalloonStallModel", name := "figure", desc := "()I" } : Jvm.MethodName)) ∈ bs_al := bs_al_in (bs_t7 _ (List.mem_of_getElem? (i := 60) rfl)) rfl
theorem qL_50 : bs_cv "BalloonStallLaw" 50 mX12_figure 0 12 := ⟨kX12_figure, bsw_579, bsw_580, bsw_581, by decide, _, rfl, rfl⟩
theorem bsw_582 : (Jvm.Cond.code ({ cls := "BalloonStall", name := "rule", desc := "()I" } : Jvm.MethodName) prog_1_method_7_code (1 : Nat) (Option.some Jvm.ClassFile.FieldType.int)) ∈ bs_al := bs_al_in (bs_t3 _ (List.mem_of_getElem? (i := 212) rfl)) rfl
theorem kX11_rule : bs_cw mX11_rule 0 := ⟨bsw_10, bsw_582, by decide +kernel, by decide +kernel, by decide +kernel⟩
theorem bsw_583 : (Jvm.Cond.methodLink "BalloonStallLaw" (51 : Nat) ({ cls := "BalloonStall", name := "rule", desc := "()I" } : Jvm.MethodName)) ∈ bs_al := bs_al_in (bs_t3 _ (List.mem_of_getElem? (i := 209) rfl)) rfl
theorem bsw_584 : (Jvm.Cond.instanceMethod ({ cls := "BalloonStall", name := "rule", desc := "()I" } : Jvm.MethodName)) ∈ bs_al := bs_al_in (bs_t3 _ (List.mem_of_getElem? (i := 210) rfl)) rfl
theorem bsw_585 : (Jvm.Cond.selects "BalloonStall" ({ cls := "BalloonStall", name := "rule", desc := "()I" } : Jvm.MethodName) ({ cls := "BalloonStall", name := "rule", desc := "()I" } : Jvm.MethodName)) ∈ bs_al := bs_al_in (bs_t3 _ (List.mem_of_getElem? (i := 211) rfl)) rfl
theorem qL_51 : bs_cv "BalloonStallLaw" 51 mX11_rule 0 11 := ⟨kX11_rule, bsw_583, bsw_584, bsw_585, by decide, _, rfl, rfl⟩
theorem bsw_586 : (Jvm.Cond.code ({ cls := "BalloonStallModel", name := "rule", desc := "()I" } : Jvm.MethodName) prog_14_method_36_code (1 : Nat) (Option.some Jvm.ClassFile.FieldType.int)) ∈ bs_al := bs_al_in (bs_t7 _ (List.mem_of_getElem? (i := 65) rfl)) rfl
theorem kX12_rule : bs_cw mX12_rule 0 := ⟨bsw_538, bsw_586, by decide +kernel, by decide +kernel, by decide +kernel⟩
theorem bsw_587 : (Jvm.Cond.methodLink "BalloonStallLaw" (54 : Nat) ({ cls := "BalloonStallModel", name := "rule", desc := "()I" } : Jvm.MethodName)) ∈ bs_al := bs_al_in (bs_t7 _ (List.mem_of_getElem? (i := 62) rfl)) rfl
theorem bsw_588 : (Jvm.Cond.instanceMethod ({ cls := "BalloonStallModel", name := "rule", desc := "()I" } : Jvm.MethodName)) ∈ bs_al := bs_al_in (bs_t7 _ (List.mem_of_getElem? (i := 63) rfl)) rfl
theorem bsw_589 : (Jvm.Cond.selects "BalloonStallModel" ({ cls := "BalloonStallModel", name := "rule", desc := "()I" } : Jvm.MethodName) ({ cls := "BalloonStallModel", name := "rule", desc := "()I" } : Jvm.MethodName)) ∈ bs_al := bs_al_in (bs_t7 _ (List.mem_of_getElem? (i := 64) rfl)) rfl
theorem qL_54 : bs_cv "BalloonStallLaw" 54 mX12_rule 0 12 := ⟨kX12_rule, bsw_587, bsw_588, bsw_589, by decide, _, rfl, rfl⟩
theorem bsw_590 : (Jvm.Cond.code ({ cls := "BalloonStall", name := "many", desc := "(II)I" } : Jvm.MethodName) prog_1_method_8_code (4 : Nat) (Option.some Jvm.ClassFile.FieldType.int)) ∈ bs_al := bs_al_in (bs_t3 _ (List.mem_of_getElem? (i := 221) rfl)) rfl
theorem kX11_many : bs_cw mX11_many 2 := ⟨bsw_10, bsw_590, by decide +kernel, by decide +kernel, by decide +kernel⟩
theorem bsw_591 : (Jvm.Cond.methodLink "BalloonStallLaw" (55 : Nat) ({ cls := "BalloonStall", name := "many", desc := "(II)I" } : Jvm.MethodName)) ∈ bs_al := bs_al_in (bs_t3 _ (List.mem_of_getElem? (i := 218) rfl)) rfl
theorem bsw_592 : (Jvm.Cond.instanceMethod ({ cls := "BalloonStall", name := "many", desc := "(II)I" } : Jvm.MethodName)) ∈ bs_al := bs_al_in (bs_t3 _ (List.mem_of_getElem? (i := 219) rfl)) rfl
theorem bsw_593 : (Jvm.Cond.selects "BalloonStall" ({ cls := "BalloonStall", name := "many", desc := "(II)I" } : Jvm.MethodName) ({ cls := "BalloonStall", name := "many", desc := "(II)I" } : Jvm.MethodName)) ∈ bs_al := bs_al_in (bs_t3 _ (List.mem_of_getElem? (i := 220) rfl)) rfl
theorem qL_55 : bs_cv "BalloonStallLaw" 55 mX11_many 2 11 := ⟨kX11_many, bsw_591, bsw_592, bsw_593, by decide, _, rfl, rfl⟩
theorem bsw_594 : (Jvm.Cond.code ({ cls := "BalloonStallModel", name := "many", desc := "(II)I" } : Jvm.MethodName) prog_14_method_52_code (6 : Nat) (Option.some Jvm.ClassFile.FieldType.int)) ∈ bs_al := bs_al_in (bs_t7 _ (List.mem_of_getElem? (i := 92) rfl)) rfl
theorem kX12_many : bs_cw mX12_many 2 := ⟨bsw_538, bsw_594, by decide +kernel, by decide +kernel, by decide +kernel⟩
theorem bsw_595 : (Jvm.Cond.methodLink "BalloonStallLaw" (58 : Nat) ({ cls := "BalloonStallModel", name := "many", desc := "(II)I" } : Jvm.MethodName)) ∈ bs_al := bs_al_in (bs_t7 _ (List.mem_of_getElem? (i := 89) rfl)) rfl
theorem bsw_596 : (Jvm.Cond.instanceMethod ({ cls := "BalloonStallModel", name := "many", desc := "(II)I" } : Jvm.MethodName)) ∈ bs_al := bs_al_in (bs_t7 _ (List.mem_of_getElem? (i := 90) rfl)) rfl
theorem bsw_597 : (Jvm.Cond.selects "BalloonStallModel" ({ cls := "BalloonStallModel", name := "many", desc := "(II)I" } : Jvm.MethodName) ({ cls := "BalloonStallModel", name := "many", desc := "(II)I" } : Jvm.MethodName)) ∈ bs_al := bs_al_in (bs_t7 _ (List.mem_of_getElem? (i := 91) rfl)) rfl
theorem qL_58 : bs_cv "BalloonStallLaw" 58 mX12_many 2 12 := ⟨kX12_many, bsw_595, bsw_596, bsw_597, by decide, _, rfl, rfl⟩
theorem bsw_598 : (Jvm.Cond.code ({ cls := "BalloonStallModel", name := "bubble", desc := "(III)I" } : Jvm.MethodName) prog_14_method_53_code (5 : Nat) (Option.some Jvm.ClassFile.FieldType.int)) ∈ bs_al := bs_al_in (bs_t7 _ (List.mem_of_getElem? (i := 120) rfl)) rfl
theorem kX12_bubble_ : bs_cw mX12_bubble_ 3 := ⟨bsw_538, bsw_598, by decide +kernel, by decide +kernel, by decide +kernel⟩
theorem bsw_599 : (Jvm.Cond.methodLink "BalloonStallLaw" (64 : Nat) ({ cls := "BalloonStallModel", name := "bubble", desc := "(III)I" } : Jvm.MethodName)) ∈ bs_al := bs_al_in (bs_t7 _ (List.mem_of_getElem? (i := 117) rfl)) rfl
theorem bsw_600 : (Jvm.Cond.instanceMethod ({ cls := "BalloonStallModel", name := "bubble", desc := "(III)I" } : Jvm.MethodName)) ∈ bs_al := bs_al_in (bs_t7 _ (List.mem_of_getElem? (i := 118) rfl)) rfl
theorem bsw_601 : (Jvm.Cond.selects "BalloonStallModel" ({ cls := "BalloonStallModel", name := "bubble", desc := "(III)I" } : Jvm.MethodName) ({ cls := "BalloonStallModel", name := "bubble", desc := "(III)I" } : Jvm.MethodName)) ∈ bs_al := bs_al_in (bs_t7 _ (List.mem_of_getElem? (i := 119) rfl)) rfl
theorem qL_64 : bs_cv "BalloonStallLaw" 64 mX12_bubble_ 3 12 := ⟨kX12_bubble_, bsw_599, bsw_600, bsw_601, by decide, _, rfl, rfl⟩
theorem bsw_602 : (Jvm.Cond.code ({ cls := "BalloonStallModel", name := "thrown", desc := "()I" } : Jvm.MethodName) prog_14_method_3_code (1 : Nat) (Option.some Jvm.ClassFile.FieldType.int)) ∈ bs_al := bs_al_in (bs_t6 _ (List.mem_of_getElem? (i := 171) rfl)) rfl
theorem kX12_thrown : bs_cw mX12_thrown 0 := ⟨bsw_538, bsw_602, by decide +kernel, by decide +kernel, by decide +kernel⟩
theorem bsw_603 : (Jvm.Cond.methodLink "BalloonStallLaw" (65 : Nat) ({ cls := "BalloonStallModel", name := "thrown", desc := "()I" } : Jvm.MethodName)) ∈ bs_al := bs_al_in (bs_t6 _ (List.mem_of_getElem? (i := 168) rfl)) rfl
theorem bsw_604 : (Jvm.Cond.instanceMethod ({ cls := "BalloonStallModel", name := "thrown", desc := "()I" } : Jvm.MethodName)) ∈ bs_al := bs_al_in (bs_t6 _ (List.mem_of_getElem? (i := 169) rfl)) rfl
theorem bsw_605 : (Jvm.Cond.selects "BalloonStallModel" ({ cls := "BalloonStallModel", name := "thrown", desc := "()I" } : Jvm.MethodName) ({ cls := "BalloonStallModel", name := "thrown", desc := "()I" } : Jvm.MethodName)) ∈ bs_al := bs_al_in (bs_t6 _ (List.mem_of_getElem? (i := 170) rfl)) rfl
theorem qL_65 : bs_cv "BalloonStallLaw" 65 mX12_thrown 0 12 := ⟨kX12_thrown, bsw_603, bsw_604, bsw_605, by decide, _, rfl, rfl⟩
theorem bsw_606 : (Jvm.Cond.code ({ cls := "BalloonStall", name := "ends", desc := "(II)I" } : Jvm.MethodName) prog_1_method_10_code (4 : Nat) (Option.some Jvm.ClassFile.FieldType.int)) ∈ bs_al := bs_al_in (bs_t4 _ (List.mem_of_getElem? (i := 12) rfl)) rfl
theorem kX11_ends : bs_cw mX11_ends 2 := ⟨bsw_10, bsw_606, by decide +kernel, by decide +kernel, by decide +kernel⟩
theorem bsw_607 : (Jvm.Cond.methodLink "BalloonStallLaw" (68 : Nat) ({ cls := "BalloonStall", name := "ends", desc := "(II)I" } : Jvm.MethodName)) ∈ bs_al := bs_al_in (bs_t4 _ (List.mem_of_getElem? (i := 9) rfl)) rfl
theorem bsw_608 : (Jvm.Cond.instanceMethod ({ cls := "BalloonStall", name := "ends", desc := "(II)I" } : Jvm.MethodName)) ∈ bs_al := bs_al_in (bs_t4 _ (List.mem_of_getElem? (i := 10) rfl)) rfl
theorem bsw_609 : (Jvm.Cond.selects "BalloonStall" ({ cls := "BalloonStall", name := "ends", desc := "(II)I" } : Jvm.MethodName) ({ cls := "BalloonStall", name := "ends", desc := "(II)I" } : Jvm.MethodName)) ∈ bs_al := bs_al_in (bs_t4 _ (List.mem_of_getElem? (i := 11) rfl)) rfl
theorem qL_68 : bs_cv "BalloonStallLaw" 68 mX11_ends 2 11 := ⟨kX11_ends, bsw_607, bsw_608, bsw_609, by decide, _, rfl, rfl⟩
theorem bsw_610 : (Jvm.Cond.code ({ cls := "BalloonStallModel", name := "ends", desc := "(II)I" } : Jvm.MethodName) prog_14_method_54_code (3 : Nat) (Option.some Jvm.ClassFile.FieldType.int)) ∈ bs_al := bs_al_in (bs_t7 _ (List.mem_of_getElem? (i := 128) rfl)) rfl
theorem kX12_ends : bs_cw mX12_ends 2 := ⟨bsw_538, bsw_610, by decide +kernel, by decide +kernel, by decide +kernel⟩
theorem bsw_611 : (Jvm.Cond.methodLink "BalloonStallLaw" (71 : Nat) ({ cls := "BalloonStallModel", name := "ends", desc := "(II)I" } : Jvm.MethodName)) ∈ bs_al := bs_al_in (bs_t7 _ (List.mem_of_getElem? (i := 125) rfl)) rfl
theorem bsw_612 : (Jvm.Cond.instanceMethod ({ cls := "BalloonStallModel", name := "ends", desc := "(II)I" } : Jvm.MethodName)) ∈ bs_al := bs_al_in (bs_t7 _ (List.mem_of_getElem? (i := 126) rfl)) rfl
theorem bsw_613 : (Jvm.Cond.selects "BalloonStallModel" ({ cls := "BalloonStallModel", name := "ends", desc := "(II)I" } : Jvm.MethodName) ({ cls := "BalloonStallModel", name := "ends", desc := "(II)I" } : Jvm.MethodName)) ∈ bs_al := bs_al_in (bs_t7 _ (List.mem_of_getElem? (i := 127) rfl)) rfl
theorem qL_71 : bs_cv "BalloonStallLaw" 71 mX12_ends 2 12 := ⟨kX12_ends, bsw_611, bsw_612, bsw_613, by decide, _, rfl, rfl⟩
theorem bsw_614 : (Jvm.Cond.code ({ cls := "BalloonStall", name := "bursts", desc := "(II)I" } : Jvm.MethodName) prog_1_method_11_code (5 : Nat) (Option.some Jvm.ClassFile.FieldType.int)) ∈ bs_al := bs_al_in (bs_t4 _ (List.mem_of_getElem? (i := 20) rfl)) rfl
theorem kX11_bursts : bs_cw mX11_bursts 2 := ⟨bsw_10, bsw_614, by decide +kernel, by decide +kernel, by decide +kernel⟩
theorem bsw_615 : (Jvm.Cond.methodLink "BalloonStallLaw" (72 : Nat) ({ cls := "BalloonStall", name := "bursts", desc := "(II)I" } : Jvm.MethodName)) ∈ bs_al := bs_al_in (bs_t4 _ (List.mem_of_getElem? (i := 17) rfl)) rfl
theorem bsw_616 : (Jvm.Cond.instanceMethod ({ cls := "BalloonStall", name := "bursts", desc := "(II)I" } : Jvm.MethodName)) ∈ bs_al := bs_al_in (bs_t4 _ (List.mem_of_getElem? (i := 18) rfl)) rfl
theorem bsw_617 : (Jvm.Cond.selects "BalloonStall" ({ cls := "BalloonStall", name := "bursts", desc := "(II)I" } : Jvm.MethodName) ({ cls := "BalloonStall", name := "bursts", desc := "(II)I" } : Jvm.MethodName)) ∈ bs_al := bs_al_in (bs_t4 _ (List.mem_of_getElem? (i := 19) rfl)) rfl
theorem qL_72 : bs_cv "BalloonStallLaw" 72 mX11_bursts 2 11 := ⟨kX11_bursts, bsw_615, bsw_616, bsw_617, by decide, _, rfl, rfl⟩
theorem bsw_618 : (Jvm.Cond.code ({ cls := "BalloonStallModel", name := "bursts", desc := "(II)I" } : Jvm.MethodName) prog_14_method_55_code (6 : Nat) (Option.some Jvm.ClassFile.FieldType.int)) ∈ bs_al := bs_al_in (bs_t7 _ (List.mem_of_getElem? (i := 136) rfl)) rfl
theorem kX12_bursts : bs_cw mX12_bursts 2 := ⟨bsw_538, bsw_618, by decide +kernel, by decide +kernel, by decide +kernel⟩
theorem bsw_619 : (Jvm.Cond.methodLink "BalloonStallLaw" (75 : Nat) ({ cls := "BalloonStallModel", name := "bursts", desc := "(II)I" } : Jvm.MethodName)) ∈ bs_al := bs_al_in (bs_t7 _ (List.mem_of_getElem? (i := 133) rfl)) rfl
theorem bsw_620 : (Jvm.Cond.instanceMethod ({ cls := "BalloonStallModel", name := "bursts", desc := "(II)I" } : Jvm.MethodName)) ∈ bs_al := bs_al_in (bs_t7 _ (List.mem_of_getElem? (i := 134) rfl)) rfl
theorem bsw_621 : (Jvm.Cond.selects "BalloonStallModel" ({ cls := "BalloonStallModel", name := "bursts", desc := "(II)I" } : Jvm.MethodName) ({ cls := "BalloonStallModel", name := "bursts", desc := "(II)I" } : Jvm.MethodName)) ∈ bs_al := bs_al_in (bs_t7 _ (List.mem_of_getElem? (i := 135) rfl)) rfl
theorem qL_75 : bs_cv "BalloonStallLaw" 75 mX12_bursts 2 12 := ⟨kX12_bursts, bsw_619, bsw_620, bsw_621, by decide, _, rfl, rfl⟩
theorem bsw_622 : (Jvm.Cond.code ({ cls := "BalloonStall", name := "rest", desc := "(II)I" } : Jvm.MethodName) prog_1_method_12_code (5 : Nat) (Option.some Jvm.ClassFile.FieldType.int)) ∈ bs_al := bs_al_in (bs_t4 _ (List.mem_of_getElem? (i := 32) rfl)) rfl
theorem kX11_rest : bs_cw mX11_rest 2 := ⟨bsw_10, bsw_622, by decide +kernel, by decide +kernel, by decide +kernel⟩
theorem bsw_623 : (Jvm.Cond.methodLink "BalloonStallLaw" (76 : Nat) ({ cls := "BalloonStall", name := "rest", desc := "(II)I" } : Jvm.MethodName)) ∈ bs_al := bs_al_in (bs_t4 _ (List.mem_of_getElem? (i := 29) rfl)) rfl
theorem bsw_624 : (Jvm.Cond.instanceMethod ({ cls := "BalloonStall", name := "rest", desc := "(II)I" } : Jvm.MethodName)) ∈ bs_al := bs_al_in (bs_t4 _ (List.mem_of_getElem? (i := 30) rfl)) rfl
theorem bsw_625 : (Jvm.Cond.selects "BalloonStall" ({ cls := "BalloonStall", name := "rest", desc := "(II)I" } : Jvm.MethodName) ({ cls := "BalloonStall", name := "rest", desc := "(II)I" } : Jvm.MethodName)) ∈ bs_al := bs_al_in (bs_t4 _ (List.mem_of_getElem? (i := 31) rfl)) rfl
theorem qL_76 : bs_cv "BalloonStallLaw" 76 mX11_rest 2 11 := ⟨kX11_rest, bsw_623, bsw_624, bsw_625, by decide, _, rfl, rfl⟩
theorem bsw_626 : (Jvm.Cond.code ({ cls := "BalloonStallModel", name := "rest", desc := "(II)I" } : Jvm.MethodName) prog_14_method_56_code (7 : Nat) (Option.some Jvm.ClassFile.FieldType.int)) ∈ bs_al := bs_al_in (bs_t7 _ (List.mem_of_getElem? (i := 144) rfl)) rfl
theorem kX12_rest : bs_cw mX12_rest 2 := ⟨bsw_538, bsw_626, by decide +kernel, by decide +kernel, by decide +kernel⟩
theorem bsw_627 : (Jvm.Cond.methodLink "BalloonStallLaw" (79 : Nat) ({ cls := "BalloonStallModel", name := "rest", desc := "(II)I" } : Jvm.MethodName)) ∈ bs_al := bs_al_in (bs_t7 _ (List.mem_of_getElem? (i := 141) rfl)) rfl
theorem bsw_628 : (Jvm.Cond.instanceMethod ({ cls := "BalloonStallModel", name := "rest", desc := "(II)I" } : Jvm.MethodName)) ∈ bs_al := bs_al_in (bs_t7 _ (List.mem_of_getElem? (i := 142) rfl)) rfl
theorem bsw_629 : (Jvm.Cond.selects "BalloonStallModel" ({ cls := "BalloonStallModel", name := "rest", desc := "(II)I" } : Jvm.MethodName) ({ cls := "BalloonStallModel", name := "rest", desc := "(II)I" } : Jvm.MethodName)) ∈ bs_al := bs_al_in (bs_t7 _ (List.mem_of_getElem? (i := 143) rfl)) rfl
theorem qL_79 : bs_cv "BalloonStallLaw" 79 mX12_rest 2 12 := ⟨kX12_rest, bsw_627, bsw_628, bsw_629, by decide, _, rfl, rfl⟩
theorem bsw_630 : (Jvm.Cond.code ({ cls := "BalloonStall", name := "hands", desc := "(I)I" } : Jvm.MethodName) prog_1_method_13_code (3 : Nat) (Option.some Jvm.ClassFile.FieldType.int)) ∈ bs_al := bs_al_in (bs_t4 _ (List.mem_of_getElem? (i := 41) rfl)) rfl
theorem kX11_hands : bs_cw mX11_hands 1 := ⟨bsw_10, bsw_630, by decide +kernel, by decide +kernel, by decide +kernel⟩
theorem bsw_631 : (Jvm.Cond.methodLink "BalloonStallLaw" (80 : Nat) ({ cls := "BalloonStall", name := "hands", desc := "(I)I" } : Jvm.MethodName)) ∈ bs_al := bs_al_in (bs_t4 _ (List.mem_of_getElem? (i := 38) rfl)) rfl
theorem bsw_632 : (Jvm.Cond.instanceMethod ({ cls := "BalloonStall", name := "hands", desc := "(I)I" } : Jvm.MethodName)) ∈ bs_al := bs_al_in (bs_t4 _ (List.mem_of_getElem? (i := 39) rfl)) rfl
theorem bsw_633 : (Jvm.Cond.selects "BalloonStall" ({ cls := "BalloonStall", name := "hands", desc := "(I)I" } : Jvm.MethodName) ({ cls := "BalloonStall", name := "hands", desc := "(I)I" } : Jvm.MethodName)) ∈ bs_al := bs_al_in (bs_t4 _ (List.mem_of_getElem? (i := 40) rfl)) rfl
theorem qL_80 : bs_cv "BalloonStallLaw" 80 mX11_hands 1 11 := ⟨kX11_hands, bsw_631, bsw_632, bsw_633, by decide, _, rfl, rfl⟩
theorem bsw_634 : (Jvm.Cond.code ({ cls := "BalloonStallModel", name := "hands", desc := "(I)I" } : Jvm.MethodName) prog_14_method_57_code (2 : Nat) (Option.some Jvm.ClassFile.FieldType.int)) ∈ bs_al := bs_al_in (bs_t7 _ (List.mem_of_getElem? (i := 148) rfl)) rfl
theorem kX12_hands : bs_cw mX12_hands 1 := ⟨bsw_538, bsw_634, by decide +kernel, by decide +kernel, by decide +kernel⟩
theorem bsw_635 : (Jvm.Cond.methodLink "BalloonStallLaw" (83 : Nat) ({ cls := "BalloonStallModel", name := "hands", desc := "(I)I" } : Jvm.MethodName)) ∈ bs_al := bs_al_in (bs_t7 _ (List.mem_of_getElem? (i := 145) rfl)) rfl
theorem bsw_636 : (Jvm.Cond.instanceMethod ({ cls := "BalloonStallModel", name := "hands", desc := "(I)I" } : Jvm.MethodName)) ∈ bs_al := bs_al_in (bs_t7 _ (List.mem_of_getElem? (i := 146) rfl)) rfl
theorem bsw_637 : (Jvm.Cond.selects "BalloonStallModel" ({ cls := "BalloonStallModel", name := "hands", desc := "(I)I" } : Jvm.MethodName) ({ cls := "BalloonStallModel", name := "hands", desc := "(I)I" } : Jvm.MethodName)) ∈ bs_al := bs_al_in (bs_t7 _ (List.mem_of_getElem? (i := 147) rfl)) rfl
theorem qL_83 : bs_cv "BalloonStallLaw" 83 mX12_hands 1 12 := ⟨kX12_hands, bsw_635, bsw_636, bsw_637, by decide, _, rfl, rfl⟩
theorem bsw_638 : (Jvm.Cond.code ({ cls := "BalloonStall", name := "holds", desc := "(II)I" } : Jvm.MethodName) prog_1_method_14_code (4 : Nat) (Option.some Jvm.ClassFile.FieldType.int)) ∈ bs_al := bs_al_in (bs_t4 _ (List.mem_of_getElem? (i := 45) rfl)) rfl
theorem kX11_holds : bs_cw mX11_holds 2 := ⟨bsw_10, bsw_638, by decide +kernel, by decide +kernel, by decide +kernel⟩
theorem bsw_639 : (Jvm.Cond.methodLink "BalloonStallLaw" (84 : Nat) ({ cls := "BalloonStall", name := "holds", desc := "(II)I" } : Jvm.MethodName)) ∈ bs_al := bs_al_in (bs_t4 _ (List.mem_of_getElem? (i := 42) rfl)) rfl
theorem bsw_640 : (Jvm.Cond.instanceMethod ({ cls := "BalloonStall", name := "holds", desc := "(II)I" } : Jvm.MethodName)) ∈ bs_al := bs_al_in (bs_t4 _ (List.mem_of_getElem? (i := 43) rfl)) rfl
theorem bsw_641 : (Jvm.Cond.selects "BalloonStall" ({ cls := "BalloonStall", name := "holds", desc := "(II)I" } : Jvm.MethodName) ({ cls := "BalloonStall", name := "holds", desc := "(II)I" } : Jvm.MethodName)) ∈ bs_al := bs_al_in (bs_t4 _ (List.mem_of_getElem? (i := 44) rfl)) rfl
theorem qL_84 : bs_cv "BalloonStallLaw" 84 mX11_holds 2 11 := ⟨kX11_holds, bsw_639, bsw_640, bsw_641, by decide, _, rfl, rfl⟩
theorem bsw_642 : (Jvm.Cond.code ({ cls := "BalloonStallModel", name := "holds", desc := "(II)I" } : Jvm.MethodName) prog_14_method_58_code (3 : Nat) (Option.some Jvm.ClassFile.FieldType.int)) ∈ bs_al := bs_al_in (bs_t7 _ (List.mem_of_getElem? (i := 152) rfl)) rfl
theorem kX12_holds : bs_cw mX12_holds 2 := ⟨bsw_538, bsw_642, by decide +kernel, by decide +kernel, by decide +kernel⟩
theorem bsw_643 : (Jvm.Cond.methodLink "BalloonStallLaw" (87 : Nat) ({ cls := "BalloonStallModel", name := "holds", desc := "(II)I" } : Jvm.MethodName)) ∈ bs_al := bs_al_in (bs_t7 _ (List.mem_of_getElem? (i := 149) rfl)) rfl
theorem bsw_644 : (Jvm.Cond.instanceMethod ({ cls := "BalloonStallModel", name := "holds", desc := "(II)I" } : Jvm.MethodName)) ∈ bs_al := bs_al_in (bs_t7 _ (List.mem_of_getElem? (i := 150) rfl)) rfl
theorem bsw_645 : (Jvm.Cond.selects "BalloonStallModel" ({ cls := "BalloonStallModel", name := "holds", desc := "(II)I" } : Jvm.MethodName) ({ cls := "BalloonStallModel", name := "holds", desc := "(II)I" } : Jvm.MethodName)) ∈ bs_al := bs_al_in (bs_t7 _ (List.mem_of_getElem? (i := 151) rfl)) rfl
theorem qL_87 : bs_cv "BalloonStallLaw" 87 mX12_holds 2 12 := ⟨kX12_holds, bsw_643, bsw_644, bsw_645, by decide, _, rfl, rfl⟩
theorem bsw_646 : (Jvm.Cond.code ({ cls := "BalloonStall", name := "plain", desc := "(I)I" } : Jvm.MethodName) prog_1_method_15_code (4 : Nat) (Option.some Jvm.ClassFile.FieldType.int)) ∈ bs_al := bs_al_in (bs_t4 _ (List.mem_of_getElem? (i := 58) rfl)) rfl
theorem kX11_plain : bs_cw mX11_plain 1 := ⟨bsw_10, bsw_646, by decide +kernel, by decide +kernel, by decide +kernel⟩
theorem bsw_647 : (Jvm.Cond.methodLink "BalloonStallLaw" (88 : Nat) ({ cls := "BalloonStall", name := "plain", desc := "(I)I" } : Jvm.MethodName)) ∈ bs_al := bs_al_in (bs_t4 _ (List.mem_of_getElem? (i := 55) rfl)) rfl
theorem bsw_648 : (Jvm.Cond.instanceMethod ({ cls := "BalloonStall", name := "plain", desc := "(I)I" } : Jvm.MethodName)) ∈ bs_al := bs_al_in (bs_t4 _ (List.mem_of_getElem? (i := 56) rfl)) rfl
theorem bsw_649 : (Jvm.Cond.selects "BalloonStall" ({ cls := "BalloonStall", name := "plain", desc := "(I)I" } : Jvm.MethodName) ({ cls := "BalloonStall", name := "plain", desc := "(I)I" } : Jvm.MethodName)) ∈ bs_al := bs_al_in (bs_t4 _ (List.mem_of_getElem? (i := 57) rfl)) rfl
theorem qL_88 : bs_cv "BalloonStallLaw" 88 mX11_plain 1 11 := ⟨kX11_plain, bsw_647, bsw_648, bsw_649, by decide, _, rfl, rfl⟩
theorem bsw_650 : (Jvm.Cond.code ({ cls := "BalloonStallModel", name := "plain", desc := "(I)I" } : Jvm.MethodName) prog_14_method_63_code (7 : Nat) (Option.some Jvm.ClassFile.FieldType.int)) ∈ bs_al := bs_al_in (bs_t7 _ (List.mem_of_getElem? (i := 156) rfl)) rfl
theorem kX12_plain : bs_cw mX12_plain 1 := ⟨bsw_538, bsw_650, by decide +kernel, by decide +kernel, by decide +kernel⟩
theorem bsw_651 : (Jvm.Cond.methodLink "BalloonStallLaw" (91 : Nat) ({ cls := "BalloonStallModel", name := "plain", desc := "(I)I" } : Jvm.MethodName)) ∈ bs_al := bs_al_in (bs_t7 _ (List.mem_of_getElem? (i := 153) rfl)) rfl
theorem bsw_652 : (Jvm.Cond.instanceMethod ({ cls := "BalloonStallModel", name := "plain", desc := "(I)I" } : Jvm.MethodName)) ∈ bs_al := bs_al_in (bs_t7 _ (List.mem_of_getElem? (i := 154) rfl)) rfl
theorem bsw_653 : (Jvm.Cond.selects "BalloonStallModel" ({ cls := "BalloonStallModel", name := "plain", desc := "(I)I" } : Jvm.MethodName) ({ cls := "BalloonStallModel", name := "plain", desc := "(I)I" } : Jvm.MethodName)) ∈ bs_al := bs_al_in (bs_t7 _ (List.mem_of_getElem? (i := 155) rfl)) rfl
theorem qL_91 : bs_cv "BalloonStallLaw" 91 mX12_plain 1 12 := ⟨kX12_plain, bsw_651, bsw_652, bsw_653, by decide, _, rfl, rfl⟩
theorem bsw_654 : (Jvm.Cond.code ({ cls := "BalloonStall", name := "pop", desc := "(III)I" } : Jvm.MethodName) prog_1_method_16_code (6 : Nat) (Option.some Jvm.ClassFile.FieldType.int)) ∈ bs_al := bs_al_in (bs_t4 _ (List.mem_of_getElem? (i := 74) rfl)) rfl
theorem kX11_pop : bs_cw mX11_pop 3 := ⟨bsw_10, bsw_654, by decide +kernel, by decide +kernel, by decide +kernel⟩
theorem bsw_655 : (Jvm.Cond.methodLink "BalloonStallLaw" (92 : Nat) ({ cls := "BalloonStall", name := "pop", desc := "(III)I" } : Jvm.MethodName)) ∈ bs_al := bs_al_in (bs_t4 _ (List.mem_of_getElem? (i := 71) rfl)) rfl
theorem bsw_656 : (Jvm.Cond.instanceMethod ({ cls := "BalloonStall", name := "pop", desc := "(III)I" } : Jvm.MethodName)) ∈ bs_al := bs_al_in (bs_t4 _ (List.mem_of_getElem? (i := 72) rfl)) rfl
theorem bsw_657 : (Jvm.Cond.selects "BalloonStall" ({ cls := "BalloonStall", name := "pop", desc := "(III)I" } : Jvm.MethodName) ({ cls := "BalloonStall", name := "pop", desc := "(III)I" } : Jvm.MethodName)) ∈ bs_al := bs_al_in (bs_t4 _ (List.mem_of_getElem? (i := 73) rfl)) rfl
theorem qL_92 : bs_cv "BalloonStallLaw" 92 mX11_pop 3 11 := ⟨kX11_pop, bsw_655, bsw_656, bsw_657, by decide, _, rfl, rfl⟩
theorem bsw_658 : (Jvm.Cond.code ({ cls := "BalloonStallModel", name := "pop", desc := "(III)I" } : Jvm.MethodName) prog_14_method_69_code (6 : Nat) (Option.some Jvm.ClassFile.FieldType.int)) ∈ bs_al := bs_al_in (bs_t7 _ (List.mem_of_getElem? (i := 184) rfl)) rfl
theorem kX12_pop : bs_cw mX12_pop 3 := ⟨bsw_538, bsw_658, by decide +kernel, by decide +kernel, by decide +kernel⟩
theorem bsw_659 : (Jvm.Cond.methodLink "BalloonStallLaw" (95 : Nat) ({ cls := "BalloonStallModel", name := "pop", desc := "(III)I" } : Jvm.MethodName)) ∈ bs_al := bs_al_in (bs_t7 _ (List.mem_of_getElem? (i := 181) rfl)) rfl
theorem bsw_660 : (Jvm.Cond.instanceMethod ({ cls := "BalloonStallModel", name := "pop", desc := "(III)I" } : Jvm.MethodName)) ∈ bs_al := bs_al_in (bs_t7 _ (List.mem_of_getElem? (i := 182) rfl)) rfl
theorem bsw_661 : (Jvm.Cond.selects "BalloonStallModel" ({ cls := "BalloonStallModel", name := "pop", desc := "(III)I" } : Jvm.MethodName) ({ cls := "BalloonStallModel", name := "pop", desc := "(III)I" } : Jvm.MethodName)) ∈ bs_al := bs_al_in (bs_t7 _ (List.mem_of_getElem? (i := 183) rfl)) rfl
theorem qL_95 : bs_cv "BalloonStallLaw" 95 mX12_pop 3 12 := ⟨kX12_pop, bsw_659, bsw_660, bsw_661, by decide, _, rfl, rfl⟩
theorem bsw_662 : (Jvm.Cond.code ({ cls := "BalloonStall", name := "weakest", desc := "(I)I" } : Jvm.MethodName) prog_1_method_17_code (3 : Nat) (Option.some Jvm.ClassFile.FieldType.int)) ∈ bs_al := bs_al_in (bs_t4 _ (List.mem_of_getElem? (i := 100) rfl)) rfl
theorem kX11_weakest : bs_cw mX11_weakest 1 := ⟨bsw_10, bsw_662, by decide +kernel, by decide +kernel, by decide +kernel⟩
theorem bsw_663 : (Jvm.Cond.methodLink "BalloonStallLaw" (96 : Nat) ({ cls := "BalloonStall", name := "weakest", desc := "(I)I" } : Jvm.MethodName)) ∈ bs_al := bs_al_in (bs_t4 _ (List.mem_of_getElem? (i := 97) rfl)) rfl
theorem bsw_664 : (Jvm.Cond.instanceMethod ({ cls := "BalloonStall", name := "weakest", desc := "(I)I" } : Jvm.MethodName)) ∈ bs_al := bs_al_in (bs_t4 _ (List.mem_of_getElem? (i := 98) rfl)) rfl
theorem bsw_665 : (Jvm.Cond.selects "BalloonStall" ({ cls := "BalloonStall", name := "weakest", desc := "(I)I" } : Jvm.MethodName) ({ cls := "BalloonStall", name := "weakest", desc := "(I)I" } : Jvm.MethodName)) ∈ bs_al := bs_al_in (bs_t4 _ (List.mem_of_getElem? (i := 99) rfl)) rfl
theorem qL_96 : bs_cv "BalloonStallLaw" 96 mX11_weakest 1 11 := ⟨kX11_weakest, bsw_663, bsw_664, bsw_665, by decide, _, rfl, rfl⟩
theorem bsw_666 : (Jvm.Cond.code ({ cls := "BalloonStallModel", name := "weakest", desc := "(I)I" } : Jvm.MethodName) prog_14_method_70_code (4 : Nat) (Option.some Jvm.ClassFile.FieldType.int)) ∈ bs_al := bs_al_in (bs_t7 _ (List.mem_of_getElem? (i := 201) rfl)) rfl
theorem kX12_weakest : bs_cw mX12_weakest 1 := ⟨bsw_538, bsw_666, by decide +kernel, by decide +kernel, by decide +kernel⟩
theorem bsw_667 : (Jvm.Cond.methodLink "BalloonStallLaw" (99 : Nat) ({ cls := "BalloonStallModel", name := "weakest", desc := "(I)I" } : Jvm.MethodName)) ∈ bs_al := bs_al_in (bs_t7 _ (List.mem_of_getElem? (i := 198) rfl)) rfl
theorem bsw_668 : (Jvm.Cond.instanceMethod ({ cls := "BalloonStallModel", name := "weakest", desc := "(I)I" } : Jvm.MethodName)) ∈ bs_al := bs_al_in (bs_t7 _ (List.mem_of_getElem? (i := 199) rfl)) rfl
theorem bsw_669 : (Jvm.Cond.selects "BalloonStallModel" ({ cls := "BalloonStallModel", name := "weakest", desc := "(I)I" } : Jvm.MethodName) ({ cls := "BalloonStallModel", name := "weakest", desc := "(I)I" } : Jvm.MethodName)) ∈ bs_al := bs_al_in (bs_t7 _ (List.mem_of_getElem? (i := 200) rfl)) rfl
theorem qL_99 : bs_cv "BalloonStallLaw" 99 mX12_weakest 1 12 := ⟨kX12_weakest, bsw_667, bsw_668, bsw_669, by decide, _, rfl, rfl⟩
theorem bsw_670 : (Jvm.Cond.code ({ cls := "BalloonStall", name := "add", desc := "(IIII)I" } : Jvm.MethodName) prog_1_method_18_code (8 : Nat) (Option.some Jvm.ClassFile.FieldType.int)) ∈ bs_al := bs_al_in (bs_t4 _ (List.mem_of_getElem? (i := 110) rfl)) rfl
theorem kX11_add : bs_cw mX11_add 4 := ⟨bsw_10, bsw_670, by decide +kernel, by decide +kernel, by decide +kernel⟩
theorem bsw_671 : (Jvm.Cond.methodLink "BalloonStallLaw" (100 : Nat) ({ cls := "BalloonStall", name := "add", desc := "(IIII)I" } : Jvm.MethodName)) ∈ bs_al := bs_al_in (bs_t4 _ (List.mem_of_getElem? (i := 107) rfl)) rfl
theorem bsw_672 : (Jvm.Cond.instanceMethod ({ cls := "BalloonStall", name := "add", desc := "(IIII)I" } : Jvm.MethodName)) ∈ bs_al := bs_al_in (bs_t4 _ (List.mem_of_getElem? (i := 108) rfl)) rfl
theorem bsw_673 : (Jvm.Cond.selects "BalloonStall" ({ cls := "BalloonStall", name := "add", desc := "(IIII)I" } : Jvm.MethodName) ({ cls := "BalloonStall", name := "add", desc := "(IIII)I" } : Jvm.MethodName)) ∈ bs_al := bs_al_in (bs_t4 _ (List.mem_of_getElem? (i := 109) rfl)) rfl
theorem qL_100 : bs_cv "BalloonStallLaw" 100 mX11_add 4 11 := ⟨kX11_add, bsw_671, bsw_672, bsw_673, by decide, _, rfl, rfl⟩
theorem bsw_674 : (Jvm.Cond.code ({ cls := "BalloonStallModel", name := "add", desc := "(IIII)I" } : Jvm.MethodName) prog_14_method_64_code (6 : Nat) (Option.some Jvm.ClassFile.FieldType.int)) ∈ bs_al := bs_al_in (bs_t7 _ (List.mem_of_getElem? (i := 176) rfl)) rfl
theorem kX12_add : bs_cw mX12_add 4 := ⟨bsw_538, bsw_674, by decide +kernel, by decide +kernel, by decide +kernel⟩
theorem bsw_675 : (Jvm.Cond.methodLink "BalloonStallLaw" (104 : Nat) ({ cls := "BalloonStallModel", name := "add", desc := "(IIII)I" } : Jvm.MethodName)) ∈ bs_al := bs_al_in (bs_t7 _ (List.mem_of_getElem? (i := 173) rfl)) rfl
theorem bsw_676 : (Jvm.Cond.instanceMethod ({ cls := "BalloonStallModel", name := "add", desc := "(IIII)I" } : Jvm.MethodName)) ∈ bs_al := bs_al_in (bs_t7 _ (List.mem_of_getElem? (i := 174) rfl)) rfl
theorem bsw_677 : (Jvm.Cond.selects "BalloonStallModel" ({ cls := "BalloonStallModel", name := "add", desc := "(IIII)I" } : Jvm.MethodName) ({ cls := "BalloonStallModel", name := "add", desc := "(IIII)I" } : Jvm.MethodName)) ∈ bs_al := bs_al_in (bs_t7 _ (List.mem_of_getElem? (i := 175) rfl)) rfl
theorem qL_104 : bs_cv "BalloonStallLaw" 104 mX12_add 4 12 := ⟨kX12_add, bsw_675, bsw_676, bsw_677, by decide, _, rfl, rfl⟩
theorem bsw_678 : (Jvm.Cond.code ({ cls := "BalloonStall", name := "alike", desc := "(II)I" } : Jvm.MethodName) prog_1_method_19_code (5 : Nat) (Option.some Jvm.ClassFile.FieldType.int)) ∈ bs_al := bs_al_in (bs_t4 _ (List.mem_of_getElem? (i := 121) rfl)) rfl
theorem kX11_alike : bs_cw mX11_alike 2 := ⟨bsw_10, bsw_678, by decide +kernel, by decide +kernel, by decide +kernel⟩
theorem bsw_679 : (Jvm.Cond.methodLink "BalloonStallLaw" (105 : Nat) ({ cls := "BalloonStall", name := "alike", desc := "(II)I" } : Jvm.MethodName)) ∈ bs_al := bs_al_in (bs_t4 _ (List.mem_of_getElem? (i := 118) rfl)) rfl
theorem bsw_680 : (Jvm.Cond.instanceMethod ({ cls := "BalloonStall", name := "alike", desc := "(II)I" } : Jvm.MethodName)) ∈ bs_al := bs_al_in (bs_t4 _ (List.mem_of_getElem? (i := 119) rfl)) rfl
theorem bsw_681 : (Jvm.Cond.selects "BalloonStall" ({ cls := "BalloonStall", name := "alike", desc := "(II)I" } : Jvm.MethodName) ({ cls := "BalloonStall", name := "alike", desc := "(II)I" } : Jvm.MethodName)) ∈ bs_al := bs_al_in (bs_t4 _ (List.mem_of_getElem? (i := 120) rfl)) rfl
theorem qL_105 : bs_cv "BalloonStallLaw" 105 mX11_alike 2 11 := ⟨kX11_alike, bsw_679, bsw_680, bsw_681, by decide, _, rfl, rfl⟩
theorem bsw_682 : (Jvm.Cond.code ({ cls := "BalloonStallModel", name := "alike", desc := "(II)I" } : Jvm.MethodName) prog_14_method_76_code (3 : Nat) (Option.some Jvm.ClassFile.FieldType.int)) ∈ bs_al := bs_al_in (bs_t7 _ (List.mem_of_getElem? (i := 206) rfl)) rfl
theorem kX12_alike : bs_cw mX12_alike 2 := ⟨bsw_538, bsw_682, by decide +kernel, by decide +kernel, by decide +kernel⟩
theorem bsw_683 : (Jvm.Cond.methodLink "BalloonStallLaw" (108 : Nat) ({ cls := "BalloonStallModel", name := "alike", desc := "(II)I" } : Jvm.MethodName)) ∈ bs_al := bs_al_in (bs_t7 _ (List.mem_of_getElem? (i := 203) rfl)) rfl
theorem bsw_684 : (Jvm.Cond.instanceMethod ({ cls := "BalloonStallModel", name := "alike", desc := "(II)I" } : Jvm.MethodName)) ∈ bs_al := bs_al_in (bs_t7 _ (List.mem_of_getElem? (i := 204) rfl)) rfl
theorem bsw_685 : (Jvm.Cond.selects "BalloonStallModel" ({ cls := "BalloonStallModel", name := "alike", desc := "(II)I" } : Jvm.MethodName) ({ cls := "BalloonStallModel", name := "alike", desc := "(II)I" } : Jvm.MethodName)) ∈ bs_al := bs_al_in (bs_t7 _ (List.mem_of_getElem? (i := 205) rfl)) rfl
theorem qL_108 : bs_cv "BalloonStallLaw" 108 mX12_alike 2 12 := ⟨kX12_alike, bsw_683, bsw_684, bsw_685, by decide, _, rfl, rfl⟩
theorem bsw_686 : (Jvm.Cond.code ({ cls := "BalloonStall", name := "match", desc := "(III)I" } : Jvm.MethodName) prog_1_method_20_code (6 : Nat) (Option.some Jvm.ClassFile.FieldType.int)) ∈ bs_al := bs_al_in (bs_t4 _ (List.mem_of_getElem? (i := 161) rfl)) rfl
theorem kX11_match : bs_cw mX11_match 3 := ⟨bsw_10, bsw_686, by decide +kernel, by decide +kernel, by decide +kernel⟩
theorem bsw_687 : (Jvm.Cond.methodLink "BalloonStallLaw" (109 : Nat) ({ cls := "BalloonStall", name := "match", desc := "(III)I" } : Jvm.MethodName)) ∈ bs_al := bs_al_in (bs_t4 _ (List.mem_of_getElem? (i := 158) rfl)) rfl
theorem bsw_688 : (Jvm.Cond.instanceMethod ({ cls := "BalloonStall", name := "match", desc := "(III)I" } : Jvm.MethodName)) ∈ bs_al := bs_al_in (bs_t4 _ (List.mem_of_getElem? (i := 159) rfl)) rfl
theorem bsw_689 : (Jvm.Cond.selects "BalloonStall" ({ cls := "BalloonStall", name := "match", desc := "(III)I" } : Jvm.MethodName) ({ cls := "BalloonStall", name := "match", desc := "(III)I" } : Jvm.MethodName)) ∈ bs_al := bs_al_in (bs_t4 _ (List.mem_of_getElem? (i := 160) rfl)) rfl
theorem qL_109 : bs_cv "BalloonStallLaw" 109 mX11_match 3 11 := ⟨kX11_match, bsw_687, bsw_688, bsw_689, by decide, _, rfl, rfl⟩
theorem bsw_690 : (Jvm.Cond.code ({ cls := "BalloonStallModel", name := "match", desc := "(III)I" } : Jvm.MethodName) prog_14_method_77_code (4 : Nat) (Option.some Jvm.ClassFile.FieldType.int)) ∈ bs_al := bs_al_in (bs_t7 _ (List.mem_of_getElem? (i := 230) rfl)) rfl
theorem kX12_match : bs_cw mX12_match 3 := ⟨bsw_538, bsw_690, by decide +kernel, by decide +kernel, by decide +kernel⟩
theorem bsw_691 : (Jvm.Cond.methodLink "BalloonStallLaw" (112 : Nat) ({ cls := "BalloonStallModel", name := "match", desc := "(III)I" } : Jvm.MethodName)) ∈ bs_al := bs_al_in (bs_t7 _ (List.mem_of_getElem? (i := 227) rfl)) rfl
theorem bsw_692 : (Jvm.Cond.instanceMethod ({ cls := "BalloonStallModel", name := "match", desc := "(III)I" } : Jvm.MethodName)) ∈ bs_al := bs_al_in (bs_t7 _ (List.mem_of_getElem? (i := 228) rfl)) rfl
theorem bsw_693 : (Jvm.Cond.selects "BalloonStallModel" ({ cls := "BalloonStallModel", name := "match", desc := "(III)I" } : Jvm.MethodName) ({ cls := "BalloonStallModel", name := "match", desc := "(III)I" } : Jvm.MethodName)) ∈ bs_al := bs_al_in (bs_t7 _ (List.mem_of_getElem? (i := 229) rfl)) rfl
theorem qL_112 : bs_cv "BalloonStallLaw" 112 mX12_match 3 12 := ⟨kX12_match, bsw_691, bsw_692, bsw_693, by decide, _, rfl, rfl⟩
theorem bsw_694 : (Jvm.Cond.code ({ cls := "BalloonStall", name := "far", desc := "(III)I" } : Jvm.MethodName) prog_1_method_21_code (5 : Nat) (Option.some Jvm.ClassFile.FieldType.int)) ∈ bs_al := bs_al_in (bs_t4 _ (List.mem_of_getElem? (i := 165) rfl)) rfl
theorem kX11_far : bs_cw mX11_far 3 := ⟨bsw_10, bsw_694, by decide +kernel, by decide +kernel, by decide +kernel⟩
theorem bsw_695 : (Jvm.Cond.methodLink "BalloonStallLaw" (113 : Nat) ({ cls := "BalloonStall", name := "far", desc := "(III)I" } : Jvm.MethodName)) ∈ bs_al := bs_al_in (bs_t4 _ (List.mem_of_getElem? (i := 162) rfl)) rfl
theorem bsw_696 : (Jvm.Cond.instanceMethod ({ cls := "BalloonStall", name := "far", desc := "(III)I" } : Jvm.MethodName)) ∈ bs_al := bs_al_in (bs_t4 _ (List.mem_of_getElem? (i := 163) rfl)) rfl
theorem bsw_697 : (Jvm.Cond.selects "BalloonStall" ({ cls := "BalloonStall", name := "far", desc := "(III)I" } : Jvm.MethodName) ({ cls := "BalloonStall", name := "far", desc := "(III)I" } : Jvm.MethodName)) ∈ bs_al := bs_al_in (bs_t4 _ (List.mem_of_getElem? (i := 164) rfl)) rfl
theorem qL_113 : bs_cv "BalloonStallLaw" 113 mX11_far 3 11 := ⟨kX11_far, bsw_695, bsw_696, bsw_697, by decide, _, rfl, rfl⟩
theorem bsw_698 : (Jvm.Cond.code ({ cls := "BalloonStallModel", name := "far", desc := "(III)I" } : Jvm.MethodName) prog_14_method_79_code (5 : Nat) (Option.some Jvm.ClassFile.FieldType.int)) ∈ bs_al := bs_al_in (bs_t7 _ (List.mem_of_getElem? (i := 234) rfl)) rfl
theorem kX12_far : bs_cw mX12_far 3 := ⟨bsw_538, bsw_698, by decide +kernel, by decide +kernel, by decide +kernel⟩
theorem bsw_699 : (Jvm.Cond.methodLink "BalloonStallLaw" (116 : Nat) ({ cls := "BalloonStallModel", name := "far", desc := "(III)I" } : Jvm.MethodName)) ∈ bs_al := bs_al_in (bs_t7 _ (List.mem_of_getElem? (i := 231) rfl)) rfl
theorem bsw_700 : (Jvm.Cond.instanceMethod ({ cls := "BalloonStallModel", name := "far", desc := "(III)I" } : Jvm.MethodName)) ∈ bs_al := bs_al_in (bs_t7 _ (List.mem_of_getElem? (i := 232) rfl)) rfl
theorem bsw_701 : (Jvm.Cond.selects "BalloonStallModel" ({ cls := "BalloonStallModel", name := "far", desc := "(III)I" } : Jvm.MethodName) ({ cls := "BalloonStallModel", name := "far", desc := "(III)I" } : Jvm.MethodName)) ∈ bs_al := bs_al_in (bs_t7 _ (List.mem_of_getElem? (i := 233) rfl)) rfl
theorem qL_116 : bs_cv "BalloonStallLaw" 116 mX12_far 3 12 := ⟨kX12_far, bsw_699, bsw_700, bsw_701, by decide, _, rfl, rfl⟩
theorem bsw_702 : (Jvm.Cond.code ({ cls := "BalloonStall", name := "span", desc := "(I)I" } : Jvm.MethodName) prog_1_method_22_code (3 : Nat) (Option.some Jvm.ClassFile.FieldType.int)) ∈ bs_al := bs_al_in (bs_t4 _ (List.mem_of_getElem? (i := 177) rfl)) rfl
theorem kX11_span : bs_cw mX11_span 1 := ⟨bsw_10, bsw_702, by decide +kernel, by decide +kernel, by decide +kernel⟩
theorem bsw_703 : (Jvm.Cond.methodLink "BalloonStallLaw" (117 : Nat) ({ cls := "BalloonStall", name := "span", desc := "(I)I" } : Jvm.MethodName)) ∈ bs_al := bs_al_in (bs_t4 _ (List.mem_of_getElem? (i := 174) rfl)) rfl
theorem bsw_704 : (Jvm.Cond.instanceMethod ({ cls := "BalloonStall", name := "span", desc := "(I)I" } : Jvm.MethodName)) ∈ bs_al := bs_al_in (bs_t4 _ (List.mem_of_getElem? (i := 175) rfl)) rfl
theorem bsw_705 : (Jvm.Cond.selects "BalloonStall" ({ cls := "BalloonStall", name := "span", desc := "(I)I" } : Jvm.MethodName) ({ cls := "BalloonStall", name := "span", desc := "(I)I" } : Jvm.MethodName)) ∈ bs_al := bs_al_in (bs_t4 _ (List.mem_of_getElem? (i := 176) rfl)) rfl
theorem qL_117 : bs_cv "BalloonStallLaw" 117 mX11_span 1 11 := ⟨kX11_span, bsw_703, bsw_704, bsw_705, by decide, _, rfl, rfl⟩
theorem bsw_706 : (Jvm.Cond.code ({ cls := "BalloonStallModel", name := "span", desc := "(I)I" } : Jvm.MethodName) prog_14_method_80_code (5 : Nat) (Option.some Jvm.ClassFile.FieldType.int)) ∈ bs_al := bs_al_in (bs_t8 _ (List.mem_of_getElem? (i := 3) rfl)) rfl
theorem kX12_span : bs_cw mX12_span 1 := ⟨bsw_538, bsw_706, by decide +kernel, by decide +kernel, by decide +kernel⟩
theorem bsw_707 : (Jvm.Cond.methodLink "BalloonStallLaw" (120 : Nat) ({ cls := "BalloonStallModel", name := "span", desc := "(I)I" } : Jvm.MethodName)) ∈ bs_al := bs_al_in (bs_t8 _ (List.mem_of_getElem? (i := 0) rfl)) rfl
theorem bsw_708 : (Jvm.Cond.instanceMethod ({ cls := "BalloonStallModel", name := "span", desc := "(I)I" } : Jvm.MethodName)) ∈ bs_al := bs_al_in (bs_t8 _ (List.mem_of_getElem? (i := 1) rfl)) rfl
theorem bsw_709 : (Jvm.Cond.selects "BalloonStallModel" ({ cls := "BalloonStallModel", name := "span", desc := "(I)I" } : Jvm.MethodName) ({ cls := "BalloonStallModel", name := "span", desc := "(I)I" } : Jvm.MethodName)) ∈ bs_al := bs_al_in (bs_t8 _ (List.mem_of_getElem? (i := 2) rfl)) rfl
theorem qL_120 : bs_cv "BalloonStallLaw" 120 mX12_span 1 12 := ⟨kX12_span, bsw_707, bsw_708, bsw_709, by decide, _, rfl, rfl⟩
theorem bsw_710 : (Jvm.Cond.code ({ cls := "BalloonStall", name := "strokes", desc := "(I)I" } : Jvm.MethodName) prog_1_method_23_code (3 : Nat) (Option.some Jvm.ClassFile.FieldType.int)) ∈ bs_al := bs_al_in (bs_t4 _ (List.mem_of_getElem? (i := 187) rfl)) rfl
theorem kX11_strokes : bs_cw mX11_strokes 1 := ⟨bsw_10, bsw_710, by decide +kernel, by decide +kernel, by decide +kernel⟩
theorem bsw_711 : (Jvm.Cond.methodLink "BalloonStallLaw" (121 : Nat) ({ cls := "BalloonStall", name := "strokes", desc := "(I)I" } : Jvm.MethodName)) ∈ bs_al := bs_al_in (bs_t4 _ (List.mem_of_getElem? (i := 184) rfl)) rfl
theorem bsw_712 : (Jvm.Cond.instanceMethod ({ cls := "BalloonStall", name := "strokes", desc := "(I)I" } : Jvm.MethodName)) ∈ bs_al := bs_al_in (bs_t4 _ (List.mem_of_getElem? (i := 185) rfl)) rfl
theorem bsw_713 : (Jvm.Cond.selects "BalloonStall" ({ cls := "BalloonStall", name := "strokes", desc := "(I)I" } : Jvm.MethodName) ({ cls := "BalloonStall", name := "strokes", desc := "(I)I" } : Jvm.MethodName)) ∈ bs_al := bs_al_in (bs_t4 _ (List.mem_of_getElem? (i := 186) rfl)) rfl
theorem qL_121 : bs_cv "BalloonStallLaw" 121 mX11_strokes 1 11 := ⟨kX11_strokes, bsw_711, bsw_712, bsw_713, by decide, _, rfl, rfl⟩
theorem bsw_714 : (Jvm.Cond.code ({ cls := "BalloonStallModel", name := "strokes", desc := "(I)I" } : Jvm.MethodName) prog_14_method_82_code (5 : Nat) (Option.some Jvm.ClassFile.FieldType.int)) ∈ bs_al := bs_al_in (bs_t8 _ (List.mem_of_getElem? (i := 7) rfl)) rfl
theorem kX12_strokes : bs_cw mX12_strokes 1 := ⟨bsw_538, bsw_714, by decide +kernel, by decide +kernel, by decide +kernel⟩
theorem bsw_715 : (Jvm.Cond.methodLink "BalloonStallLaw" (124 : Nat) ({ cls := "BalloonStallModel", name := "strokes", desc := "(I)I" } : Jvm.MethodName)) ∈ bs_al := bs_al_in (bs_t8 _ (List.mem_of_getElem? (i := 4) rfl)) rfl
theorem bsw_716 : (Jvm.Cond.instanceMethod ({ cls := "BalloonStallModel", name := "strokes", desc := "(I)I" } : Jvm.MethodName)) ∈ bs_al := bs_al_in (bs_t8 _ (List.mem_of_getElem? (i := 5) rfl)) rfl
theorem bsw_717 : (Jvm.Cond.selects "BalloonStallModel" ({ cls := "BalloonStallModel", name := "strokes", desc := "(I)I" } : Jvm.MethodName) ({ cls := "BalloonStallModel", name := "strokes", desc := "(I)I" } : Jvm.MethodName)) ∈ bs_al := bs_al_in (bs_t8 _ (List.mem_of_getElem? (i := 6) rfl)) rfl
theorem qL_124 : bs_cv "BalloonStallLaw" 124 mX12_strokes 1 12 := ⟨kX12_strokes, bsw_715, bsw_716, bsw_717, by decide, _, rfl, rfl⟩
theorem bsw_718 : (Jvm.Cond.methodLink "BalloonStallLaw" (125 : Nat) ({ cls := "BalloonStall", name := "made", desc := "(II)I" } : Jvm.MethodName)) ∈ bs_al := bs_al_in (bs_t4 _ (List.mem_of_getElem? (i := 194) rfl)) rfl
theorem qL_125 : bs_cv "BalloonStallLaw" 125 mX11_made 2 11 := ⟨kX11_made, bsw_718, bsw_146, bsw_147, by decide, _, rfl, rfl⟩
theorem bsw_719 : (Jvm.Cond.code ({ cls := "BalloonStallModel", name := "made", desc := "(II)I" } : Jvm.MethodName) prog_14_method_86_code (3 : Nat) (Option.some Jvm.ClassFile.FieldType.int)) ∈ bs_al := bs_al_in (bs_t8 _ (List.mem_of_getElem? (i := 15) rfl)) rfl
theorem kX12_made : bs_cw mX12_made 2 := ⟨bsw_538, bsw_719, by decide +kernel, by decide +kernel, by decide +kernel⟩
theorem bsw_720 : (Jvm.Cond.methodLink "BalloonStallLaw" (128 : Nat) ({ cls := "BalloonStallModel", name := "made", desc := "(II)I" } : Jvm.MethodName)) ∈ bs_al := bs_al_in (bs_t8 _ (List.mem_of_getElem? (i := 12) rfl)) rfl
theorem bsw_721 : (Jvm.Cond.instanceMethod ({ cls := "BalloonStallModel", name := "made", desc := "(II)I" } : Jvm.MethodName)) ∈ bs_al := bs_al_in (bs_t8 _ (List.mem_of_getElem? (i := 13) rfl)) rfl
theorem bsw_722 : (Jvm.Cond.selects "BalloonStallModel" ({ cls := "BalloonStallModel", name := "made", desc := "(II)I" } : Jvm.MethodName) ({ cls := "BalloonStallModel", name := "made", desc := "(II)I" } : Jvm.MethodName)) ∈ bs_al := bs_al_in (bs_t8 _ (List.mem_of_getElem? (i := 14) rfl)) rfl
theorem qL_128 : bs_cv "BalloonStallLaw" 128 mX12_made 2 12 := ⟨kX12_made, bsw_720, bsw_721, bsw_722, by decide, _, rfl, rfl⟩
theorem bsw_723 : (Jvm.Cond.code ({ cls := "BalloonStall", name := "set", desc := "(III)I" } : Jvm.MethodName) prog_1_method_25_code (5 : Nat) (Option.some Jvm.ClassFile.FieldType.int)) ∈ bs_al := bs_al_in (bs_t5 _ (List.mem_of_getElem? (i := 4) rfl)) rfl
theorem kX11_set : bs_cw mX11_set 3 := ⟨bsw_10, bsw_723, by decide +kernel, by decide +kernel, by decide +kernel⟩
theorem bsw_724 : (Jvm.Cond.methodLink "BalloonStallLaw" (129 : Nat) ({ cls := "BalloonStall", name := "set", desc := "(III)I" } : Jvm.MethodName)) ∈ bs_al := bs_al_in (bs_t5 _ (List.mem_of_getElem? (i := 1) rfl)) rfl
theorem bsw_725 : (Jvm.Cond.instanceMethod ({ cls := "BalloonStall", name := "set", desc := "(III)I" } : Jvm.MethodName)) ∈ bs_al := bs_al_in (bs_t5 _ (List.mem_of_getElem? (i := 2) rfl)) rfl
theorem bsw_726 : (Jvm.Cond.selects "BalloonStall" ({ cls := "BalloonStall", name := "set", desc := "(III)I" } : Jvm.MethodName) ({ cls := "BalloonStall", name := "set", desc := "(III)I" } : Jvm.MethodName)) ∈ bs_al := bs_al_in (bs_t5 _ (List.mem_of_getElem? (i := 3) rfl)) rfl
theorem qL_129 : bs_cv "BalloonStallLaw" 129 mX11_set 3 11 := ⟨kX11_set, bsw_724, bsw_725, bsw_726, by decide, _, rfl, rfl⟩
theorem bsw_727 : (Jvm.Cond.code ({ cls := "BalloonStallModel", name := "set", desc := "(III)I" } : Jvm.MethodName) prog_14_method_87_code (8 : Nat) (Option.some Jvm.ClassFile.FieldType.int)) ∈ bs_al := bs_al_in (bs_t8 _ (List.mem_of_getElem? (i := 35) rfl)) rfl
theorem kX12_set : bs_cw mX12_set 3 := ⟨bsw_538, bsw_727, by decide +kernel, by decide +kernel, by decide +kernel⟩
theorem bsw_728 : (Jvm.Cond.methodLink "BalloonStallLaw" (132 : Nat) ({ cls := "BalloonStallModel", name := "set", desc := "(III)I" } : Jvm.MethodName)) ∈ bs_al := bs_al_in (bs_t8 _ (List.mem_of_getElem? (i := 32) rfl)) rfl
theorem bsw_729 : (Jvm.Cond.instanceMethod ({ cls := "BalloonStallModel", name := "set", desc := "(III)I" } : Jvm.MethodName)) ∈ bs_al := bs_al_in (bs_t8 _ (List.mem_of_getElem? (i := 33) rfl)) rfl
theorem bsw_730 : (Jvm.Cond.selects "BalloonStallModel" ({ cls := "BalloonStallModel", name := "set", desc := "(III)I" } : Jvm.MethodName) ({ cls := "BalloonStallModel", name := "set", desc := "(III)I" } : Jvm.MethodName)) ∈ bs_al := bs_al_in (bs_t8 _ (List.mem_of_getElem? (i := 34) rfl)) rfl
theorem qL_132 : bs_cv "BalloonStallLaw" 132 mX12_set 3 12 := ⟨kX12_set, bsw_728, bsw_729, bsw_730, by decide, _, rfl, rfl⟩
theorem bsw_731 : (Jvm.Cond.code ({ cls := "BalloonStall", name := "twice", desc := "(I)I" } : Jvm.MethodName) prog_1_method_26_code (3 : Nat) (Option.some Jvm.ClassFile.FieldType.int)) ∈ bs_al := bs_al_in (bs_t5 _ (List.mem_of_getElem? (i := 13) rfl)) rfl
theorem kX11_twice : bs_cw mX11_twice 1 := ⟨bsw_10, bsw_731, by decide +kernel, by decide +kernel, by decide +kernel⟩
theorem bsw_732 : (Jvm.Cond.methodLink "BalloonStallLaw" (133 : Nat) ({ cls := "BalloonStall", name := "twice", desc := "(I)I" } : Jvm.MethodName)) ∈ bs_al := bs_al_in (bs_t5 _ (List.mem_of_getElem? (i := 10) rfl)) rfl
theorem bsw_733 : (Jvm.Cond.instanceMethod ({ cls := "BalloonStall", name := "twice", desc := "(I)I" } : Jvm.MethodName)) ∈ bs_al := bs_al_in (bs_t5 _ (List.mem_of_getElem? (i := 11) rfl)) rfl
theorem bsw_734 : (Jvm.Cond.selects "BalloonStall" ({ cls := "BalloonStall", name := "twice", desc := "(I)I" } : Jvm.MethodName) ({ cls := "BalloonStall", name := "twice", desc := "(I)I" } : Jvm.MethodName)) ∈ bs_al := bs_al_in (bs_t5 _ (List.mem_of_getElem? (i := 12) rfl)) rfl
theorem qL_133 : bs_cv "BalloonStallLaw" 133 mX11_twice 1 11 := ⟨kX11_twice, bsw_732, bsw_733, bsw_734, by decide, _, rfl, rfl⟩
theorem bsw_735 : (Jvm.Cond.code ({ cls := "BalloonStallModel", name := "twice", desc := "(I)I" } : Jvm.MethodName) prog_14_method_89_code (4 : Nat) (Option.some Jvm.ClassFile.FieldType.int)) ∈ bs_al := bs_al_in (bs_t8 _ (List.mem_of_getElem? (i := 39) rfl)) rfl
theorem kX12_twice : bs_cw mX12_twice 1 := ⟨bsw_538, bsw_735, by decide +kernel, by decide +kernel, by decide +kernel⟩
theorem bsw_736 : (Jvm.Cond.methodLink "BalloonStallLaw" (136 : Nat) ({ cls := "BalloonStallModel", name := "twice", desc := "(I)I" } : Jvm.MethodName)) ∈ bs_al := bs_al_in (bs_t8 _ (List.mem_of_getElem? (i := 36) rfl)) rfl
theorem bsw_737 : (Jvm.Cond.instanceMethod ({ cls := "BalloonStallModel", name := "twice", desc := "(I)I" } : Jvm.MethodName)) ∈ bs_al := bs_al_in (bs_t8 _ (List.mem_of_getElem? (i := 37) rfl)) rfl
theorem bsw_738 : (Jvm.Cond.selects "BalloonStallModel" ({ cls := "BalloonStallModel", name := "twice", desc := "(I)I" } : Jvm.MethodName) ({ cls := "BalloonStallModel", name := "twice", desc := "(I)I" } : Jvm.MethodName)) ∈ bs_al := bs_al_in (bs_t8 _ (List.mem_of_getElem? (i := 38) rfl)) rfl
theorem qL_136 : bs_cv "BalloonStallLaw" 136 mX12_twice 1 12 := ⟨kX12_twice, bsw_736, bsw_737, bsw_738, by decide, _, rfl, rfl⟩
theorem bsw_739 : (Jvm.Cond.code ({ cls := "BalloonStall", name := "stock", desc := "(II)Z" } : Jvm.MethodName) prog_1_method_27_code (3 : Nat) (Option.some Jvm.ClassFile.FieldType.boolean)) ∈ bs_al := bs_al_in (bs_t5 _ (List.mem_of_getElem? (i := 24) rfl)) rfl
theorem kX11_stock : bs_cw mX11_stock 2 := ⟨bsw_10, bsw_739, by decide +kernel, by decide +kernel, by decide +kernel⟩
theorem bsw_740 : (Jvm.Cond.methodLink "BalloonStallLaw" (137 : Nat) ({ cls := "BalloonStall", name := "stock", desc := "(II)Z" } : Jvm.MethodName)) ∈ bs_al := bs_al_in (bs_t5 _ (List.mem_of_getElem? (i := 21) rfl)) rfl
theorem bsw_741 : (Jvm.Cond.instanceMethod ({ cls := "BalloonStall", name := "stock", desc := "(II)Z" } : Jvm.MethodName)) ∈ bs_al := bs_al_in (bs_t5 _ (List.mem_of_getElem? (i := 22) rfl)) rfl
theorem bsw_742 : (Jvm.Cond.selects "BalloonStall" ({ cls := "BalloonStall", name := "stock", desc := "(II)Z" } : Jvm.MethodName) ({ cls := "BalloonStall", name := "stock", desc := "(II)Z" } : Jvm.MethodName)) ∈ bs_al := bs_al_in (bs_t5 _ (List.mem_of_getElem? (i := 23) rfl)) rfl
theorem qL_137 : bs_cv "BalloonStallLaw" 137 mX11_stock 2 11 := ⟨kX11_stock, bsw_740, bsw_741, bsw_742, by decide, _, rfl, rfl⟩
theorem bsw_743 : (Jvm.Cond.code ({ cls := "BalloonStallModel", name := "stock", desc := "(II)Z" } : Jvm.MethodName) prog_14_method_90_code (3 : Nat) (Option.some Jvm.ClassFile.FieldType.boolean)) ∈ bs_al := bs_al_in (bs_t8 _ (List.mem_of_getElem? (i := 48) rfl)) rfl
theorem kX12_stock : bs_cw mX12_stock 2 := ⟨bsw_538, bsw_743, by decide +kernel, by decide +kernel, by decide +kernel⟩
theorem bsw_744 : (Jvm.Cond.methodLink "BalloonStallLaw" (141 : Nat) ({ cls := "BalloonStallModel", name := "stock", desc := "(II)Z" } : Jvm.MethodName)) ∈ bs_al := bs_al_in (bs_t8 _ (List.mem_of_getElem? (i := 45) rfl)) rfl
theorem bsw_745 : (Jvm.Cond.instanceMethod ({ cls := "BalloonStallModel", name := "stock", desc := "(II)Z" } : Jvm.MethodName)) ∈ bs_al := bs_al_in (bs_t8 _ (List.mem_of_getElem? (i := 46) rfl)) rfl
theorem bsw_746 : (Jvm.Cond.selects "BalloonStallModel" ({ cls := "BalloonStallModel", name := "stock", desc := "(II)Z" } : Jvm.MethodName) ({ cls := "BalloonStallModel", name := "stock", desc := "(II)Z" } : Jvm.MethodName)) ∈ bs_al := bs_al_in (bs_t8 _ (List.mem_of_getElem? (i := 47) rfl)) rfl
theorem qL_141 : bs_cv "BalloonStallLaw" 141 mX12_stock 2 12 := ⟨kX12_stock, bsw_744, bsw_745, bsw_746, by decide, _, rfl, rfl⟩
theorem bsw_747 : (Jvm.Cond.code ({ cls := "BalloonStall", name := "pace", desc := "(II)Z" } : Jvm.MethodName) prog_1_method_28_code (3 : Nat) (Option.some Jvm.ClassFile.FieldType.boolean)) ∈ bs_al := bs_al_in (bs_t5 _ (List.mem_of_getElem? (i := 28) rfl)) rfl
theorem kX11_pace : bs_cw mX11_pace 2 := ⟨bsw_10, bsw_747, by decide +kernel, by decide +kernel, by decide +kernel⟩
theorem bsw_748 : (Jvm.Cond.methodLink "BalloonStallLaw" (142 : Nat) ({ cls := "BalloonStall", name := "pace", desc := "(II)Z" } : Jvm.MethodName)) ∈ bs_al := bs_al_in (bs_t5 _ (List.mem_of_getElem? (i := 25) rfl)) rfl
theorem bsw_749 : (Jvm.Cond.instanceMethod ({ cls := "BalloonStall", name := "pace", desc := "(II)Z" } : Jvm.MethodName)) ∈ bs_al := bs_al_in (bs_t5 _ (List.mem_of_getElem? (i := 26) rfl)) rfl
theorem bsw_750 : (Jvm.Cond.selects "BalloonStall" ({ cls := "BalloonStall", name := "pace", desc := "(II)Z" } : Jvm.MethodName) ({ cls := "BalloonStall", name := "pace", desc := "(II)Z" } : Jvm.MethodName)) ∈ bs_al := bs_al_in (bs_t5 _ (List.mem_of_getElem? (i := 27) rfl)) rfl
theorem qL_142 : bs_cv "BalloonStallLaw" 142 mX11_pace 2 11 := ⟨kX11_pace, bsw_748, bsw_749, bsw_750, by decide, _, rfl, rfl⟩
theorem bsw_751 : (Jvm.Cond.code ({ cls := "BalloonStallModel", name := "pace", desc := "(II)Z" } : Jvm.MethodName) prog_14_method_91_code (3 : Nat) (Option.some Jvm.ClassFile.FieldType.boolean)) ∈ bs_al := bs_al_in (bs_t8 _ (List.mem_of_getElem? (i := 52) rfl)) rfl
theorem kX12_pace : bs_cw mX12_pace 2 := ⟨bsw_538, bsw_751, by decide +kernel, by decide +kernel, by decide +kernel⟩
theorem bsw_752 : (Jvm.Cond.methodLink "BalloonStallLaw" (145 : Nat) ({ cls := "BalloonStallModel", name := "pace", desc := "(II)Z" } : Jvm.MethodName)) ∈ bs_al := bs_al_in (bs_t8 _ (List.mem_of_getElem? (i := 49) rfl)) rfl
theorem bsw_753 : (Jvm.Cond.instanceMethod ({ cls := "BalloonStallModel", name := "pace", desc := "(II)Z" } : Jvm.MethodName)) ∈ bs_al := bs_al_in (bs_t8 _ (List.mem_of_getElem? (i := 50) rfl)) rfl
theorem bsw_754 : (Jvm.Cond.selects "BalloonStallModel" ({ cls := "BalloonStallModel", name := "pace", desc := "(II)Z" } : Jvm.MethodName) ({ cls := "BalloonStallModel", name := "pace", desc := "(II)Z" } : Jvm.MethodName)) ∈ bs_al := bs_al_in (bs_t8 _ (List.mem_of_getElem? (i := 51) rfl)) rfl
theorem qL_145 : bs_cv "BalloonStallLaw" 145 mX12_pace 2 12 := ⟨kX12_pace, bsw_752, bsw_753, bsw_754, by decide, _, rfl, rfl⟩
theorem bsw_755 : (Jvm.Cond.code ({ cls := "BalloonStall", name := "comes", desc := "(III)I" } : Jvm.MethodName) prog_1_method_29_code (4 : Nat) (Option.some Jvm.ClassFile.FieldType.int)) ∈ bs_al := bs_al_in (bs_t5 _ (List.mem_of_getElem? (i := 32) rfl)) rfl
theorem kX11_comes : bs_cw mX11_comes 3 := ⟨bsw_10, bsw_755, by decide +kernel, by decide +kernel, by decide +kernel⟩
theorem bsw_756 : (Jvm.Cond.methodLink "BalloonStallLaw" (146 : Nat) ({ cls := "BalloonStall", name := "comes", desc := "(III)I" } : Jvm.MethodName)) ∈ bs_al := bs_al_in (bs_t5 _ (List.mem_of_getElem? (i := 29) rfl)) rfl
theorem bsw_757 : (Jvm.Cond.instanceMethod ({ cls := "BalloonStall", name := "comes", desc := "(III)I" } : Jvm.MethodName)) ∈ bs_al := bs_al_in (bs_t5 _ (List.mem_of_getElem? (i := 30) rfl)) rfl
theorem bsw_758 : (Jvm.Cond.selects "BalloonStall" ({ cls := "BalloonStall", name := "comes", desc := "(III)I" } : Jvm.MethodName) ({ cls := "BalloonStall", name := "comes", desc := "(III)I" } : Jvm.MethodName)) ∈ bs_al := bs_al_in (bs_t5 _ (List.mem_of_getElem? (i := 31) rfl)) rfl
theorem qL_146 : bs_cv "BalloonStallLaw" 146 mX11_comes 3 11 := ⟨kX11_comes, bsw_756, bsw_757, bsw_758, by decide, _, rfl, rfl⟩
theorem bsw_759 : (Jvm.Cond.code ({ cls := "BalloonStallModel", name := "comes", desc := "(III)I" } : Jvm.MethodName) prog_14_method_92_code (4 : Nat) (Option.some Jvm.ClassFile.FieldType.int)) ∈ bs_al := bs_al_in (bs_t8 _ (List.mem_of_getElem? (i := 56) rfl)) rfl
theorem kX12_comes : bs_cw mX12_comes 3 := ⟨bsw_538, bsw_759, by decide +kernel, by decide +kernel, by decide +kernel⟩
theorem bsw_760 : (Jvm.Cond.methodLink "BalloonStallLaw" (149 : Nat) ({ cls := "BalloonStallModel", name := "comes", desc := "(III)I" } : Jvm.MethodName)) ∈ bs_al := bs_al_in (bs_t8 _ (List.mem_of_getElem? (i := 53) rfl)) rfl
theorem bsw_761 : (Jvm.Cond.instanceMethod ({ cls := "BalloonStallModel", name := "comes", desc := "(III)I" } : Jvm.MethodName)) ∈ bs_al := bs_al_in (bs_t8 _ (List.mem_of_getElem? (i := 54) rfl)) rfl
theorem bsw_762 : (Jvm.Cond.selects "BalloonStallModel" ({ cls := "BalloonStallModel", name := "comes", desc := "(III)I" } : Jvm.MethodName) ({ cls := "BalloonStallModel", name := "comes", desc := "(III)I" } : Jvm.MethodName)) ∈ bs_al := bs_al_in (bs_t8 _ (List.mem_of_getElem? (i := 55) rfl)) rfl
theorem qL_149 : bs_cv "BalloonStallLaw" 149 mX12_comes 3 12 := ⟨kX12_comes, bsw_760, bsw_761, bsw_762, by decide, _, rfl, rfl⟩
theorem bsw_763 : (Jvm.Cond.code ({ cls := "BalloonStall", name := "close", desc := "()I" } : Jvm.MethodName) prog_1_method_30_code (1 : Nat) (Option.some Jvm.ClassFile.FieldType.int)) ∈ bs_al := bs_al_in (bs_t5 _ (List.mem_of_getElem? (i := 40) rfl)) rfl
theorem kX11_close : bs_cw mX11_close 0 := ⟨bsw_10, bsw_763, by decide +kernel, by decide +kernel, by decide +kernel⟩
theorem bsw_764 : (Jvm.Cond.methodLink "BalloonStallLaw" (150 : Nat) ({ cls := "BalloonStall", name := "close", desc := "()I" } : Jvm.MethodName)) ∈ bs_al := bs_al_in (bs_t5 _ (List.mem_of_getElem? (i := 37) rfl)) rfl
theorem bsw_765 : (Jvm.Cond.instanceMethod ({ cls := "BalloonStall", name := "close", desc := "()I" } : Jvm.MethodName)) ∈ bs_al := bs_al_in (bs_t5 _ (List.mem_of_getElem? (i := 38) rfl)) rfl
theorem bsw_766 : (Jvm.Cond.selects "BalloonStall" ({ cls := "BalloonStall", name := "close", desc := "()I" } : Jvm.MethodName) ({ cls := "BalloonStall", name := "close", desc := "()I" } : Jvm.MethodName)) ∈ bs_al := bs_al_in (bs_t5 _ (List.mem_of_getElem? (i := 39) rfl)) rfl
theorem qL_150 : bs_cv "BalloonStallLaw" 150 mX11_close 0 11 := ⟨kX11_close, bsw_764, bsw_765, bsw_766, by decide, _, rfl, rfl⟩
theorem bsw_767 : (Jvm.Cond.code ({ cls := "BalloonStallModel", name := "close", desc := "()I" } : Jvm.MethodName) prog_14_method_93_code (2 : Nat) (Option.some Jvm.ClassFile.FieldType.int)) ∈ bs_al := bs_al_in (bs_t8 _ (List.mem_of_getElem? (i := 60) rfl)) rfl
theorem kX12_close : bs_cw mX12_close 0 := ⟨bsw_538, bsw_767, by decide +kernel, by decide +kernel, by decide +kernel⟩
theorem bsw_768 : (Jvm.Cond.methodLink "BalloonStallLaw" (153 : Nat) ({ cls := "BalloonStallModel", name := "close", desc := "()I" } : Jvm.MethodName)) ∈ bs_al := bs_al_in (bs_t8 _ (List.mem_of_getElem? (i := 57) rfl)) rfl
theorem bsw_769 : (Jvm.Cond.instanceMethod ({ cls := "BalloonStallModel", name := "close", desc := "()I" } : Jvm.MethodName)) ∈ bs_al := bs_al_in (bs_t8 _ (List.mem_of_getElem? (i := 58) rfl)) rfl
theorem bsw_770 : (Jvm.Cond.selects "BalloonStallModel" ({ cls := "BalloonStallModel", name := "close", desc := "()I" } : Jvm.MethodName) ({ cls := "BalloonStallModel", name := "close", desc := "()I" } : Jvm.MethodName)) ∈ bs_al := bs_al_in (bs_t8 _ (List.mem_of_getElem? (i := 59) rfl)) rfl
theorem qL_153 : bs_cv "BalloonStallLaw" 153 mX12_close 0 12 := ⟨kX12_close, bsw_768, bsw_769, bsw_770, by decide, _, rfl, rfl⟩
theorem bsw_771 : (Jvm.Cond.code ({ cls := "BalloonStall", name := "run", desc := "(J)I" } : Jvm.MethodName) prog_1_method_31_code (3 : Nat) (Option.some Jvm.ClassFile.FieldType.int)) ∈ bs_al := bs_al_in (bs_t5 _ (List.mem_of_getElem? (i := 48) rfl)) rfl
theorem kX11_run : bs_cw mX11_run 1 := ⟨bsw_10, bsw_771, by decide +kernel, by decide +kernel, by decide +kernel⟩
theorem bsw_772 : (Jvm.Cond.methodLink "BalloonStallLaw" (156 : Nat) ({ cls := "BalloonStall", name := "run", desc := "(J)I" } : Jvm.MethodName)) ∈ bs_al := bs_al_in (bs_t5 _ (List.mem_of_getElem? (i := 45) rfl)) rfl
theorem bsw_773 : (Jvm.Cond.instanceMethod ({ cls := "BalloonStall", name := "run", desc := "(J)I" } : Jvm.MethodName)) ∈ bs_al := bs_al_in (bs_t5 _ (List.mem_of_getElem? (i := 46) rfl)) rfl
theorem bsw_774 : (Jvm.Cond.selects "BalloonStall" ({ cls := "BalloonStall", name := "run", desc := "(J)I" } : Jvm.MethodName) ({ cls := "BalloonStall", name := "run", desc := "(J)I" } : Jvm.MethodName)) ∈ bs_al := bs_al_in (bs_t5 _ (List.mem_of_getElem? (i := 47) rfl)) rfl
theorem qL_156 : bs_cv "BalloonStallLaw" 156 mX11_run 1 11 := ⟨kX11_run, bsw_772, bsw_773, bsw_774, by decide, _, rfl, rfl⟩
theorem bsw_775 : (Jvm.Cond.code ({ cls := "BalloonStallModel", name := "run", desc := "(J)I" } : Jvm.MethodName) prog_14_method_96_code (15 : Nat) (Option.some Jvm.ClassFile.FieldType.int)) ∈ bs_al := bs_al_in (bs_t8 _ (List.mem_of_getElem? (i := 64) rfl)) rfl
theorem kX12_run : bs_cw mX12_run 1 := ⟨bsw_538, bsw_775, by decide +kernel, by decide +kernel, by decide +kernel⟩
theorem bsw_776 : (Jvm.Cond.methodLink "BalloonStallLaw" (160 : Nat) ({ cls := "BalloonStallModel", name := "run", desc := "(J)I" } : Jvm.MethodName)) ∈ bs_al := bs_al_in (bs_t8 _ (List.mem_of_getElem? (i := 61) rfl)) rfl
theorem bsw_777 : (Jvm.Cond.instanceMethod ({ cls := "BalloonStallModel", name := "run", desc := "(J)I" } : Jvm.MethodName)) ∈ bs_al := bs_al_in (bs_t8 _ (List.mem_of_getElem? (i := 62) rfl)) rfl
theorem bsw_778 : (Jvm.Cond.selects "BalloonStallModel" ({ cls := "BalloonStallModel", name := "run", desc := "(J)I" } : Jvm.MethodName) ({ cls := "BalloonStallModel", name := "run", desc := "(J)I" } : Jvm.MethodName)) ∈ bs_al := bs_al_in (bs_t8 _ (List.mem_of_getElem? (i := 63) rfl)) rfl
theorem qL_160 : bs_cv "BalloonStallLaw" 160 mX12_run 1 12 := ⟨kX12_run, bsw_776, bsw_777, bsw_778, by decide, _, rfl, rfl⟩
theorem bsw_779 : (Jvm.Cond.code ({ cls := "BalloonStallModel", name := "guest", desc := "(II)I" } : Jvm.MethodName) prog_14_method_97_code (3 : Nat) (Option.some Jvm.ClassFile.FieldType.int)) ∈ bs_al := bs_al_in (bs_t8 _ (List.mem_of_getElem? (i := 79) rfl)) rfl
theorem kX12_guest : bs_cw mX12_guest 2 := ⟨bsw_538, bsw_779, by decide +kernel, by decide +kernel, by decide +kernel⟩
theorem bsw_780 : (Jvm.Cond.methodLink "BalloonStallLaw" (164 : Nat) ({ cls := "BalloonStallModel", name := "guest", desc := "(II)I" } : Jvm.MethodName)) ∈ bs_al := bs_al_in (bs_t8 _ (List.mem_of_getElem? (i := 76) rfl)) rfl
theorem bsw_781 : (Jvm.Cond.instanceMethod ({ cls := "BalloonStallModel", name := "guest", desc := "(II)I" } : Jvm.MethodName)) ∈ bs_al := bs_al_in (bs_t8 _ (List.mem_of_getElem? (i := 77) rfl)) rfl
theorem bsw_782 : (Jvm.Cond.selects "BalloonStallModel" ({ cls := "BalloonStallModel", name := "guest", desc := "(II)I" } : Jvm.MethodName) ({ cls := "BalloonStallModel", name := "guest", desc := "(II)I" } : Jvm.MethodName)) ∈ bs_al := bs_al_in (bs_t8 _ (List.mem_of_getElem? (i := 78) rfl)) rfl
theorem qL_164 : bs_cv "BalloonStallLaw" 164 mX12_guest 2 12 := ⟨kX12_guest, bsw_780, bsw_781, bsw_782, by decide, _, rfl, rfl⟩
theorem bsw_783 : (Jvm.Cond.code ({ cls := "BalloonStallModel", name := "worth", desc := "(IIIIII)I" } : Jvm.MethodName) prog_14_method_41_code (7 : Nat) (Option.some Jvm.ClassFile.FieldType.int)) ∈ bs_al := bs_al_in (bs_t7 _ (List.mem_of_getElem? (i := 69) rfl)) rfl
theorem kX12_worth : bs_cw mX12_worth 6 := ⟨bsw_538, bsw_783, by decide +kernel, by decide +kernel, by decide +kernel⟩
theorem bsw_784 : (Jvm.Cond.methodLink "BalloonStallLaw" (168 : Nat) ({ cls := "BalloonStallModel", name := "worth", desc := "(IIIIII)I" } : Jvm.MethodName)) ∈ bs_al := bs_al_in (bs_t7 _ (List.mem_of_getElem? (i := 66) rfl)) rfl
theorem bsw_785 : (Jvm.Cond.instanceMethod ({ cls := "BalloonStallModel", name := "worth", desc := "(IIIIII)I" } : Jvm.MethodName)) ∈ bs_al := bs_al_in (bs_t7 _ (List.mem_of_getElem? (i := 67) rfl)) rfl
theorem bsw_786 : (Jvm.Cond.selects "BalloonStallModel" ({ cls := "BalloonStallModel", name := "worth", desc := "(IIIIII)I" } : Jvm.MethodName) ({ cls := "BalloonStallModel", name := "worth", desc := "(IIIIII)I" } : Jvm.MethodName)) ∈ bs_al := bs_al_in (bs_t7 _ (List.mem_of_getElem? (i := 68) rfl)) rfl
theorem qL_168 : bs_cv "BalloonStallLaw" 168 mX12_worth 6 12 := ⟨kX12_worth, bsw_784, bsw_785, bsw_786, by decide, _, rfl, rfl⟩
theorem bsw_787 : (Jvm.Cond.code ({ cls := "BalloonStall", name := "aged", desc := "(IIII)I" } : Jvm.MethodName) prog_1_method_34_code (7 : Nat) (Option.some Jvm.ClassFile.FieldType.int)) ∈ bs_al := bs_al_in (bs_t5 _ (List.mem_of_getElem? (i := 78) rfl)) rfl
theorem kX11_aged : bs_cw mX11_aged 4 := ⟨bsw_10, bsw_787, by decide +kernel, by decide +kernel, by decide +kernel⟩
theorem bsw_788 : (Jvm.Cond.methodLink "BalloonStallLaw" (169 : Nat) ({ cls := "BalloonStall", name := "aged", desc := "(IIII)I" } : Jvm.MethodName)) ∈ bs_al := bs_al_in (bs_t5 _ (List.mem_of_getElem? (i := 75) rfl)) rfl
theorem bsw_789 : (Jvm.Cond.instanceMethod ({ cls := "BalloonStall", name := "aged", desc := "(IIII)I" } : Jvm.MethodName)) ∈ bs_al := bs_al_in (bs_t5 _ (List.mem_of_getElem? (i := 76) rfl)) rfl
theorem bsw_790 : (Jvm.Cond.selects "BalloonStall" ({ cls := "BalloonStall", name := "aged", desc := "(IIII)I" } : Jvm.MethodName) ({ cls := "BalloonStall", name := "aged", desc := "(IIII)I" } : Jvm.MethodName)) ∈ bs_al := bs_al_in (bs_t5 _ (List.mem_of_getElem? (i := 77) rfl)) rfl
theorem qL_169 : bs_cv "BalloonStallLaw" 169 mX11_aged 4 11 := ⟨kX11_aged, bsw_788, bsw_789, bsw_790, by decide, _, rfl, rfl⟩
theorem bsw_791 : (Jvm.Cond.code ({ cls := "BalloonStallModel", name := "aged", desc := "(IIII)I" } : Jvm.MethodName) prog_14_method_100_code (6 : Nat) (Option.some Jvm.ClassFile.FieldType.int)) ∈ bs_al := bs_al_in (bs_t8 _ (List.mem_of_getElem? (i := 83) rfl)) rfl
theorem kX12_aged : bs_cw mX12_aged 4 := ⟨bsw_538, bsw_791, by decide +kernel, by decide +kernel, by decide +kernel⟩
theorem bsw_792 : (Jvm.Cond.methodLink "BalloonStallLaw" (172 : Nat) ({ cls := "BalloonStallModel", name := "aged", desc := "(IIII)I" } : Jvm.MethodName)) ∈ bs_al := bs_al_in (bs_t8 _ (List.mem_of_getElem? (i := 80) rfl)) rfl
theorem bsw_793 : (Jvm.Cond.instanceMethod ({ cls := "BalloonStallModel", name := "aged", desc := "(IIII)I" } : Jvm.MethodName)) ∈ bs_al := bs_al_in (bs_t8 _ (List.mem_of_getElem? (i := 81) rfl)) rfl
theorem bsw_794 : (Jvm.Cond.selects "BalloonStallModel" ({ cls := "BalloonStallModel", name := "aged", desc := "(IIII)I" } : Jvm.MethodName) ({ cls := "BalloonStallModel", name := "aged", desc := "(IIII)I" } : Jvm.MethodName)) ∈ bs_al := bs_al_in (bs_t8 _ (List.mem_of_getElem? (i := 82) rfl)) rfl
theorem qL_172 : bs_cv "BalloonStallLaw" 172 mX12_aged 4 12 := ⟨kX12_aged, bsw_792, bsw_793, bsw_794, by decide, _, rfl, rfl⟩
theorem bsw_795 : (Jvm.Cond.code ({ cls := "BalloonStall", name := "falls", desc := "(III)I" } : Jvm.MethodName) prog_1_method_35_code (8 : Nat) (Option.some Jvm.ClassFile.FieldType.int)) ∈ bs_al := bs_al_in (bs_t5 _ (List.mem_of_getElem? (i := 142) rfl)) rfl
theorem kX11_falls : bs_cw mX11_falls 3 := ⟨bsw_10, bsw_795, by decide +kernel, by decide +kernel, by decide +kernel⟩
theorem bsw_796 : (Jvm.Cond.methodLink "BalloonStallLaw" (173 : Nat) ({ cls := "BalloonStall", name := "falls", desc := "(III)I" } : Jvm.MethodName)) ∈ bs_al := bs_al_in (bs_t5 _ (List.mem_of_getElem? (i := 139) rfl)) rfl
theorem bsw_797 : (Jvm.Cond.instanceMethod ({ cls := "BalloonStall", name := "falls", desc := "(III)I" } : Jvm.MethodName)) ∈ bs_al := bs_al_in (bs_t5 _ (List.mem_of_getElem? (i := 140) rfl)) rfl
theorem bsw_798 : (Jvm.Cond.selects "BalloonStall" ({ cls := "BalloonStall", name := "falls", desc := "(III)I" } : Jvm.MethodName) ({ cls := "BalloonStall", name := "falls", desc := "(III)I" } : Jvm.MethodName)) ∈ bs_al := bs_al_in (bs_t5 _ (List.mem_of_getElem? (i := 141) rfl)) rfl
theorem qL_173 : bs_cv "BalloonStallLaw" 173 mX11_falls 3 11 := ⟨kX11_falls, bsw_796, bsw_797, bsw_798, by decide, _, rfl, rfl⟩
theorem bsw_799 : (Jvm.Cond.code ({ cls := "BalloonStallModel", name := "falls", desc := "(III)I" } : Jvm.MethodName) prog_14_method_101_code (5 : Nat) (Option.some Jvm.ClassFile.FieldType.int)) ∈ bs_al := bs_al_in (bs_t8 _ (List.mem_of_getElem? (i := 95) rfl)) rfl
theorem kX12_falls : bs_cw mX12_falls 3 := ⟨bsw_538, bsw_799, by decide +kernel, by decide +kernel, by decide +kernel⟩
theorem bsw_800 : (Jvm.Cond.methodLink "BalloonStallLaw" (176 : Nat) ({ cls := "BalloonStallModel", name := "falls", desc := "(III)I" } : Jvm.MethodName)) ∈ bs_al := bs_al_in (bs_t8 _ (List.mem_of_getElem? (i := 92) rfl)) rfl
theorem bsw_801 : (Jvm.Cond.instanceMethod ({ cls := "BalloonStallModel", name := "falls", desc := "(III)I" } : Jvm.MethodName)) ∈ bs_al := bs_al_in (bs_t8 _ (List.mem_of_getElem? (i := 93) rfl)) rfl
theorem bsw_802 : (Jvm.Cond.selects "BalloonStallModel" ({ cls := "BalloonStallModel", name := "falls", desc := "(III)I" } : Jvm.MethodName) ({ cls := "BalloonStallModel", name := "falls", desc := "(III)I" } : Jvm.MethodName)) ∈ bs_al := bs_al_in (bs_t8 _ (List.mem_of_getElem? (i := 94) rfl)) rfl
theorem qL_176 : bs_cv "BalloonStallLaw" 176 mX12_falls 3 12 := ⟨kX12_falls, bsw_800, bsw_801, bsw_802, by decide, _, rfl, rfl⟩
theorem bsw_803 : (Jvm.Cond.code ({ cls := "BalloonStall", name := "count", desc := "(I)I" } : Jvm.MethodName) prog_1_method_36_code (2 : Nat) (Option.some Jvm.ClassFile.FieldType.int)) ∈ bs_al := bs_al_in (bs_t5 _ (List.mem_of_getElem? (i := 151) rfl)) rfl
theorem kX11_count : bs_cw mX11_count 1 := ⟨bsw_10, bsw_803, by decide +kernel, by decide +kernel, by decide +kernel⟩
theorem bsw_804 : (Jvm.Cond.methodLink "BalloonStallLaw" (177 : Nat) ({ cls := "BalloonStall", name := "count", desc := "(I)I" } : Jvm.MethodName)) ∈ bs_al := bs_al_in (bs_t5 _ (List.mem_of_getElem? (i := 148) rfl)) rfl
theorem bsw_805 : (Jvm.Cond.instanceMethod ({ cls := "BalloonStall", name := "count", desc := "(I)I" } : Jvm.MethodName)) ∈ bs_al := bs_al_in (bs_t5 _ (List.mem_of_getElem? (i := 149) rfl)) rfl
theorem bsw_806 : (Jvm.Cond.selects "BalloonStall" ({ cls := "BalloonStall", name := "count", desc := "(I)I" } : Jvm.MethodName) ({ cls := "BalloonStall", name := "count", desc := "(I)I" } : Jvm.MethodName)) ∈ bs_al := bs_al_in (bs_t5 _ (List.mem_of_getElem? (i := 150) rfl)) rfl
theorem qL_177 : bs_cv "BalloonStallLaw" 177 mX11_count 1 11 := ⟨kX11_count, bsw_804, bsw_805, bsw_806, by decide, _, rfl, rfl⟩
theorem bsw_807 : (Jvm.Cond.code ({ cls := "BalloonStallModel", name := "count", desc := "(I)I" } : Jvm.MethodName) prog_14_method_102_code (2 : Nat) (Option.some Jvm.ClassFile.FieldType.int)) ∈ bs_al := bs_al_in (bs_t8 _ (List.mem_of_getElem? (i := 99) rfl)) rfl
theorem kX12_count : bs_cw mX12_count 1 := ⟨bsw_538, bsw_807, by decide +kernel, by decide +kernel, by decide +kernel⟩
theorem bsw_808 : (Jvm.Cond.methodLink "BalloonStallLaw" (180 : Nat) ({ cls := "BalloonStallModel", name := "count", desc := "(I)I" } : Jvm.MethodName)) ∈ bs_al := bs_al_in (bs_t8 _ (List.mem_of_getElem? (i := 96) rfl)) rfl
theorem bsw_809 : (Jvm.Cond.instanceMethod ({ cls := "BalloonStallModel", name := "count", desc := "(I)I" } : Jvm.MethodName)) ∈ bs_al := bs_al_in (bs_t8 _ (List.mem_of_getElem? (i := 97) rfl)) rfl
theorem bsw_810 : (Jvm.Cond.selects "BalloonStallModel" ({ cls := "BalloonStallModel", name := "count", desc := "(I)I" } : Jvm.MethodName) ({ cls := "BalloonStallModel", name := "count", desc := "(I)I" } : Jvm.MethodName)) ∈ bs_al := bs_al_in (bs_t8 _ (List.mem_of_getElem? (i := 98) rfl)) rfl
theorem qL_180 : bs_cv "BalloonStallLaw" 180 mX12_count 1 12 := ⟨kX12_count, bsw_808, bsw_809, bsw_810, by decide, _, rfl, rfl⟩
theorem bsw_811 : (Jvm.Cond.methodLink "BalloonStallModel" (1 : Nat) ({ cls := "java/lang/Object", name := "<init>", desc := "()V" } : Jvm.MethodName)) ∈ bs_al := bs_al_in (bs_t6 _ (List.mem_of_getElem? (i := 10) rfl)) rfl
theorem oX12_1 : Cond.methodLink "BalloonStallModel" 1 objectInit ∈ bs_al := bsw_811
theorem bsw_812 : (Jvm.Cond.code ({ cls := "BalloonStallModel", name := "in", desc := "(III)Z" } : Jvm.MethodName) prog_14_method_1_code (3 : Nat) (Option.some Jvm.ClassFile.FieldType.boolean)) ∈ bs_al := bs_al_in (bs_t6 _ (List.mem_of_getElem? (i := 178) rfl)) rfl
theorem kX12_in : bs_cw mX12_in 3 := ⟨bsw_538, bsw_812, by decide +kernel, by decide +kernel, by decide +kernel⟩
theorem bsw_813 : (Jvm.Cond.methodLink "BalloonStallModel" (121 : Nat) ({ cls := "BalloonStallModel", name := "in", desc := "(III)Z" } : Jvm.MethodName)) ∈ bs_al := bs_al_in (bs_t6 _ (List.mem_of_getElem? (i := 176) rfl)) rfl
theorem bsw_814 : (Jvm.Cond.static ({ cls := "BalloonStallModel", name := "in", desc := "(III)Z" } : Jvm.MethodName)) ∈ bs_al := bs_al_in (bs_t6 _ (List.mem_of_getElem? (i := 177) rfl)) rfl
theorem qX12_121 : bs_cs "BalloonStallModel" 121 mX12_in 3 := ⟨kX12_in, bsw_813, bsw_814⟩
theorem bsw_815 : (Jvm.Cond.code ({ cls := "BalloonStallModel", name := "byteOf", desc := "(IIIIII)I" } : Jvm.MethodName) prog_14_method_5_code (7 : Nat) (Option.some Jvm.ClassFile.FieldType.int)) ∈ bs_al := bs_al_in (bs_t6 _ (List.mem_of_getElem? (i := 185) rfl)) rfl
theorem kX12_byteOf : bs_cw mX12_byteOf 6 := ⟨bsw_538, bsw_815, by decide +kernel, by decide +kernel, by decide +kernel⟩
theorem bsw_816 : (Jvm.Cond.methodLink "BalloonStallModel" (128 : Nat) ({ cls := "BalloonStallModel", name := "byteOf", desc := "(IIIIII)I" } : Jvm.MethodName)) ∈ bs_al := bs_al_in (bs_t6 _ (List.mem_of_getElem? (i := 183) rfl)) rfl
theorem bsw_817 : (Jvm.Cond.static ({ cls := "BalloonStallModel", name := "byteOf", desc := "(IIIIII)I" } : Jvm.MethodName)) ∈ bs_al := bs_al_in (bs_t6 _ (List.mem_of_getElem? (i := 184) rfl)) rfl
theorem qX12_128 : bs_cs "BalloonStallModel" 128 mX12_byteOf 6 := ⟨kX12_byteOf, bsw_816, bsw_817⟩
theorem bsw_818 : (Jvm.Cond.code ({ cls := "BalloonStallModel", name := "here", desc := "()I" } : Jvm.MethodName) prog_14_method_8_code (1 : Nat) (Option.some Jvm.ClassFile.FieldType.int)) ∈ bs_al := bs_al_in (bs_t6 _ (List.mem_of_getElem? (i := 209) rfl)) rfl
theorem kX12_here : bs_cw mX12_here 0 := ⟨bsw_538, bsw_818, by decide +kernel, by decide +kernel, by decide +kernel⟩
theorem bsw_819 : (Jvm.Cond.methodLink "BalloonStallModel" (138 : Nat) ({ cls := "BalloonStallModel", name := "here", desc := "()I" } : Jvm.MethodName)) ∈ bs_al := bs_al_in (bs_t6 _ (List.mem_of_getElem? (i := 206) rfl)) rfl
theorem bsw_820 : (Jvm.Cond.instanceMethod ({ cls := "BalloonStallModel", name := "here", desc := "()I" } : Jvm.MethodName)) ∈ bs_al := bs_al_in (bs_t6 _ (List.mem_of_getElem? (i := 208) rfl)) rfl
theorem bsw_821 : (Jvm.Cond.selects "BalloonStallModel" ({ cls := "BalloonStallModel", name := "here", desc := "()I" } : Jvm.MethodName) ({ cls := "BalloonStallModel", name := "here", desc := "()I" } : Jvm.MethodName)) ∈ bs_al := bs_al_in (bs_ps4 (({ cls := "BalloonStallModel", name := "here", desc := "()I" } : Jvm.MethodName), 52) (List.mem_of_getElem? (i := 9) rfl)) rfl
theorem qX12_138 : bs_cv "BalloonStallModel" 138 mX12_here 0 12 := ⟨kX12_here, bsw_819, bsw_820, bsw_821, by decide, _, rfl, rfl⟩
theorem bsw_822 : (Jvm.Cond.code ({ cls := "BalloonStallModel", name := "find", desc := "(I)I" } : Jvm.MethodName) prog_14_method_12_code (3 : Nat) (Option.some Jvm.ClassFile.FieldType.int)) ∈ bs_al := bs_al_in (bs_t6 _ (List.mem_of_getElem? (i := 236) rfl)) rfl
theorem kX12_find : bs_cw mX12_find 1 := ⟨bsw_538, bsw_822, by decide +kernel, by decide +kernel, by decide +kernel⟩
theorem bsw_823 : (Jvm.Cond.methodLink "BalloonStallModel" (145 : Nat) ({ cls := "BalloonStallModel", name := "find", desc := "(I)I" } : Jvm.MethodName)) ∈ bs_al := bs_al_in (bs_t6 _ (List.mem_of_getElem? (i := 233) rfl)) rfl
theorem bsw_824 : (Jvm.Cond.instanceMethod ({ cls := "BalloonStallModel", name := "find", desc := "(I)I" } : Jvm.MethodName)) ∈ bs_al := bs_al_in (bs_t6 _ (List.mem_of_getElem? (i := 235) rfl)) rfl
theorem bsw_825 : (Jvm.Cond.selects "BalloonStallModel" ({ cls := "BalloonStallModel", name := "find", desc := "(I)I" } : Jvm.MethodName) ({ cls := "BalloonStallModel", name := "find", desc := "(I)I" } : Jvm.MethodName)) ∈ bs_al := bs_al_in (bs_ps4 (({ cls := "BalloonStallModel", name := "find", desc := "(I)I" } : Jvm.MethodName), 52) (List.mem_of_getElem? (i := 15) rfl)) rfl
theorem qX12_145 : bs_cv "BalloonStallModel" 145 mX12_find 1 12 := ⟨kX12_find, bsw_823, bsw_824, bsw_825, by decide, _, rfl, rfl⟩
theorem bsw_826 : (Jvm.Cond.methodLink "BalloonStallModel" (149 : Nat) ({ cls := "java/lang/Math", name := "max", desc := "(II)I" } : Jvm.MethodName)) ∈ bs_al := bs_al_in (bs_t6 _ (List.mem_of_getElem? (i := 237) rfl)) rfl
theorem xX12_149 : Cond.methodLink "BalloonStallModel" 149 Lib.Math.max.name ∈ bs_al ∧ Cond.static Lib.Math.max.name ∈ bs_al ∧ Cond.initialized "java/lang/Math" ∈ bs_al ∧ Cond.code Lib.Math.max.name Lib.Math.max.code 2 (some .int) ∈ bs_al := ⟨bsw_826, bsw_84, bsw_85, bsw_86⟩
theorem bsw_827 : (Jvm.Cond.methodLink "BalloonStallModel" (155 : Nat) ({ cls := "java/lang/Math", name := "min", desc := "(II)I" } : Jvm.MethodName)) ∈ bs_al := bs_al_in (bs_t7 _ (List.mem_of_getElem? (i := 2) rfl)) rfl
theorem xX12_155 : Cond.methodLink "BalloonStallModel" 155 Lib.Math.min.name ∈ bs_al ∧ Cond.static Lib.Math.min.name ∈ bs_al ∧ Cond.initialized "java/lang/Math" ∈ bs_al ∧ Cond.code Lib.Math.min.name Lib.Math.min.code 2 (some .int) ∈ bs_al := ⟨bsw_827, bsw_200, bsw_85, bsw_201⟩
theorem bsw_828 : (Jvm.Cond.code ({ cls := "BalloonStallModel", name := "bad", desc := "()V" } : Jvm.MethodName) prog_14_method_10_code (1 : Nat) (Option.none : Option Jvm.ClassFile.FieldType)) ∈ bs_al := bs_al_in (bs_t6 _ (List.mem_of_getElem? (i := 213) rfl)) rfl
theorem kX12_bad : bs_cw mX12_bad 0 := ⟨bsw_538, bsw_828, by decide +kernel, by decide +kernel, by decide +kernel⟩
theorem bsw_829 : (Jvm.Cond.methodLink "BalloonStallModel" (164 : Nat) ({ cls := "BalloonStallModel", name := "bad", desc := "()V" } : Jvm.MethodName)) ∈ bs_al := bs_al_in (bs_t6 _ (List.mem_of_getElem? (i := 210) rfl)) rfl
theorem bsw_830 : (Jvm.Cond.instanceMethod ({ cls := "BalloonStallModel", name := "bad", desc := "()V" } : Jvm.MethodName)) ∈ bs_al := bs_al_in (bs_t6 _ (List.mem_of_getElem? (i := 212) rfl)) rfl
theorem bsw_831 : (Jvm.Cond.selects "BalloonStallModel" ({ cls := "BalloonStallModel", name := "bad", desc := "()V" } : Jvm.MethodName) ({ cls := "BalloonStallModel", name := "bad", desc := "()V" } : Jvm.MethodName)) ∈ bs_al := bs_al_in (bs_ps4 (({ cls := "BalloonStallModel", name := "bad", desc := "()V" } : Jvm.MethodName), 52) (List.mem_of_getElem? (i := 10) rfl)) rfl
theorem qX12_164 : bs_cv "BalloonStallModel" 164 mX12_bad 0 12 := ⟨kX12_bad, bsw_829, bsw_830, bsw_831, by decide, _, rfl, rfl⟩
theorem bsw_832 : (Jvm.Cond.code ({ cls := "BalloonStallModel", name := "isDigit", desc := "(I)Z" } : Jvm.MethodName) prog_14_method_11_code (1 : Nat) (Option.some Jvm.ClassFile.FieldType.boolean)) ∈ bs_al := bs_al_in (bs_t6 _ (List.mem_of_getElem? (i := 216) rfl)) rfl
theorem kX12_isDigit : bs_cw mX12_isDigit 1 := ⟨bsw_538, bsw_832, by decide +kernel, by decide +kernel, by decide +kernel⟩
theorem bsw_833 : (Jvm.Cond.methodLink "BalloonStallModel" (167 : Nat) ({ cls := "BalloonStallModel", name := "isDigit", desc := "(I)Z" } : Jvm.MethodName)) ∈ bs_al := bs_al_in (bs_t6 _ (List.mem_of_getElem? (i := 214) rfl)) rfl
theorem bsw_834 : (Jvm.Cond.static ({ cls := "BalloonStallModel", name := "isDigit", desc := "(I)Z" } : Jvm.MethodName)) ∈ bs_al := bs_al_in (bs_t6 _ (List.mem_of_getElem? (i := 215) rfl)) rfl
theorem qX12_167 : bs_cs "BalloonStallModel" 167 mX12_isDigit 1 := ⟨kX12_isDigit, bsw_833, bsw_834⟩
theorem bsw_835 : (Jvm.Cond.code ({ cls := "BalloonStallModel", name := "newPoint", desc := "()I" } : Jvm.MethodName) prog_14_method_14_code (1 : Nat) (Option.some Jvm.ClassFile.FieldType.int)) ∈ bs_al := bs_al_in (bs_t6 _ (List.mem_of_getElem? (i := 220) rfl)) rfl
theorem kX12_newPoint : bs_cw mX12_newPoint 0 := ⟨bsw_538, bsw_835, by decide +kernel, by decide +kernel, by decide +kernel⟩
theorem bsw_836 : (Jvm.Cond.methodLink "BalloonStallModel" (174 : Nat) ({ cls := "BalloonStallModel", name := "newPoint", desc := "()I" } : Jvm.MethodName)) ∈ bs_al := bs_al_in (bs_t6 _ (List.mem_of_getElem? (i := 217) rfl)) rfl
theorem bsw_837 : (Jvm.Cond.instanceMethod ({ cls := "BalloonStallModel", name := "newPoint", desc := "()I" } : Jvm.MethodName)) ∈ bs_al := bs_al_in (bs_t6 _ (List.mem_of_getElem? (i := 219) rfl)) rfl
theorem bsw_838 : (Jvm.Cond.selects "BalloonStallModel" ({ cls := "BalloonStallModel", name := "newPoint", desc := "()I" } : Jvm.MethodName) ({ cls := "BalloonStallModel", name := "newPoint", desc := "()I" } : Jvm.MethodName)) ∈ bs_al := bs_al_in (bs_ps4 (({ cls := "BalloonStallModel", name := "newPoint", desc := "()I" } : Jvm.MethodName), 52) (List.mem_of_getElem? (i := 11) rfl)) rfl
theorem qX12_174 : bs_cv "BalloonStallModel" 174 mX12_newPoint 0 12 := ⟨kX12_newPoint, bsw_836, bsw_837, bsw_838, by decide, _, rfl, rfl⟩
theorem bsw_839 : (Jvm.Cond.code ({ cls := "BalloonStallModel", name := "held", desc := "()I" } : Jvm.MethodName) prog_14_method_16_code (6 : Nat) (Option.some Jvm.ClassFile.FieldType.int)) ∈ bs_al := bs_al_in (bs_t6 _ (List.mem_of_getElem? (i := 232) rfl)) rfl
theorem kX12_held : bs_cw mX12_held 0 := ⟨bsw_538, bsw_839, by decide +kernel, by decide +kernel, by decide +kernel⟩
theorem bsw_840 : (Jvm.Cond.methodLink "BalloonStallModel" (177 : Nat) ({ cls := "BalloonStallModel", name := "held", desc := "()I" } : Jvm.MethodName)) ∈ bs_al := bs_al_in (bs_t6 _ (List.mem_of_getElem? (i := 229) rfl)) rfl
theorem bsw_841 : (Jvm.Cond.instanceMethod ({ cls := "BalloonStallModel", name := "held", desc := "()I" } : Jvm.MethodName)) ∈ bs_al := bs_al_in (bs_t6 _ (List.mem_of_getElem? (i := 231) rfl)) rfl
theorem bsw_842 : (Jvm.Cond.selects "BalloonStallModel" ({ cls := "BalloonStallModel", name := "held", desc := "()I" } : Jvm.MethodName) ({ cls := "BalloonStallModel", name := "held", desc := "()I" } : Jvm.MethodName)) ∈ bs_al := bs_al_in (bs_ps4 (({ cls := "BalloonStallModel", name := "held", desc := "()I" } : Jvm.MethodName), 52) (List.mem_of_getElem? (i := 14) rfl)) rfl
theorem qX12_177 : bs_cv "BalloonStallModel" 177 mX12_held 0 12 := ⟨kX12_held, bsw_840, bsw_841, bsw_842, by decide, _, rfl, rfl⟩
theorem bsw_843 : (Jvm.Cond.code ({ cls := "BalloonStallModel", name := "look", desc := "()I" } : Jvm.MethodName) prog_14_method_9_code (1 : Nat) (Option.some Jvm.ClassFile.FieldType.int)) ∈ bs_al := bs_al_in (bs_t6 _ (List.mem_of_getElem? (i := 205) rfl)) rfl
theorem kX12_look : bs_cw mX12_look 0 := ⟨bsw_538, bsw_843, by decide +kernel, by decide +kernel, by decide +kernel⟩
theorem bsw_844 : (Jvm.Cond.methodLink "BalloonStallModel" (180 : Nat) ({ cls := "BalloonStallModel", name := "look", desc := "()I" } : Jvm.MethodName)) ∈ bs_al := bs_al_in (bs_t6 _ (List.mem_of_getElem? (i := 202) rfl)) rfl
theorem bsw_845 : (Jvm.Cond.instanceMethod ({ cls := "BalloonStallModel", name := "look", desc := "()I" } : Jvm.MethodName)) ∈ bs_al := bs_al_in (bs_t6 _ (List.mem_of_getElem? (i := 204) rfl)) rfl
theorem bsw_846 : (Jvm.Cond.selects "BalloonStallModel" ({ cls := "BalloonStallModel", name := "look", desc := "()I" } : Jvm.MethodName) ({ cls := "BalloonStallModel", name := "look", desc := "()I" } : Jvm.MethodName)) ∈ bs_al := bs_al_in (bs_ps4 (({ cls := "BalloonStallModel", name := "look", desc := "()I" } : Jvm.MethodName), 52) (List.mem_of_getElem? (i := 8) rfl)) rfl
theorem qX12_180 : bs_cv "BalloonStallModel" 180 mX12_look 0 12 := ⟨kX12_look, bsw_844, bsw_845, bsw_846, by decide, _, rfl, rfl⟩
theorem bsw_847 : (Jvm.Cond.code ({ cls := "BalloonStallModel", name := "bubble", desc := "()V" } : Jvm.MethodName) prog_14_method_15_code (3 : Nat) (Option.none : Option Jvm.ClassFile.FieldType)) ∈ bs_al := bs_al_in (bs_t6 _ (List.mem_of_getElem? (i := 228) rfl)) rfl
theorem kX12_bubble : bs_cw mX12_bubble 0 := ⟨bsw_538, bsw_847, by decide +kernel, by decide +kernel, by decide +kernel⟩
theorem bsw_848 : (Jvm.Cond.methodLink "BalloonStallModel" (183 : Nat) ({ cls := "BalloonStallModel", name := "bubble", desc := "()V" } : Jvm.MethodName)) ∈ bs_al := bs_al_in (bs_t6 _ (List.mem_of_getElem? (i := 225) rfl)) rfl
theorem bsw_849 : (Jvm.Cond.instanceMethod ({ cls := "BalloonStallModel", name := "bubble", desc := "()V" } : Jvm.MethodName)) ∈ bs_al := bs_al_in (bs_t6 _ (List.mem_of_getElem? (i := 227) rfl)) rfl
theorem bsw_850 : (Jvm.Cond.selects "BalloonStallModel" ({ cls := "BalloonStallModel", name := "bubble", desc := "()V" } : Jvm.MethodName) ({ cls := "BalloonStallModel", name := "bubble", desc := "()V" } : Jvm.MethodName)) ∈ bs_al := bs_al_in (bs_ps4 (({ cls := "BalloonStallModel", name := "bubble", desc := "()V" } : Jvm.MethodName), 52) (List.mem_of_getElem? (i := 13) rfl)) rfl
theorem qX12_183 : bs_cv "BalloonStallModel" 183 mX12_bubble 0 12 := ⟨kX12_bubble, bsw_848, bsw_849, bsw_850, by decide, _, rfl, rfl⟩
theorem bsw_851 : (Jvm.Cond.code ({ cls := "BalloonStallModel", name := "joinTo", desc := "(II)V" } : Jvm.MethodName) prog_14_method_13_code (5 : Nat) (Option.none : Option Jvm.ClassFile.FieldType)) ∈ bs_al := bs_al_in (bs_t7 _ (List.mem_of_getElem? (i := 1) rfl)) rfl
theorem kX12_joinTo : bs_cw mX12_joinTo 2 := ⟨bsw_538, bsw_851, by decide +kernel, by decide +kernel, by decide +kernel⟩
theorem bsw_852 : (Jvm.Cond.methodLink "BalloonStallModel" (186 : Nat) ({ cls := "BalloonStallModel", name := "joinTo", desc := "(II)V" } : Jvm.MethodName)) ∈ bs_al := bs_al_in (bs_t6 _ (List.mem_of_getElem? (i := 238) rfl)) rfl
theorem bsw_853 : (Jvm.Cond.instanceMethod ({ cls := "BalloonStallModel", name := "joinTo", desc := "(II)V" } : Jvm.MethodName)) ∈ bs_al := bs_al_in (bs_t7 _ (List.mem_of_getElem? (i := 0) rfl)) rfl
theorem bsw_854 : (Jvm.Cond.selects "BalloonStallModel" ({ cls := "BalloonStallModel", name := "joinTo", desc := "(II)V" } : Jvm.MethodName) ({ cls := "BalloonStallModel", name := "joinTo", desc := "(II)V" } : Jvm.MethodName)) ∈ bs_al := bs_al_in (bs_ps5 (({ cls := "BalloonStallModel", name := "joinTo", desc := "(II)V" } : Jvm.MethodName), 52) (List.mem_of_getElem? (i := 0) rfl)) rfl
theorem qX12_186 : bs_cv "BalloonStallModel" 186 mX12_joinTo 2 12 := ⟨kX12_joinTo, bsw_852, bsw_853, bsw_854, by decide, _, rfl, rfl⟩
theorem bsw_855 : (Jvm.Cond.code ({ cls := "BalloonStallModel", name := "nested", desc := "()V" } : Jvm.MethodName) prog_14_method_18_code (2 : Nat) (Option.none : Option Jvm.ClassFile.FieldType)) ∈ bs_al := bs_al_in (bs_t7 _ (List.mem_of_getElem? (i := 6) rfl)) rfl
theorem kX12_nested : bs_cw mX12_nested 0 := ⟨bsw_538, bsw_855, by decide +kernel, by decide +kernel, by decide +kernel⟩
theorem bsw_856 : (Jvm.Cond.methodLink "BalloonStallModel" (190 : Nat) ({ cls := "BalloonStallModel", name := "nested", desc := "()V" } : Jvm.MethodName)) ∈ bs_al := bs_al_in (bs_t7 _ (List.mem_of_getElem? (i := 3) rfl)) rfl
theorem bsw_857 : (Jvm.Cond.instanceMethod ({ cls := "BalloonStallModel", name := "nested", desc := "()V" } : Jvm.MethodName)) ∈ bs_al := bs_al_in (bs_t7 _ (List.mem_of_getElem? (i := 5) rfl)) rfl
theorem bsw_858 : (Jvm.Cond.selects "BalloonStallModel" ({ cls := "BalloonStallModel", name := "nested", desc := "()V" } : Jvm.MethodName) ({ cls := "BalloonStallModel", name := "nested", desc := "()V" } : Jvm.MethodName)) ∈ bs_al := bs_al_in (bs_ps5 (({ cls := "BalloonStallModel", name := "nested", desc := "()V" } : Jvm.MethodName), 52) (List.mem_of_getElem? (i := 1) rfl)) rfl
theorem qX12_190 : bs_cv "BalloonStallModel" 190 mX12_nested 0 12 := ⟨kX12_nested, bsw_856, bsw_857, bsw_858, by decide, _, rfl, rfl⟩
theorem bsw_859 : (Jvm.Cond.code ({ cls := "BalloonStallModel", name := "moves", desc := "()V" } : Jvm.MethodName) prog_14_method_17_code (4 : Nat) (Option.none : Option Jvm.ClassFile.FieldType)) ∈ bs_al := bs_al_in (bs_t6 _ (List.mem_of_getElem? (i := 224) rfl)) rfl
theorem kX12_moves : bs_cw mX12_moves 0 := ⟨bsw_538, bsw_859, by decide +kernel, by decide +kernel, by decide +kernel⟩
theorem bsw_860 : (Jvm.Cond.methodLink "BalloonStallModel" (196 : Nat) ({ cls := "BalloonStallModel", name := "moves", desc := "()V" } : Jvm.MethodName)) ∈ bs_al := bs_al_in (bs_t6 _ (List.mem_of_getElem? (i := 221) rfl)) rfl
theorem bsw_861 : (Jvm.Cond.instanceMethod ({ cls := "BalloonStallModel", name := "moves", desc := "()V" } : Jvm.MethodName)) ∈ bs_al := bs_al_in (bs_t6 _ (List.mem_of_getElem? (i := 223) rfl)) rfl
theorem bsw_862 : (Jvm.Cond.selects "BalloonStallModel" ({ cls := "BalloonStallModel", name := "moves", desc := "()V" } : Jvm.MethodName) ({ cls := "BalloonStallModel", name := "moves", desc := "()V" } : Jvm.MethodName)) ∈ bs_al := bs_al_in (bs_ps4 (({ cls := "BalloonStallModel", name := "moves", desc := "()V" } : Jvm.MethodName), 52) (List.mem_of_getElem? (i := 12) rfl)) rfl
theorem qX12_196 : bs_cv "BalloonStallModel" 196 mX12_moves 0 12 := ⟨kX12_moves, bsw_860, bsw_861, bsw_862, by decide, _, rfl, rfl⟩
theorem bsw_863 : (Jvm.Cond.code ({ cls := "BalloonStallModel", name := "balloon", desc := "()V" } : Jvm.MethodName) prog_14_method_19_code (2 : Nat) (Option.none : Option Jvm.ClassFile.FieldType)) ∈ bs_al := bs_al_in (bs_t6 _ (List.mem_of_getElem? (i := 201) rfl)) rfl
theorem kX12_balloon : bs_cw mX12_balloon 0 := ⟨bsw_538, bsw_863, by decide +kernel, by decide +kernel, by decide +kernel⟩
theorem bsw_864 : (Jvm.Cond.methodLink "BalloonStallModel" (199 : Nat) ({ cls := "BalloonStallModel", name := "balloon", desc := "()V" } : Jvm.MethodName)) ∈ bs_al := bs_al_in (bs_t6 _ (List.mem_of_getElem? (i := 198) rfl)) rfl
theorem bsw_865 : (Jvm.Cond.instanceMethod ({ cls := "BalloonStallModel", name := "balloon", desc := "()V" } : Jvm.MethodName)) ∈ bs_al := bs_al_in (bs_t6 _ (List.mem_of_getElem? (i := 200) rfl)) rfl
theorem bsw_866 : (Jvm.Cond.selects "BalloonStallModel" ({ cls := "BalloonStallModel", name := "balloon", desc := "()V" } : Jvm.MethodName) ({ cls := "BalloonStallModel", name := "balloon", desc := "()V" } : Jvm.MethodName)) ∈ bs_al := bs_al_in (bs_ps4 (({ cls := "BalloonStallModel", name := "balloon", desc := "()V" } : Jvm.MethodName), 52) (List.mem_of_getElem? (i := 7) rfl)) rfl
theorem qX12_199 : bs_cv "BalloonStallModel" 199 mX12_balloon 0 12 := ⟨kX12_balloon, bsw_864, bsw_865, bsw_866, by decide, _, rfl, rfl⟩
theorem bsw_867 : (Jvm.Cond.code ({ cls := "BalloonStallModel", name := "numberPoints", desc := "()V" } : Jvm.MethodName) prog_14_method_21_code (3 : Nat) (Option.none : Option Jvm.ClassFile.FieldType)) ∈ bs_al := bs_al_in (bs_t7 _ (List.mem_of_getElem? (i := 10) rfl)) rfl
theorem kX12_numberPoints : bs_cw mX12_numberPoints 0 := ⟨bsw_538, bsw_867, by decide +kernel, by decide +kernel, by decide +kernel⟩
theorem bsw_868 : (Jvm.Cond.methodLink "BalloonStallModel" (202 : Nat) ({ cls := "BalloonStallModel", name := "numberPoints", desc := "()V" } : Jvm.MethodName)) ∈ bs_al := bs_al_in (bs_t7 _ (List.mem_of_getElem? (i := 7) rfl)) rfl
theorem bsw_869 : (Jvm.Cond.instanceMethod ({ cls := "BalloonStallModel", name := "numberPoints", desc := "()V" } : Jvm.MethodName)) ∈ bs_al := bs_al_in (bs_t7 _ (List.mem_of_getElem? (i := 9) rfl)) rfl
theorem bsw_870 : (Jvm.Cond.selects "BalloonStallModel" ({ cls := "BalloonStallModel", name := "numberPoints", desc := "()V" } : Jvm.MethodName) ({ cls := "BalloonStallModel", name := "numberPoints", desc := "()V" } : Jvm.MethodName)) ∈ bs_al := bs_al_in (bs_ps5 (({ cls := "BalloonStallModel", name := "numberPoints", desc := "()V" } : Jvm.MethodName), 52) (List.mem_of_getElem? (i := 2) rfl)) rfl
theorem qX12_202 : bs_cv "BalloonStallModel" 202 mX12_numberPoints 0 12 := ⟨kX12_numberPoints, bsw_868, bsw_869, bsw_870, by decide, _, rfl, rfl⟩
theorem bsw_871 : (Jvm.Cond.code ({ cls := "BalloonStallModel", name := "say", desc := "(I)V" } : Jvm.MethodName) prog_14_method_22_code (2 : Nat) (Option.none : Option Jvm.ClassFile.FieldType)) ∈ bs_al := bs_al_in (bs_t7 _ (List.mem_of_getElem? (i := 38) rfl)) rfl
theorem kX12_say : bs_cw mX12_say 1 := ⟨bsw_538, bsw_871, by decide +kernel, by decide +kernel, by decide +kernel⟩
theorem bsw_872 : (Jvm.Cond.methodLink "BalloonStallModel" (211 : Nat) ({ cls := "BalloonStallModel", name := "say", desc := "(I)V" } : Jvm.MethodName)) ∈ bs_al := bs_al_in (bs_t7 _ (List.mem_of_getElem? (i := 35) rfl)) rfl
theorem bsw_873 : (Jvm.Cond.instanceMethod ({ cls := "BalloonStallModel", name := "say", desc := "(I)V" } : Jvm.MethodName)) ∈ bs_al := bs_al_in (bs_t7 _ (List.mem_of_getElem? (i := 37) rfl)) rfl
theorem bsw_874 : (Jvm.Cond.selects "BalloonStallModel" ({ cls := "BalloonStallModel", name := "say", desc := "(I)V" } : Jvm.MethodName) ({ cls := "BalloonStallModel", name := "say", desc := "(I)V" } : Jvm.MethodName)) ∈ bs_al := bs_al_in (bs_ps5 (({ cls := "BalloonStallModel", name := "say", desc := "(I)V" } : Jvm.MethodName), 52) (List.mem_of_getElem? (i := 9) rfl)) rfl
theorem qX12_211 : bs_cv "BalloonStallModel" 211 mX12_say 1 12 := ⟨kX12_say, bsw_872, bsw_873, bsw_874, by decide, _, rfl, rfl⟩
theorem bsw_875 : (Jvm.Cond.code ({ cls := "BalloonStallModel", name := "isLetter", desc := "(I)Z" } : Jvm.MethodName) prog_14_method_25_code (1 : Nat) (Option.some Jvm.ClassFile.FieldType.boolean)) ∈ bs_al := bs_al_in (bs_t7 _ (List.mem_of_getElem? (i := 57) rfl)) rfl
theorem kX12_isLetter : bs_cw mX12_isLetter 1 := ⟨bsw_538, bsw_875, by decide +kernel, by decide +kernel, by decide +kernel⟩
theorem bsw_876 : (Jvm.Cond.methodLink "BalloonStallModel" (215 : Nat) ({ cls := "BalloonStallModel", name := "isLetter", desc := "(I)Z" } : Jvm.MethodName)) ∈ bs_al := bs_al_in (bs_t7 _ (List.mem_of_getElem? (i := 55) rfl)) rfl
theorem bsw_877 : (Jvm.Cond.static ({ cls := "BalloonStallModel", name := "isLetter", desc := "(I)Z" } : Jvm.MethodName)) ∈ bs_al := bs_al_in (bs_t7 _ (List.mem_of_getElem? (i := 56) rfl)) rfl
theorem qX12_215 : bs_cs "BalloonStallModel" 215 mX12_isLetter 1 := ⟨kX12_isLetter, bsw_876, bsw_877⟩
theorem bsw_878 : (Jvm.Cond.code ({ cls := "BalloonStallModel", name := "opens", desc := "()V" } : Jvm.MethodName) prog_14_method_23_code (1 : Nat) (Option.none : Option Jvm.ClassFile.FieldType)) ∈ bs_al := bs_al_in (bs_t7 _ (List.mem_of_getElem? (i := 34) rfl)) rfl
theorem kX12_opens : bs_cw mX12_opens 0 := ⟨bsw_538, bsw_878, by decide +kernel, by decide +kernel, by decide +kernel⟩
theorem bsw_879 : (Jvm.Cond.methodLink "BalloonStallModel" (218 : Nat) ({ cls := "BalloonStallModel", name := "opens", desc := "()V" } : Jvm.MethodName)) ∈ bs_al := bs_al_in (bs_t7 _ (List.mem_of_getElem? (i := 31) rfl)) rfl
theorem bsw_880 : (Jvm.Cond.instanceMethod ({ cls := "BalloonStallModel", name := "opens", desc := "()V" } : Jvm.MethodName)) ∈ bs_al := bs_al_in (bs_t7 _ (List.mem_of_getElem? (i := 33) rfl)) rfl
theorem bsw_881 : (Jvm.Cond.selects "BalloonStallModel" ({ cls := "BalloonStallModel", name := "opens", desc := "()V" } : Jvm.MethodName) ({ cls := "BalloonStallModel", name := "opens", desc := "()V" } : Jvm.MethodName)) ∈ bs_al := bs_al_in (bs_ps5 (({ cls := "BalloonStallModel", name := "opens", desc := "()V" } : Jvm.MethodName), 52) (List.mem_of_getElem? (i := 8) rfl)) rfl
theorem qX12_218 : bs_cv "BalloonStallModel" 218 mX12_opens 0 12 := ⟨kX12_opens, bsw_879, bsw_880, bsw_881, by decide, _, rfl, rfl⟩
theorem bsw_882 : (Jvm.Cond.code ({ cls := "BalloonStallModel", name := "sum", desc := "()V" } : Jvm.MethodName) prog_14_method_28_code (2 : Nat) (Option.none : Option Jvm.ClassFile.FieldType)) ∈ bs_al := bs_al_in (bs_t7 _ (List.mem_of_getElem? (i := 46) rfl)) rfl
theorem kX12_sum : bs_cw mX12_sum 0 := ⟨bsw_538, bsw_882, by decide +kernel, by decide +kernel, by decide +kernel⟩
theorem bsw_883 : (Jvm.Cond.methodLink "BalloonStallModel" (221 : Nat) ({ cls := "BalloonStallModel", name := "sum", desc := "()V" } : Jvm.MethodName)) ∈ bs_al := bs_al_in (bs_t7 _ (List.mem_of_getElem? (i := 43) rfl)) rfl
theorem bsw_884 : (Jvm.Cond.instanceMethod ({ cls := "BalloonStallModel", name := "sum", desc := "()V" } : Jvm.MethodName)) ∈ bs_al := bs_al_in (bs_t7 _ (List.mem_of_getElem? (i := 45) rfl)) rfl
theorem bsw_885 : (Jvm.Cond.selects "BalloonStallModel" ({ cls := "BalloonStallModel", name := "sum", desc := "()V" } : Jvm.MethodName) ({ cls := "BalloonStallModel", name := "sum", desc := "()V" } : Jvm.MethodName)) ∈ bs_al := bs_al_in (bs_ps5 (({ cls := "BalloonStallModel", name := "sum", desc := "()V" } : Jvm.MethodName), 52) (List.mem_of_getElem? (i := 11) rfl)) rfl
theorem qX12_221 : bs_cv "BalloonStallModel" 221 mX12_sum 0 12 := ⟨kX12_sum, bsw_883, bsw_884, bsw_885, by decide, _, rfl, rfl⟩
theorem bsw_886 : (Jvm.Cond.code ({ cls := "BalloonStallModel", name := "sign", desc := "(I)V" } : Jvm.MethodName) prog_14_method_24_code (2 : Nat) (Option.none : Option Jvm.ClassFile.FieldType)) ∈ bs_al := bs_al_in (bs_t7 _ (List.mem_of_getElem? (i := 42) rfl)) rfl
theorem kX12_sign : bs_cw mX12_sign 1 := ⟨bsw_538, bsw_886, by decide +kernel, by decide +kernel, by decide +kernel⟩
theorem bsw_887 : (Jvm.Cond.methodLink "BalloonStallModel" (224 : Nat) ({ cls := "BalloonStallModel", name := "sign", desc := "(I)V" } : Jvm.MethodName)) ∈ bs_al := bs_al_in (bs_t7 _ (List.mem_of_getElem? (i := 39) rfl)) rfl
theorem bsw_888 : (Jvm.Cond.instanceMethod ({ cls := "BalloonStallModel", name := "sign", desc := "(I)V" } : Jvm.MethodName)) ∈ bs_al := bs_al_in (bs_t7 _ (List.mem_of_getElem? (i := 41) rfl)) rfl
theorem bsw_889 : (Jvm.Cond.selects "BalloonStallModel" ({ cls := "BalloonStallModel", name := "sign", desc := "(I)V" } : Jvm.MethodName) ({ cls := "BalloonStallModel", name := "sign", desc := "(I)V" } : Jvm.MethodName)) ∈ bs_al := bs_al_in (bs_ps5 (({ cls := "BalloonStallModel", name := "sign", desc := "(I)V" } : Jvm.MethodName), 52) (List.mem_of_getElem? (i := 10) rfl)) rfl
theorem qX12_224 : bs_cv "BalloonStallModel" 224 mX12_sign 1 12 := ⟨kX12_sign, bsw_887, bsw_888, bsw_889, by decide, _, rfl, rfl⟩
theorem bsw_890 : (Jvm.Cond.code ({ cls := "BalloonStallModel", name := "atom", desc := "()V" } : Jvm.MethodName) prog_14_method_26_code (4 : Nat) (Option.none : Option Jvm.ClassFile.FieldType)) ∈ bs_al := bs_al_in (bs_t7 _ (List.mem_of_getElem? (i := 54) rfl)) rfl
theorem kX12_atom : bs_cw mX12_atom 0 := ⟨bsw_538, bsw_890, by decide +kernel, by decide +kernel, by decide +kernel⟩
theorem bsw_891 : (Jvm.Cond.methodLink "BalloonStallModel" (227 : Nat) ({ cls := "BalloonStallModel", name := "atom", desc := "()V" } : Jvm.MethodName)) ∈ bs_al := bs_al_in (bs_t7 _ (List.mem_of_getElem? (i := 51) rfl)) rfl
theorem bsw_892 : (Jvm.Cond.instanceMethod ({ cls := "BalloonStallModel", name := "atom", desc := "()V" } : Jvm.MethodName)) ∈ bs_al := bs_al_in (bs_t7 _ (List.mem_of_getElem? (i := 53) rfl)) rfl
theorem bsw_893 : (Jvm.Cond.selects "BalloonStallModel" ({ cls := "BalloonStallModel", name := "atom", desc := "()V" } : Jvm.MethodName) ({ cls := "BalloonStallModel", name := "atom", desc := "()V" } : Jvm.MethodName)) ∈ bs_al := bs_al_in (bs_ps5 (({ cls := "BalloonStallModel", name := "atom", desc := "()V" } : Jvm.MethodName), 52) (List.mem_of_getElem? (i := 13) rfl)) rfl
theorem qX12_227 : bs_cv "BalloonStallModel" 227 mX12_atom 0 12 := ⟨kX12_atom, bsw_891, bsw_892, bsw_893, by decide, _, rfl, rfl⟩
theorem bsw_894 : (Jvm.Cond.code ({ cls := "BalloonStallModel", name := "term", desc := "()V" } : Jvm.MethodName) prog_14_method_27_code (2 : Nat) (Option.none : Option Jvm.ClassFile.FieldType)) ∈ bs_al := bs_al_in (bs_t7 _ (List.mem_of_getElem? (i := 50) rfl)) rfl
theorem kX12_term : bs_cw mX12_term 0 := ⟨bsw_538, bsw_894, by decide +kernel, by decide +kernel, by decide +kernel⟩
theorem bsw_895 : (Jvm.Cond.methodLink "BalloonStallModel" (230 : Nat) ({ cls := "BalloonStallModel", name := "term", desc := "()V" } : Jvm.MethodName)) ∈ bs_al := bs_al_in (bs_t7 _ (List.mem_of_getElem? (i := 47) rfl)) rfl
theorem bsw_896 : (Jvm.Cond.instanceMethod ({ cls := "BalloonStallModel", name := "term", desc := "()V" } : Jvm.MethodName)) ∈ bs_al := bs_al_in (bs_t7 _ (List.mem_of_getElem? (i := 49) rfl)) rfl
theorem bsw_897 : (Jvm.Cond.selects "BalloonStallModel" ({ cls := "BalloonStallModel", name := "term", desc := "()V" } : Jvm.MethodName) ({ cls := "BalloonStallModel", name := "term", desc := "()V" } : Jvm.MethodName)) ∈ bs_al := bs_al_in (bs_ps5 (({ cls := "BalloonStallModel", name := "term", desc := "()V" } : Jvm.MethodName), 52) (List.mem_of_getElem? (i := 12) rfl)) rfl
theorem qX12_230 : bs_cv "BalloonStallModel" 230 mX12_term 0 12 := ⟨kX12_term, bsw_895, bsw_896, bsw_897, by decide, _, rfl, rfl⟩
theorem bsw_898 : (Jvm.Cond.code ({ cls := "BalloonStallModel", name := "unit", desc := "(Z)V" } : Jvm.MethodName) prog_14_method_29_code (3 : Nat) (Option.none : Option Jvm.ClassFile.FieldType)) ∈ bs_al := bs_al_in (bs_t7 _ (List.mem_of_getElem? (i := 30) rfl)) rfl
theorem kX12_unit : bs_cw mX12_unit 1 := ⟨bsw_538, bsw_898, by decide +kernel, by decide +kernel, by decide +kernel⟩
theorem bsw_899 : (Jvm.Cond.methodLink "BalloonStallModel" (233 : Nat) ({ cls := "BalloonStallModel", name := "unit", desc := "(Z)V" } : Jvm.MethodName)) ∈ bs_al := bs_al_in (bs_t7 _ (List.mem_of_getElem? (i := 27) rfl)) rfl
theorem bsw_900 : (Jvm.Cond.instanceMethod ({ cls := "BalloonStallModel", name := "unit", desc := "(Z)V" } : Jvm.MethodName)) ∈ bs_al := bs_al_in (bs_t7 _ (List.mem_of_getElem? (i := 29) rfl)) rfl
theorem bsw_901 : (Jvm.Cond.selects "BalloonStallModel" ({ cls := "BalloonStallModel", name := "unit", desc := "(Z)V" } : Jvm.MethodName) ({ cls := "BalloonStallModel", name := "unit", desc := "(Z)V" } : Jvm.MethodName)) ∈ bs_al := bs_al_in (bs_ps5 (({ cls := "BalloonStallModel", name := "unit", desc := "(Z)V" } : Jvm.MethodName), 52) (List.mem_of_getElem? (i := 7) rfl)) rfl
theorem qX12_233 : bs_cv "BalloonStallModel" 233 mX12_unit 1 12 := ⟨kX12_unit, bsw_899, bsw_900, bsw_901, by decide, _, rfl, rfl⟩
theorem bsw_902 : (Jvm.Cond.code ({ cls := "BalloonStallModel", name := "condition", desc := "(Z)V" } : Jvm.MethodName) prog_14_method_31_code (2 : Nat) (Option.none : Option Jvm.ClassFile.FieldType)) ∈ bs_al := bs_al_in (bs_t7 _ (List.mem_of_getElem? (i := 22) rfl)) rfl
theorem kX12_condition : bs_cw mX12_condition 1 := ⟨bsw_538, bsw_902, by decide +kernel, by decide +kernel, by decide +kernel⟩
theorem bsw_903 : (Jvm.Cond.methodLink "BalloonStallModel" (237 : Nat) ({ cls := "BalloonStallModel", name := "condition", desc := "(Z)V" } : Jvm.MethodName)) ∈ bs_al := bs_al_in (bs_t7 _ (List.mem_of_getElem? (i := 19) rfl)) rfl
theorem bsw_904 : (Jvm.Cond.instanceMethod ({ cls := "BalloonStallModel", name := "condition", desc := "(Z)V" } : Jvm.MethodName)) ∈ bs_al := bs_al_in (bs_t7 _ (List.mem_of_getElem? (i := 21) rfl)) rfl
theorem bsw_905 : (Jvm.Cond.selects "BalloonStallModel" ({ cls := "BalloonStallModel", name := "condition", desc := "(Z)V" } : Jvm.MethodName) ({ cls := "BalloonStallModel", name := "condition", desc := "(Z)V" } : Jvm.MethodName)) ∈ bs_al := bs_al_in (bs_ps5 (({ cls := "BalloonStallModel", name := "condition", desc := "(Z)V" } : Jvm.MethodName), 52) (List.mem_of_getElem? (i := 5) rfl)) rfl
theorem qX12_237 : bs_cv "BalloonStallModel" 237 mX12_condition 1 12 := ⟨kX12_condition, bsw_903, bsw_904, bsw_905, by decide, _, rfl, rfl⟩
theorem bsw_906 : (Jvm.Cond.code ({ cls := "BalloonStallModel", name := "truth", desc := "(Z)V" } : Jvm.MethodName) prog_14_method_30_code (2 : Nat) (Option.none : Option Jvm.ClassFile.FieldType)) ∈ bs_al := bs_al_in (bs_t7 _ (List.mem_of_getElem? (i := 26) rfl)) rfl
theorem kX12_truth : bs_cw mX12_truth 1 := ⟨bsw_538, bsw_906, by decide +kernel, by decide +kernel, by decide +kernel⟩
theorem bsw_907 : (Jvm.Cond.methodLink "BalloonStallModel" (240 : Nat) ({ cls := "BalloonStallModel", name := "truth", desc := "(Z)V" } : Jvm.MethodName)) ∈ bs_al := bs_al_in (bs_t7 _ (List.mem_of_getElem? (i := 23) rfl)) rfl
theorem bsw_908 : (Jvm.Cond.instanceMethod ({ cls := "BalloonStallModel", name := "truth", desc := "(Z)V" } : Jvm.MethodName)) ∈ bs_al := bs_al_in (bs_t7 _ (List.mem_of_getElem? (i := 25) rfl)) rfl
theorem bsw_909 : (Jvm.Cond.selects "BalloonStallModel" ({ cls := "BalloonStallModel", name := "truth", desc := "(Z)V" } : Jvm.MethodName) ({ cls := "BalloonStallModel", name := "truth", desc := "(Z)V" } : Jvm.MethodName)) ∈ bs_al := bs_al_in (bs_ps5 (({ cls := "BalloonStallModel", name := "truth", desc := "(Z)V" } : Jvm.MethodName), 52) (List.mem_of_getElem? (i := 6) rfl)) rfl
theorem qX12_240 : bs_cv "BalloonStallModel" 240 mX12_truth 1 12 := ⟨kX12_truth, bsw_907, bsw_908, bsw_909, by decide, _, rfl, rfl⟩
theorem bsw_910 : (Jvm.Cond.code ({ cls := "BalloonStallModel", name := "clause", desc := "()V" } : Jvm.MethodName) prog_14_method_32_code (4 : Nat) (Option.none : Option Jvm.ClassFile.FieldType)) ∈ bs_al := bs_al_in (bs_t7 _ (List.mem_of_getElem? (i := 18) rfl)) rfl
theorem kX12_clause : bs_cw mX12_clause 0 := ⟨bsw_538, bsw_910, by decide +kernel, by decide +kernel, by decide +kernel⟩
theorem bsw_911 : (Jvm.Cond.methodLink "BalloonStallModel" (243 : Nat) ({ cls := "BalloonStallModel", name := "clause", desc := "()V" } : Jvm.MethodName)) ∈ bs_al := bs_al_in (bs_t7 _ (List.mem_of_getElem? (i := 15) rfl)) rfl
theorem bsw_912 : (Jvm.Cond.instanceMethod ({ cls := "BalloonStallModel", name := "clause", desc := "()V" } : Jvm.MethodName)) ∈ bs_al := bs_al_in (bs_t7 _ (List.mem_of_getElem? (i := 17) rfl)) rfl
theorem bsw_913 : (Jvm.Cond.selects "BalloonStallModel" ({ cls := "BalloonStallModel", name := "clause", desc := "()V" } : Jvm.MethodName) ({ cls := "BalloonStallModel", name := "clause", desc := "()V" } : Jvm.MethodName)) ∈ bs_al := bs_al_in (bs_ps5 (({ cls := "BalloonStallModel", name := "clause", desc := "()V" } : Jvm.MethodName), 52) (List.mem_of_getElem? (i := 4) rfl)) rfl
theorem qX12_243 : bs_cv "BalloonStallModel" 243 mX12_clause 0 12 := ⟨kX12_clause, bsw_911, bsw_912, bsw_913, by decide, _, rfl, rfl⟩
theorem bsw_914 : (Jvm.Cond.code ({ cls := "BalloonStallModel", name := "readFigure", desc := "(I)I" } : Jvm.MethodName) prog_14_method_20_code (3 : Nat) (Option.some Jvm.ClassFile.FieldType.int)) ∈ bs_al := bs_al_in (bs_t6 _ (List.mem_of_getElem? (i := 197) rfl)) rfl
theorem kX12_readFigure : bs_cw mX12_readFigure 1 := ⟨bsw_538, bsw_914, by decide +kernel, by decide +kernel, by decide +kernel⟩
theorem bsw_915 : (Jvm.Cond.methodLink "BalloonStallModel" (246 : Nat) ({ cls := "BalloonStallModel", name := "readFigure", desc := "(I)I" } : Jvm.MethodName)) ∈ bs_al := bs_al_in (bs_t6 _ (List.mem_of_getElem? (i := 194) rfl)) rfl
theorem bsw_916 : (Jvm.Cond.instanceMethod ({ cls := "BalloonStallModel", name := "readFigure", desc := "(I)I" } : Jvm.MethodName)) ∈ bs_al := bs_al_in (bs_t6 _ (List.mem_of_getElem? (i := 196) rfl)) rfl
theorem bsw_917 : (Jvm.Cond.selects "BalloonStallModel" ({ cls := "BalloonStallModel", name := "readFigure", desc := "(I)I" } : Jvm.MethodName) ({ cls := "BalloonStallModel", name := "readFigure", desc := "(I)I" } : Jvm.MethodName)) ∈ bs_al := bs_al_in (bs_ps4 (({ cls := "BalloonStallModel", name := "readFigure", desc := "(I)I" } : Jvm.MethodName), 52) (List.mem_of_getElem? (i := 6) rfl)) rfl
theorem qX12_246 : bs_cv "BalloonStallModel" 246 mX12_readFigure 1 12 := ⟨kX12_readFigure, bsw_915, bsw_916, bsw_917, by decide, _, rfl, rfl⟩
theorem bsw_918 : (Jvm.Cond.code ({ cls := "BalloonStallModel", name := "readRule", desc := "(I)I" } : Jvm.MethodName) prog_14_method_33_code (2 : Nat) (Option.some Jvm.ClassFile.FieldType.int)) ∈ bs_al := bs_al_in (bs_t7 _ (List.mem_of_getElem? (i := 14) rfl)) rfl
theorem kX12_readRule : bs_cw mX12_readRule 1 := ⟨bsw_538, bsw_918, by decide +kernel, by decide +kernel, by decide +kernel⟩
theorem bsw_919 : (Jvm.Cond.methodLink "BalloonStallModel" (249 : Nat) ({ cls := "BalloonStallModel", name := "readRule", desc := "(I)I" } : Jvm.MethodName)) ∈ bs_al := bs_al_in (bs_t7 _ (List.mem_of_getElem? (i := 11) rfl)) rfl
theorem bsw_920 : (Jvm.Cond.instanceMethod ({ cls := "BalloonStallModel", name := "readRule", desc := "(I)I" } : Jvm.MethodName)) ∈ bs_al := bs_al_in (bs_t7 _ (List.mem_of_getElem? (i := 13) rfl)) rfl
theorem bsw_921 : (Jvm.Cond.selects "BalloonStallModel" ({ cls := "BalloonStallModel", name := "readRule", desc := "(I)I" } : Jvm.MethodName) ({ cls := "BalloonStallModel", name := "readRule", desc := "(I)I" } : Jvm.MethodName)) ∈ bs_al := bs_al_in (bs_ps5 (({ cls := "BalloonStallModel", name := "readRule", desc := "(I)I" } : Jvm.MethodName), 52) (List.mem_of_getElem? (i := 3) rfl)) rfl
theorem qX12_249 : bs_cv "BalloonStallModel" 249 mX12_readRule 1 12 := ⟨kX12_readRule, bsw_919, bsw_920, bsw_921, by decide, _, rfl, rfl⟩
theorem bsw_922 : (Jvm.Cond.methodLink "BalloonStallModel" (262 : Nat) ({ cls := "java/lang/Math", name := "min", desc := "(JJ)J" } : Jvm.MethodName)) ∈ bs_al := bs_al_in (bs_t7 _ (List.mem_of_getElem? (i := 86) rfl)) rfl
theorem xX12_262 : Cond.methodLink "BalloonStallModel" 262 Lib.MathLoose.min_long.x ∈ bs_al ∧ Cond.static Lib.MathLoose.min_long.x ∈ bs_al ∧ Cond.initialized "java/lang/Math" ∈ bs_al ∧ Cond.code Lib.MathLoose.min_long.x Lib.MathLoose.min_long.code 4 (some .long) ∈ bs_al := ⟨bsw_922, bsw_429, bsw_85, bsw_430⟩
theorem bsw_923 : (Jvm.Cond.methodLink "BalloonStallModel" (265 : Nat) ({ cls := "java/lang/Math", name := "max", desc := "(JJ)J" } : Jvm.MethodName)) ∈ bs_al := bs_al_in (bs_t7 _ (List.mem_of_getElem? (i := 87) rfl)) rfl
theorem xX12_265 : Cond.methodLink "BalloonStallModel" 265 Lib.MathLoose.max_long.x ∈ bs_al ∧ Cond.static Lib.MathLoose.max_long.x ∈ bs_al ∧ Cond.initialized "java/lang/Math" ∈ bs_al ∧ Cond.code Lib.MathLoose.max_long.x Lib.MathLoose.max_long.code 4 (some .long) ∈ bs_al := ⟨bsw_923, bsw_432, bsw_85, bsw_433⟩
theorem bsw_924 : (Jvm.Cond.code ({ cls := "BalloonStallModel", name := "within", desc := "(J)J" } : Jvm.MethodName) prog_14_method_37_code (2 : Nat) (Option.some Jvm.ClassFile.FieldType.long)) ∈ bs_al := bs_al_in (bs_t7 _ (List.mem_of_getElem? (i := 83) rfl)) rfl
theorem kX12_within : bs_cw mX12_within 1 := ⟨bsw_538, bsw_924, by decide +kernel, by decide +kernel, by decide +kernel⟩
theorem bsw_925 : (Jvm.Cond.methodLink "BalloonStallModel" (267 : Nat) ({ cls := "BalloonStallModel", name := "within", desc := "(J)J" } : Jvm.MethodName)) ∈ bs_al := bs_al_in (bs_t7 _ (List.mem_of_getElem? (i := 81) rfl)) rfl
theorem bsw_926 : (Jvm.Cond.static ({ cls := "BalloonStallModel", name := "within", desc := "(J)J" } : Jvm.MethodName)) ∈ bs_al := bs_al_in (bs_t7 _ (List.mem_of_getElem? (i := 82) rfl)) rfl
theorem qX12_267 : bs_cs "BalloonStallModel" 267 mX12_within 1 := ⟨kX12_within, bsw_925, bsw_926⟩
theorem bsw_927 : (Jvm.Cond.code ({ cls := "BalloonStallModel", name := "both", desc := "(IJJ)J" } : Jvm.MethodName) prog_14_method_38_code (5 : Nat) (Option.some Jvm.ClassFile.FieldType.long)) ∈ bs_al := bs_al_in (bs_t7 _ (List.mem_of_getElem? (i := 80) rfl)) rfl
theorem kX12_both : bs_cw mX12_both 3 := ⟨bsw_538, bsw_927, by decide +kernel, by decide +kernel, by decide +kernel⟩
theorem bsw_928 : (Jvm.Cond.methodLink "BalloonStallModel" (273 : Nat) ({ cls := "BalloonStallModel", name := "both", desc := "(IJJ)J" } : Jvm.MethodName)) ∈ bs_al := bs_al_in (bs_t7 _ (List.mem_of_getElem? (i := 78) rfl)) rfl
theorem bsw_929 : (Jvm.Cond.static ({ cls := "BalloonStallModel", name := "both", desc := "(IJJ)J" } : Jvm.MethodName)) ∈ bs_al := bs_al_in (bs_t7 _ (List.mem_of_getElem? (i := 79) rfl)) rfl
theorem qX12_273 : bs_cs "BalloonStallModel" 273 mX12_both 3 := ⟨kX12_both, bsw_928, bsw_929⟩
theorem bsw_930 : (Jvm.Cond.code ({ cls := "BalloonStallModel", name := "work", desc := "(IIIIIIII)J" } : Jvm.MethodName) prog_14_method_39_code (13 : Nat) (Option.some Jvm.ClassFile.FieldType.long)) ∈ bs_al := bs_al_in (bs_t7 _ (List.mem_of_getElem? (i := 77) rfl)) rfl
theorem kX12_work : bs_cw mX12_work 8 := ⟨bsw_538, bsw_930, by decide +kernel, by decide +kernel, by decide +kernel⟩
theorem bsw_931 : (Jvm.Cond.methodLink "BalloonStallModel" (277 : Nat) ({ cls := "BalloonStallModel", name := "work", desc := "(IIIIIIII)J" } : Jvm.MethodName)) ∈ bs_al := bs_al_in (bs_t7 _ (List.mem_of_getElem? (i := 74) rfl)) rfl
theorem bsw_932 : (Jvm.Cond.instanceMethod ({ cls := "BalloonStallModel", name := "work", desc := "(IIIIIIII)J" } : Jvm.MethodName)) ∈ bs_al := bs_al_in (bs_t7 _ (List.mem_of_getElem? (i := 76) rfl)) rfl
theorem bsw_933 : (Jvm.Cond.selects "BalloonStallModel" ({ cls := "BalloonStallModel", name := "work", desc := "(IIIIIIII)J" } : Jvm.MethodName) ({ cls := "BalloonStallModel", name := "work", desc := "(IIIIIIII)J" } : Jvm.MethodName)) ∈ bs_al := bs_al_in (bs_ps5 (({ cls := "BalloonStallModel", name := "work", desc := "(IIIIIIII)J" } : Jvm.MethodName), 52) (List.mem_of_getElem? (i := 15) rfl)) rfl
theorem qX12_277 : bs_cv "BalloonStallModel" 277 mX12_work 8 12 := ⟨kX12_work, bsw_931, bsw_932, bsw_933, by decide, _, rfl, rfl⟩
theorem bsw_934 : (Jvm.Cond.code ({ cls := "BalloonStallModel", name := "worthOf", desc := "(IIIIII)I" } : Jvm.MethodName) prog_14_method_40_code (11 : Nat) (Option.some Jvm.ClassFile.FieldType.int)) ∈ bs_al := bs_al_in (bs_t7 _ (List.mem_of_getElem? (i := 73) rfl)) rfl
theorem kX12_worthOf : bs_cw mX12_worthOf 6 := ⟨bsw_538, bsw_934, by decide +kernel, by decide +kernel, by decide +kernel⟩
theorem bsw_935 : (Jvm.Cond.methodLink "BalloonStallModel" (281 : Nat) ({ cls := "BalloonStallModel", name := "worthOf", desc := "(IIIIII)I" } : Jvm.MethodName)) ∈ bs_al := bs_al_in (bs_t7 _ (List.mem_of_getElem? (i := 70) rfl)) rfl
theorem bsw_936 : (Jvm.Cond.instanceMethod ({ cls := "BalloonStallModel", name := "worthOf", desc := "(IIIIII)I" } : Jvm.MethodName)) ∈ bs_al := bs_al_in (bs_t7 _ (List.mem_of_getElem? (i := 72) rfl)) rfl
theorem bsw_937 : (Jvm.Cond.selects "BalloonStallModel" ({ cls := "BalloonStallModel", name := "worthOf", desc := "(IIIIII)I" } : Jvm.MethodName) ({ cls := "BalloonStallModel", name := "worthOf", desc := "(IIIIII)I" } : Jvm.MethodName)) ∈ bs_al := bs_al_in (bs_ps5 (({ cls := "BalloonStallModel", name := "worthOf", desc := "(IIIIII)I" } : Jvm.MethodName), 52) (List.mem_of_getElem? (i := 14) rfl)) rfl
theorem qX12_281 : bs_cv "BalloonStallModel" 281 mX12_worthOf 6 12 := ⟨kX12_worthOf, bsw_935, bsw_936, bsw_937, by decide, _, rfl, rfl⟩
theorem bsw_938 : (Jvm.Cond.code ({ cls := "BalloonStallModel", name := "isFigure", desc := "(I)Z" } : Jvm.MethodName) prog_14_method_42_code (2 : Nat) (Option.some Jvm.ClassFile.FieldType.boolean)) ∈ bs_al := bs_al_in (bs_t7 _ (List.mem_of_getElem? (i := 96) rfl)) rfl
theorem kX12_isFigure : bs_cw mX12_isFigure 1 := ⟨bsw_538, bsw_938, by decide +kernel, by decide +kernel, by decide +kernel⟩
theorem bsw_939 : (Jvm.Cond.methodLink "BalloonStallModel" (284 : Nat) ({ cls := "BalloonStallModel", name := "isFigure", desc := "(I)Z" } : Jvm.MethodName)) ∈ bs_al := bs_al_in (bs_t7 _ (List.mem_of_getElem? (i := 93) rfl)) rfl
theorem bsw_940 : (Jvm.Cond.instanceMethod ({ cls := "BalloonStallModel", name := "isFigure", desc := "(I)Z" } : Jvm.MethodName)) ∈ bs_al := bs_al_in (bs_t7 _ (List.mem_of_getElem? (i := 95) rfl)) rfl
theorem bsw_941 : (Jvm.Cond.selects "BalloonStallModel" ({ cls := "BalloonStallModel", name := "isFigure", desc := "(I)Z" } : Jvm.MethodName) ({ cls := "BalloonStallModel", name := "isFigure", desc := "(I)Z" } : Jvm.MethodName)) ∈ bs_al := bs_al_in (bs_ps6 (({ cls := "BalloonStallModel", name := "isFigure", desc := "(I)Z" } : Jvm.MethodName), 52) (List.mem_of_getElem? (i := 0) rfl)) rfl
theorem qX12_284 : bs_cv "BalloonStallModel" 284 mX12_isFigure 1 12 := ⟨kX12_isFigure, bsw_939, bsw_940, bsw_941, by decide, _, rfl, rfl⟩
theorem bsw_942 : (Jvm.Cond.code ({ cls := "BalloonStallModel", name := "all", desc := "(I)I" } : Jvm.MethodName) prog_14_method_48_code (2 : Nat) (Option.some Jvm.ClassFile.FieldType.int)) ∈ bs_al := bs_al_in (bs_t7 _ (List.mem_of_getElem? (i := 108) rfl)) rfl
theorem kX12_all : bs_cw mX12_all 1 := ⟨bsw_538, bsw_942, by decide +kernel, by decide +kernel, by decide +kernel⟩
theorem bsw_943 : (Jvm.Cond.methodLink "BalloonStallModel" (287 : Nat) ({ cls := "BalloonStallModel", name := "all", desc := "(I)I" } : Jvm.MethodName)) ∈ bs_al := bs_al_in (bs_t7 _ (List.mem_of_getElem? (i := 105) rfl)) rfl
theorem bsw_944 : (Jvm.Cond.instanceMethod ({ cls := "BalloonStallModel", name := "all", desc := "(I)I" } : Jvm.MethodName)) ∈ bs_al := bs_al_in (bs_t7 _ (List.mem_of_getElem? (i := 107) rfl)) rfl
theorem bsw_945 : (Jvm.Cond.selects "BalloonStallModel" ({ cls := "BalloonStallModel", name := "all", desc := "(I)I" } : Jvm.MethodName) ({ cls := "BalloonStallModel", name := "all", desc := "(I)I" } : Jvm.MethodName)) ∈ bs_al := bs_al_in (bs_ps6 (({ cls := "BalloonStallModel", name := "all", desc := "(I)I" } : Jvm.MethodName), 52) (List.mem_of_getElem? (i := 3) rfl)) rfl
theorem qX12_287 : bs_cv "BalloonStallModel" 287 mX12_all 1 12 := ⟨kX12_all, bsw_943, bsw_944, bsw_945, by decide, _, rfl, rfl⟩
theorem bsw_946 : (Jvm.Cond.code ({ cls := "BalloonStallModel", name := "endsIn", desc := "(III)I" } : Jvm.MethodName) prog_14_method_47_code (6 : Nat) (Option.some Jvm.ClassFile.FieldType.int)) ∈ bs_al := bs_al_in (bs_t7 _ (List.mem_of_getElem? (i := 112) rfl)) rfl
theorem kX12_endsIn : bs_cw mX12_endsIn 3 := ⟨bsw_538, bsw_946, by decide +kernel, by decide +kernel, by decide +kernel⟩
theorem bsw_947 : (Jvm.Cond.methodLink "BalloonStallModel" (290 : Nat) ({ cls := "BalloonStallModel", name := "endsIn", desc := "(III)I" } : Jvm.MethodName)) ∈ bs_al := bs_al_in (bs_t7 _ (List.mem_of_getElem? (i := 109) rfl)) rfl
theorem bsw_948 : (Jvm.Cond.instanceMethod ({ cls := "BalloonStallModel", name := "endsIn", desc := "(III)I" } : Jvm.MethodName)) ∈ bs_al := bs_al_in (bs_t7 _ (List.mem_of_getElem? (i := 111) rfl)) rfl
theorem bsw_949 : (Jvm.Cond.selects "BalloonStallModel" ({ cls := "BalloonStallModel", name := "endsIn", desc := "(III)I" } : Jvm.MethodName) ({ cls := "BalloonStallModel", name := "endsIn", desc := "(III)I" } : Jvm.MethodName)) ∈ bs_al := bs_al_in (bs_ps6 (({ cls := "BalloonStallModel", name := "endsIn", desc := "(III)I" } : Jvm.MethodName), 52) (List.mem_of_getElem? (i := 4) rfl)) rfl
theorem qX12_290 : bs_cv "BalloonStallModel" 290 mX12_endsIn 3 12 := ⟨kX12_endsIn, bsw_947, bsw_948, bsw_949, by decide, _, rfl, rfl⟩
theorem bsw_950 : (Jvm.Cond.code ({ cls := "BalloonStallModel", name := "isTwist", desc := "(II)Z" } : Jvm.MethodName) prog_14_method_49_code (3 : Nat) (Option.some Jvm.ClassFile.FieldType.boolean)) ∈ bs_al := bs_al_in (bs_t7 _ (List.mem_of_getElem? (i := 100) rfl)) rfl
theorem kX12_isTwist : bs_cw mX12_isTwist 2 := ⟨bsw_538, bsw_950, by decide +kernel, by decide +kernel, by decide +kernel⟩
theorem bsw_951 : (Jvm.Cond.methodLink "BalloonStallModel" (294 : Nat) ({ cls := "BalloonStallModel", name := "isTwist", desc := "(II)Z" } : Jvm.MethodName)) ∈ bs_al := bs_al_in (bs_t7 _ (List.mem_of_getElem? (i := 97) rfl)) rfl
theorem bsw_952 : (Jvm.Cond.instanceMethod ({ cls := "BalloonStallModel", name := "isTwist", desc := "(II)Z" } : Jvm.MethodName)) ∈ bs_al := bs_al_in (bs_t7 _ (List.mem_of_getElem? (i := 99) rfl)) rfl
theorem bsw_953 : (Jvm.Cond.selects "BalloonStallModel" ({ cls := "BalloonStallModel", name := "isTwist", desc := "(II)Z" } : Jvm.MethodName) ({ cls := "BalloonStallModel", name := "isTwist", desc := "(II)Z" } : Jvm.MethodName)) ∈ bs_al := bs_al_in (bs_ps6 (({ cls := "BalloonStallModel", name := "isTwist", desc := "(II)Z" } : Jvm.MethodName), 52) (List.mem_of_getElem? (i := 1) rfl)) rfl
theorem qX12_294 : bs_cv "BalloonStallModel" 294 mX12_isTwist 2 12 := ⟨kX12_isTwist, bsw_951, bsw_952, bsw_953, by decide, _, rfl, rfl⟩
theorem bsw_954 : (Jvm.Cond.code ({ cls := "BalloonStallModel", name := "isSlack", desc := "(II)Z" } : Jvm.MethodName) prog_14_method_50_code (3 : Nat) (Option.some Jvm.ClassFile.FieldType.boolean)) ∈ bs_al := bs_al_in (bs_t7 _ (List.mem_of_getElem? (i := 104) rfl)) rfl
theorem kX12_isSlack : bs_cw mX12_isSlack 2 := ⟨bsw_538, bsw_954, by decide +kernel, by decide +kernel, by decide +kernel⟩
theorem bsw_955 : (Jvm.Cond.methodLink "BalloonStallModel" (298 : Nat) ({ cls := "BalloonStallModel", name := "isSlack", desc := "(II)Z" } : Jvm.MethodName)) ∈ bs_al := bs_al_in (bs_t7 _ (List.mem_of_getElem? (i := 101) rfl)) rfl
theorem bsw_956 : (Jvm.Cond.instanceMethod ({ cls := "BalloonStallModel", name := "isSlack", desc := "(II)Z" } : Jvm.MethodName)) ∈ bs_al := bs_al_in (bs_t7 _ (List.mem_of_getElem? (i := 103) rfl)) rfl
theorem bsw_957 : (Jvm.Cond.selects "BalloonStallModel" ({ cls := "BalloonStallModel", name := "isSlack", desc := "(II)Z" } : Jvm.MethodName) ({ cls := "BalloonStallModel", name := "isSlack", desc := "(II)Z" } : Jvm.MethodName)) ∈ bs_al := bs_al_in (bs_ps6 (({ cls := "BalloonStallModel", name := "isSlack", desc := "(II)Z" } : Jvm.MethodName), 52) (List.mem_of_getElem? (i := 2) rfl)) rfl
theorem qX12_298 : bs_cv "BalloonStallModel" 298 mX12_isSlack 2 12 := ⟨kX12_isSlack, bsw_955, bsw_956, bsw_957, by decide, _, rfl, rfl⟩
theorem bsw_958 : (Jvm.Cond.code ({ cls := "BalloonStallModel", name := "odd", desc := "(II)I" } : Jvm.MethodName) prog_14_method_51_code (5 : Nat) (Option.some Jvm.ClassFile.FieldType.int)) ∈ bs_al := bs_al_in (bs_t7 _ (List.mem_of_getElem? (i := 116) rfl)) rfl
theorem kX12_odd : bs_cw mX12_odd 2 := ⟨bsw_538, bsw_958, by decide +kernel, by decide +kernel, by decide +kernel⟩
theorem bsw_959 : (Jvm.Cond.methodLink "BalloonStallModel" (301 : Nat) ({ cls := "BalloonStallModel", name := "odd", desc := "(II)I" } : Jvm.MethodName)) ∈ bs_al := bs_al_in (bs_t7 _ (List.mem_of_getElem? (i := 113) rfl)) rfl
theorem bsw_960 : (Jvm.Cond.instanceMethod ({ cls := "BalloonStallModel", name := "odd", desc := "(II)I" } : Jvm.MethodName)) ∈ bs_al := bs_al_in (bs_t7 _ (List.mem_of_getElem? (i := 115) rfl)) rfl
theorem bsw_961 : (Jvm.Cond.selects "BalloonStallModel" ({ cls := "BalloonStallModel", name := "odd", desc := "(II)I" } : Jvm.MethodName) ({ cls := "BalloonStallModel", name := "odd", desc := "(II)I" } : Jvm.MethodName)) ∈ bs_al := bs_al_in (bs_ps6 (({ cls := "BalloonStallModel", name := "odd", desc := "(II)I" } : Jvm.MethodName), 52) (List.mem_of_getElem? (i := 5) rfl)) rfl
theorem qX12_301 : bs_cv "BalloonStallModel" 301 mX12_odd 2 12 := ⟨kX12_odd, bsw_959, bsw_960, bsw_961, by decide, _, rfl, rfl⟩
theorem bsw_962 : (Jvm.Cond.code ({ cls := "BalloonStallModel", name := "isBubble", desc := "(II)Z" } : Jvm.MethodName) prog_14_method_44_code (3 : Nat) (Option.some Jvm.ClassFile.FieldType.boolean)) ∈ bs_al := bs_al_in (bs_t7 _ (List.mem_of_getElem? (i := 124) rfl)) rfl
theorem kX12_isBubble : bs_cw mX12_isBubble 2 := ⟨bsw_538, bsw_962, by decide +kernel, by decide +kernel, by decide +kernel⟩
theorem bsw_963 : (Jvm.Cond.methodLink "BalloonStallModel" (304 : Nat) ({ cls := "BalloonStallModel", name := "isBubble", desc := "(II)Z" } : Jvm.MethodName)) ∈ bs_al := bs_al_in (bs_t7 _ (List.mem_of_getElem? (i := 121) rfl)) rfl
theorem bsw_964 : (Jvm.Cond.instanceMethod ({ cls := "BalloonStallModel", name := "isBubble", desc := "(II)Z" } : Jvm.MethodName)) ∈ bs_al := bs_al_in (bs_t7 _ (List.mem_of_getElem? (i := 123) rfl)) rfl
theorem bsw_965 : (Jvm.Cond.selects "BalloonStallModel" ({ cls := "BalloonStallModel", name := "isBubble", desc := "(II)Z" } : Jvm.MethodName) ({ cls := "BalloonStallModel", name := "isBubble", desc := "(II)Z" } : Jvm.MethodName)) ∈ bs_al := bs_al_in (bs_ps6 (({ cls := "BalloonStallModel", name := "isBubble", desc := "(II)Z" } : Jvm.MethodName), 52) (List.mem_of_getElem? (i := 6) rfl)) rfl
theorem qX12_304 : bs_cv "BalloonStallModel" 304 mX12_isBubble 2 12 := ⟨kX12_isBubble, bsw_963, bsw_964, bsw_965, by decide, _, rfl, rfl⟩
theorem bsw_966 : (Jvm.Cond.code ({ cls := "BalloonStallModel", name := "isPoint", desc := "(II)Z" } : Jvm.MethodName) prog_14_method_43_code (3 : Nat) (Option.some Jvm.ClassFile.FieldType.boolean)) ∈ bs_al := bs_al_in (bs_t7 _ (List.mem_of_getElem? (i := 132) rfl)) rfl
theorem kX12_isPoint : bs_cw mX12_isPoint 2 := ⟨bsw_538, bsw_966, by decide +kernel, by decide +kernel, by decide +kernel⟩
theorem bsw_967 : (Jvm.Cond.methodLink "BalloonStallModel" (307 : Nat) ({ cls := "BalloonStallModel", name := "isPoint", desc := "(II)Z" } : Jvm.MethodName)) ∈ bs_al := bs_al_in (bs_t7 _ (List.mem_of_getElem? (i := 129) rfl)) rfl
theorem bsw_968 : (Jvm.Cond.instanceMethod ({ cls := "BalloonStallModel", name := "isPoint", desc := "(II)Z" } : Jvm.MethodName)) ∈ bs_al := bs_al_in (bs_t7 _ (List.mem_of_getElem? (i := 131) rfl)) rfl
theorem bsw_969 : (Jvm.Cond.selects "BalloonStallModel" ({ cls := "BalloonStallModel", name := "isPoint", desc := "(II)Z" } : Jvm.MethodName) ({ cls := "BalloonStallModel", name := "isPoint", desc := "(II)Z" } : Jvm.MethodName)) ∈ bs_al := bs_al_in (bs_ps6 (({ cls := "BalloonStallModel", name := "isPoint", desc := "(II)Z" } : Jvm.MethodName), 52) (List.mem_of_getElem? (i := 7) rfl)) rfl
theorem qX12_307 : bs_cv "BalloonStallModel" 307 mX12_isPoint 2 12 := ⟨kX12_isPoint, bsw_967, bsw_968, bsw_969, by decide, _, rfl, rfl⟩
theorem bsw_970 : (Jvm.Cond.code ({ cls := "BalloonStallModel", name := "isBalloon", desc := "(II)Z" } : Jvm.MethodName) prog_14_method_45_code (3 : Nat) (Option.some Jvm.ClassFile.FieldType.boolean)) ∈ bs_al := bs_al_in (bs_t7 _ (List.mem_of_getElem? (i := 140) rfl)) rfl
theorem kX12_isBalloon : bs_cw mX12_isBalloon 2 := ⟨bsw_538, bsw_970, by decide +kernel, by decide +kernel, by decide +kernel⟩
theorem bsw_971 : (Jvm.Cond.methodLink "BalloonStallModel" (310 : Nat) ({ cls := "BalloonStallModel", name := "isBalloon", desc := "(II)Z" } : Jvm.MethodName)) ∈ bs_al := bs_al_in (bs_t7 _ (List.mem_of_getElem? (i := 137) rfl)) rfl
theorem bsw_972 : (Jvm.Cond.instanceMethod ({ cls := "BalloonStallModel", name := "isBalloon", desc := "(II)Z" } : Jvm.MethodName)) ∈ bs_al := bs_al_in (bs_t7 _ (List.mem_of_getElem? (i := 139) rfl)) rfl
theorem bsw_973 : (Jvm.Cond.selects "BalloonStallModel" ({ cls := "BalloonStallModel", name := "isBalloon", desc := "(II)Z" } : Jvm.MethodName) ({ cls := "BalloonStallModel", name := "isBalloon", desc := "(II)Z" } : Jvm.MethodName)) ∈ bs_al := bs_al_in (bs_ps6 (({ cls := "BalloonStallModel", name := "isBalloon", desc := "(II)Z" } : Jvm.MethodName), 52) (List.mem_of_getElem? (i := 8) rfl)) rfl
theorem qX12_310 : bs_cv "BalloonStallModel" 310 mX12_isBalloon 2 12 := ⟨kX12_isBalloon, bsw_971, bsw_972, bsw_973, by decide, _, rfl, rfl⟩
theorem bsw_974 : (Jvm.Cond.code ({ cls := "BalloonStallModel", name := "handsOf", desc := "(I)I" } : Jvm.MethodName) prog_14_method_59_code (7 : Nat) (Option.some Jvm.ClassFile.FieldType.int)) ∈ bs_al := bs_al_in (bs_t7 _ (List.mem_of_getElem? (i := 172) rfl)) rfl
theorem kX12_handsOf : bs_cw mX12_handsOf 1 := ⟨bsw_538, bsw_974, by decide +kernel, by decide +kernel, by decide +kernel⟩
theorem bsw_975 : (Jvm.Cond.methodLink "BalloonStallModel" (313 : Nat) ({ cls := "BalloonStallModel", name := "handsOf", desc := "(I)I" } : Jvm.MethodName)) ∈ bs_al := bs_al_in (bs_t7 _ (List.mem_of_getElem? (i := 169) rfl)) rfl
theorem bsw_976 : (Jvm.Cond.instanceMethod ({ cls := "BalloonStallModel", name := "handsOf", desc := "(I)I" } : Jvm.MethodName)) ∈ bs_al := bs_al_in (bs_t7 _ (List.mem_of_getElem? (i := 171) rfl)) rfl
theorem bsw_977 : (Jvm.Cond.selects "BalloonStallModel" ({ cls := "BalloonStallModel", name := "handsOf", desc := "(I)I" } : Jvm.MethodName) ({ cls := "BalloonStallModel", name := "handsOf", desc := "(I)I" } : Jvm.MethodName)) ∈ bs_al := bs_al_in (bs_ps6 (({ cls := "BalloonStallModel", name := "handsOf", desc := "(I)I" } : Jvm.MethodName), 52) (List.mem_of_getElem? (i := 12) rfl)) rfl
theorem qX12_313 : bs_cv "BalloonStallModel" 313 mX12_handsOf 1 12 := ⟨kX12_handsOf, bsw_975, bsw_976, bsw_977, by decide, _, rfl, rfl⟩
theorem bsw_978 : (Jvm.Cond.code ({ cls := "BalloonStallModel", name := "startFigure", desc := "()V" } : Jvm.MethodName) prog_14_method_61_code (1 : Nat) (Option.none : Option Jvm.ClassFile.FieldType)) ∈ bs_al := bs_al_in (bs_t7 _ (List.mem_of_getElem? (i := 160) rfl)) rfl
theorem kX12_startFigure : bs_cw mX12_startFigure 0 := ⟨bsw_538, bsw_978, by decide +kernel, by decide +kernel, by decide +kernel⟩
theorem bsw_979 : (Jvm.Cond.methodLink "BalloonStallModel" (316 : Nat) ({ cls := "BalloonStallModel", name := "startFigure", desc := "()V" } : Jvm.MethodName)) ∈ bs_al := bs_al_in (bs_t7 _ (List.mem_of_getElem? (i := 157) rfl)) rfl
theorem bsw_980 : (Jvm.Cond.instanceMethod ({ cls := "BalloonStallModel", name := "startFigure", desc := "()V" } : Jvm.MethodName)) ∈ bs_al := bs_al_in (bs_t7 _ (List.mem_of_getElem? (i := 159) rfl)) rfl
theorem bsw_981 : (Jvm.Cond.selects "BalloonStallModel" ({ cls := "BalloonStallModel", name := "startFigure", desc := "()V" } : Jvm.MethodName) ({ cls := "BalloonStallModel", name := "startFigure", desc := "()V" } : Jvm.MethodName)) ∈ bs_al := bs_al_in (bs_ps6 (({ cls := "BalloonStallModel", name := "startFigure", desc := "()V" } : Jvm.MethodName), 52) (List.mem_of_getElem? (i := 9) rfl)) rfl
theorem qX12_316 : bs_cv "BalloonStallModel" 316 mX12_startFigure 0 12 := ⟨kX12_startFigure, bsw_979, bsw_980, bsw_981, by decide, _, rfl, rfl⟩
theorem bsw_982 : (Jvm.Cond.code ({ cls := "BalloonStallModel", name := "put", desc := "(IIII)V" } : Jvm.MethodName) prog_14_method_60_code (6 : Nat) (Option.none : Option Jvm.ClassFile.FieldType)) ∈ bs_al := bs_al_in (bs_t7 _ (List.mem_of_getElem? (i := 164) rfl)) rfl
theorem kX12_put : bs_cw mX12_put 4 := ⟨bsw_538, bsw_982, by decide +kernel, by decide +kernel, by decide +kernel⟩
theorem bsw_983 : (Jvm.Cond.methodLink "BalloonStallModel" (319 : Nat) ({ cls := "BalloonStallModel", name := "put", desc := "(IIII)V" } : Jvm.MethodName)) ∈ bs_al := bs_al_in (bs_t7 _ (List.mem_of_getElem? (i := 161) rfl)) rfl
theorem bsw_984 : (Jvm.Cond.instanceMethod ({ cls := "BalloonStallModel", name := "put", desc := "(IIII)V" } : Jvm.MethodName)) ∈ bs_al := bs_al_in (bs_t7 _ (List.mem_of_getElem? (i := 163) rfl)) rfl
theorem bsw_985 : (Jvm.Cond.selects "BalloonStallModel" ({ cls := "BalloonStallModel", name := "put", desc := "(IIII)V" } : Jvm.MethodName) ({ cls := "BalloonStallModel", name := "put", desc := "(IIII)V" } : Jvm.MethodName)) ∈ bs_al := bs_al_in (bs_ps6 (({ cls := "BalloonStallModel", name := "put", desc := "(IIII)V" } : Jvm.MethodName), 52) (List.mem_of_getElem? (i := 10) rfl)) rfl
theorem qX12_319 : bs_cv "BalloonStallModel" 319 mX12_put 4 12 := ⟨kX12_put, bsw_983, bsw_984, bsw_985, by decide, _, rfl, rfl⟩
theorem bsw_986 : (Jvm.Cond.code ({ cls := "BalloonStallModel", name := "endFigure", desc := "(I)V" } : Jvm.MethodName) prog_14_method_62_code (4 : Nat) (Option.none : Option Jvm.ClassFile.FieldType)) ∈ bs_al := bs_al_in (bs_t7 _ (List.mem_of_getElem? (i := 168) rfl)) rfl
theorem kX12_endFigure : bs_cw mX12_endFigure 1 := ⟨bsw_538, bsw_986, by decide +kernel, by decide +kernel, by decide +kernel⟩
theorem bsw_987 : (Jvm.Cond.methodLink "BalloonStallModel" (323 : Nat) ({ cls := "BalloonStallModel", name := "endFigure", desc := "(I)V" } : Jvm.MethodName)) ∈ bs_al := bs_al_in (bs_t7 _ (List.mem_of_getElem? (i := 165) rfl)) rfl
theorem bsw_988 : (Jvm.Cond.instanceMethod ({ cls := "BalloonStallModel", name := "endFigure", desc := "(I)V" } : Jvm.MethodName)) ∈ bs_al := bs_al_in (bs_t7 _ (List.mem_of_getElem? (i := 167) rfl)) rfl
theorem bsw_989 : (Jvm.Cond.selects "BalloonStallModel" ({ cls := "BalloonStallModel", name := "endFigure", desc := "(I)V" } : Jvm.MethodName) ({ cls := "BalloonStallModel", name := "endFigure", desc := "(I)V" } : Jvm.MethodName)) ∈ bs_al := bs_al_in (bs_ps6 (({ cls := "BalloonStallModel", name := "endFigure", desc := "(I)V" } : Jvm.MethodName), 52) (List.mem_of_getElem? (i := 11) rfl)) rfl
theorem qX12_323 : bs_cv "BalloonStallModel" 323 mX12_endFigure 1 12 := ⟨kX12_endFigure, bsw_987, bsw_988, bsw_989, by decide, _, rfl, rfl⟩
theorem bsw_990 : (Jvm.Cond.code ({ cls := "BalloonStallModel", name := "addAll", desc := "(III)V" } : Jvm.MethodName) prog_14_method_65_code (6 : Nat) (Option.none : Option Jvm.ClassFile.FieldType)) ∈ bs_al := bs_al_in (bs_t7 _ (List.mem_of_getElem? (i := 180) rfl)) rfl
theorem kX12_addAll : bs_cw mX12_addAll 3 := ⟨bsw_538, bsw_990, by decide +kernel, by decide +kernel, by decide +kernel⟩
theorem bsw_991 : (Jvm.Cond.methodLink "BalloonStallModel" (326 : Nat) ({ cls := "BalloonStallModel", name := "addAll", desc := "(III)V" } : Jvm.MethodName)) ∈ bs_al := bs_al_in (bs_t7 _ (List.mem_of_getElem? (i := 177) rfl)) rfl
theorem bsw_992 : (Jvm.Cond.instanceMethod ({ cls := "BalloonStallModel", name := "addAll", desc := "(III)V" } : Jvm.MethodName)) ∈ bs_al := bs_al_in (bs_t7 _ (List.mem_of_getElem? (i := 179) rfl)) rfl
theorem bsw_993 : (Jvm.Cond.selects "BalloonStallModel" ({ cls := "BalloonStallModel", name := "addAll", desc := "(III)V" } : Jvm.MethodName) ({ cls := "BalloonStallModel", name := "addAll", desc := "(III)V" } : Jvm.MethodName)) ∈ bs_al := bs_al_in (bs_ps6 (({ cls := "BalloonStallModel", name := "addAll", desc := "(III)V" } : Jvm.MethodName), 52) (List.mem_of_getElem? (i := 13) rfl)) rfl
theorem qX12_326 : bs_cv "BalloonStallModel" 326 mX12_addAll 3 12 := ⟨kX12_addAll, bsw_991, bsw_992, bsw_993, by decide, _, rfl, rfl⟩
theorem bsw_994 : (Jvm.Cond.code ({ cls := "BalloonStallModel", name := "meets", desc := "(III)Z" } : Jvm.MethodName) prog_14_method_68_code (7 : Nat) (Option.some Jvm.ClassFile.FieldType.boolean)) ∈ bs_al := bs_al_in (bs_t7 _ (List.mem_of_getElem? (i := 197) rfl)) rfl
theorem kX12_meets : bs_cw mX12_meets 3 := ⟨bsw_538, bsw_994, by decide +kernel, by decide +kernel, by decide +kernel⟩
theorem bsw_995 : (Jvm.Cond.methodLink "BalloonStallModel" (330 : Nat) ({ cls := "BalloonStallModel", name := "meets", desc := "(III)Z" } : Jvm.MethodName)) ∈ bs_al := bs_al_in (bs_t7 _ (List.mem_of_getElem? (i := 194) rfl)) rfl
theorem bsw_996 : (Jvm.Cond.instanceMethod ({ cls := "BalloonStallModel", name := "meets", desc := "(III)Z" } : Jvm.MethodName)) ∈ bs_al := bs_al_in (bs_t7 _ (List.mem_of_getElem? (i := 196) rfl)) rfl
theorem bsw_997 : (Jvm.Cond.selects "BalloonStallModel" ({ cls := "BalloonStallModel", name := "meets", desc := "(III)Z" } : Jvm.MethodName) ({ cls := "BalloonStallModel", name := "meets", desc := "(III)Z" } : Jvm.MethodName)) ∈ bs_al := bs_al_in (bs_ps7 (({ cls := "BalloonStallModel", name := "meets", desc := "(III)Z" } : Jvm.MethodName), 52) (List.mem_of_getElem? (i := 0) rfl)) rfl
theorem qX12_330 : bs_cv "BalloonStallModel" 330 mX12_meets 3 12 := ⟨kX12_meets, bsw_995, bsw_996, bsw_997, by decide, _, rfl, rfl⟩
theorem bsw_998 : (Jvm.Cond.code ({ cls := "BalloonStallModel", name := "leftOf", desc := "(II)I" } : Jvm.MethodName) prog_14_method_66_code (8 : Nat) (Option.some Jvm.ClassFile.FieldType.int)) ∈ bs_al := bs_al_in (bs_t7 _ (List.mem_of_getElem? (i := 188) rfl)) rfl
theorem kX12_leftOf : bs_cw mX12_leftOf 2 := ⟨bsw_538, bsw_998, by decide +kernel, by decide +kernel, by decide +kernel⟩
theorem bsw_999 : (Jvm.Cond.methodLink "BalloonStallModel" (333 : Nat) ({ cls := "BalloonStallModel", name := "leftOf", desc := "(II)I" } : Jvm.MethodName)) ∈ bs_al := bs_al_in (bs_t7 _ (List.mem_of_getElem? (i := 185) rfl)) rfl
theorem bsw_1000 : (Jvm.Cond.instanceMethod ({ cls := "BalloonStallModel", name := "leftOf", desc := "(II)I" } : Jvm.MethodName)) ∈ bs_al := bs_al_in (bs_t7 _ (List.mem_of_getElem? (i := 187) rfl)) rfl
theorem bsw_1001 : (Jvm.Cond.selects "BalloonStallModel" ({ cls := "BalloonStallModel", name := "leftOf", desc := "(II)I" } : Jvm.MethodName) ({ cls := "BalloonStallModel", name := "leftOf", desc := "(II)I" } : Jvm.MethodName)) ∈ bs_al := bs_al_in (bs_ps6 (({ cls := "BalloonStallModel", name := "leftOf", desc := "(II)I" } : Jvm.MethodName), 52) (List.mem_of_getElem? (i := 14) rfl)) rfl
theorem qX12_333 : bs_cv "BalloonStallModel" 333 mX12_leftOf 2 12 := ⟨kX12_leftOf, bsw_999, bsw_1000, bsw_1001, by decide, _, rfl, rfl⟩
theorem bsw_1002 : (Jvm.Cond.methodLink "BalloonStallModel" (336 : Nat) ({ cls := "java/lang/Integer", name := "bitCount", desc := "(I)I" } : Jvm.MethodName)) ∈ bs_al := bs_al_in (bs_t7 _ (List.mem_of_getElem? (i := 189) rfl)) rfl
theorem qX12_336 : bs_cs "BalloonStallModel" 336 mJ6_bitCount_0f7a4 1 := ⟨kJ6_bitCount_0f7a4, bsw_1002, bsw_62⟩
theorem bsw_1003 : (Jvm.Cond.code ({ cls := "BalloonStallModel", name := "partsOf", desc := "(II)I" } : Jvm.MethodName) prog_14_method_67_code (8 : Nat) (Option.some Jvm.ClassFile.FieldType.int)) ∈ bs_al := bs_al_in (bs_t7 _ (List.mem_of_getElem? (i := 193) rfl)) rfl
theorem kX12_partsOf : bs_cw mX12_partsOf 2 := ⟨bsw_538, bsw_1003, by decide +kernel, by decide +kernel, by decide +kernel⟩
theorem bsw_1004 : (Jvm.Cond.methodLink "BalloonStallModel" (341 : Nat) ({ cls := "BalloonStallModel", name := "partsOf", desc := "(II)I" } : Jvm.MethodName)) ∈ bs_al := bs_al_in (bs_t7 _ (List.mem_of_getElem? (i := 190) rfl)) rfl
theorem bsw_1005 : (Jvm.Cond.instanceMethod ({ cls := "BalloonStallModel", name := "partsOf", desc := "(II)I" } : Jvm.MethodName)) ∈ bs_al := bs_al_in (bs_t7 _ (List.mem_of_getElem? (i := 192) rfl)) rfl
theorem bsw_1006 : (Jvm.Cond.selects "BalloonStallModel" ({ cls := "BalloonStallModel", name := "partsOf", desc := "(II)I" } : Jvm.MethodName) ({ cls := "BalloonStallModel", name := "partsOf", desc := "(II)I" } : Jvm.MethodName)) ∈ bs_al := bs_al_in (bs_ps6 (({ cls := "BalloonStallModel", name := "partsOf", desc := "(II)I" } : Jvm.MethodName), 52) (List.mem_of_getElem? (i := 15) rfl)) rfl
theorem qX12_341 : bs_cv "BalloonStallModel" 341 mX12_partsOf 2 12 := ⟨kX12_partsOf, bsw_1004, bsw_1005, bsw_1006, by decide, _, rfl, rfl⟩
theorem bsw_1007 : (Jvm.Cond.methodLink "BalloonStallModel" (344 : Nat) ({ cls := "BalloonStallModel", name := "pop", desc := "(III)I" } : Jvm.MethodName)) ∈ bs_al := bs_al_in (bs_t7 _ (List.mem_of_getElem? (i := 202) rfl)) rfl
theorem qX12_344 : bs_cv "BalloonStallModel" 344 mX12_pop 3 12 := ⟨kX12_pop, bsw_1007, bsw_660, bsw_661, by decide, _, rfl, rfl⟩
theorem bsw_1008 : (Jvm.Cond.code ({ cls := "BalloonStallModel", name := "between", desc := "(IIII)I" } : Jvm.MethodName) prog_14_method_71_code (8 : Nat) (Option.some Jvm.ClassFile.FieldType.int)) ∈ bs_al := bs_al_in (bs_t7 _ (List.mem_of_getElem? (i := 226) rfl)) rfl
theorem kX12_between : bs_cw mX12_between 4 := ⟨bsw_538, bsw_1008, by decide +kernel, by decide +kernel, by decide +kernel⟩
theorem bsw_1009 : (Jvm.Cond.methodLink "BalloonStallModel" (347 : Nat) ({ cls := "BalloonStallModel", name := "between", desc := "(IIII)I" } : Jvm.MethodName)) ∈ bs_al := bs_al_in (bs_t7 _ (List.mem_of_getElem? (i := 223) rfl)) rfl
theorem bsw_1010 : (Jvm.Cond.instanceMethod ({ cls := "BalloonStallModel", name := "between", desc := "(IIII)I" } : Jvm.MethodName)) ∈ bs_al := bs_al_in (bs_t7 _ (List.mem_of_getElem? (i := 225) rfl)) rfl
theorem bsw_1011 : (Jvm.Cond.selects "BalloonStallModel" ({ cls := "BalloonStallModel", name := "between", desc := "(IIII)I" } : Jvm.MethodName) ({ cls := "BalloonStallModel", name := "between", desc := "(IIII)I" } : Jvm.MethodName)) ∈ bs_al := bs_al_in (bs_ps7 (({ cls := "BalloonStallModel", name := "between", desc := "(IIII)I" } : Jvm.MethodName), 52) (List.mem_of_getElem? (i := 5) rfl)) rfl
theorem qX12_347 : bs_cv "BalloonStallModel" 347 mX12_between 4 12 := ⟨kX12_between, bsw_1009, bsw_1010, bsw_1011, by decide, _, rfl, rfl⟩
theorem bsw_1012 : (Jvm.Cond.code ({ cls := "BalloonStallModel", name := "isSame", desc := "(IIIIII)Z" } : Jvm.MethodName) prog_14_method_72_code (8 : Nat) (Option.some Jvm.ClassFile.FieldType.boolean)) ∈ bs_al := bs_al_in (bs_t7 _ (List.mem_of_getElem? (i := 222) rfl)) rfl
theorem kX12_isSame : bs_cw mX12_isSame 6 := ⟨bsw_538, bsw_1012, by decide +kernel, by decide +kernel, by decide +kernel⟩
theorem bsw_1013 : (Jvm.Cond.methodLink "BalloonStallModel" (351 : Nat) ({ cls := "BalloonStallModel", name := "isSame", desc := "(IIIIII)Z" } : Jvm.MethodName)) ∈ bs_al := bs_al_in (bs_t7 _ (List.mem_of_getElem? (i := 219) rfl)) rfl
theorem bsw_1014 : (Jvm.Cond.instanceMethod ({ cls := "BalloonStallModel", name := "isSame", desc := "(IIIIII)Z" } : Jvm.MethodName)) ∈ bs_al := bs_al_in (bs_t7 _ (List.mem_of_getElem? (i := 221) rfl)) rfl
theorem bsw_1015 : (Jvm.Cond.selects "BalloonStallModel" ({ cls := "BalloonStallModel", name := "isSame", desc := "(IIIIII)Z" } : Jvm.MethodName) ({ cls := "BalloonStallModel", name := "isSame", desc := "(IIIIII)Z" } : Jvm.MethodName)) ∈ bs_al := bs_al_in (bs_ps7 (({ cls := "BalloonStallModel", name := "isSame", desc := "(IIIIII)Z" } : Jvm.MethodName), 52) (List.mem_of_getElem? (i := 4) rfl)) rfl
theorem qX12_351 : bs_cv "BalloonStallModel" 351 mX12_isSame 6 12 := ⟨kX12_isSame, bsw_1013, bsw_1014, bsw_1015, by decide, _, rfl, rfl⟩
theorem bsw_1016 : (Jvm.Cond.code ({ cls := "BalloonStallModel", name := "pairs", desc := "(IIII)Z" } : Jvm.MethodName) prog_14_method_73_code (8 : Nat) (Option.some Jvm.ClassFile.FieldType.boolean)) ∈ bs_al := bs_al_in (bs_t7 _ (List.mem_of_getElem? (i := 218) rfl)) rfl
theorem kX12_pairs : bs_cw mX12_pairs 4 := ⟨bsw_538, bsw_1016, by decide +kernel, by decide +kernel, by decide +kernel⟩
theorem bsw_1017 : (Jvm.Cond.methodLink "BalloonStallModel" (355 : Nat) ({ cls := "BalloonStallModel", name := "pairs", desc := "(IIII)Z" } : Jvm.MethodName)) ∈ bs_al := bs_al_in (bs_t7 _ (List.mem_of_getElem? (i := 215) rfl)) rfl
theorem bsw_1018 : (Jvm.Cond.instanceMethod ({ cls := "BalloonStallModel", name := "pairs", desc := "(IIII)Z" } : Jvm.MethodName)) ∈ bs_al := bs_al_in (bs_t7 _ (List.mem_of_getElem? (i := 217) rfl)) rfl
theorem bsw_1019 : (Jvm.Cond.selects "BalloonStallModel" ({ cls := "BalloonStallModel", name := "pairs", desc := "(IIII)Z" } : Jvm.MethodName) ({ cls := "BalloonStallModel", name := "pairs", desc := "(IIII)Z" } : Jvm.MethodName)) ∈ bs_al := bs_al_in (bs_ps7 (({ cls := "BalloonStallModel", name := "pairs", desc := "(IIII)Z" } : Jvm.MethodName), 52) (List.mem_of_getElem? (i := 3) rfl)) rfl
theorem qX12_355 : bs_cv "BalloonStallModel" 355 mX12_pairs 4 12 := ⟨kX12_pairs, bsw_1017, bsw_1018, bsw_1019, by decide, _, rfl, rfl⟩
theorem bsw_1020 : (Jvm.Cond.code ({ cls := "BalloonStallModel", name := "mayMatch", desc := "(II)Z" } : Jvm.MethodName) prog_14_method_74_code (3 : Nat) (Option.some Jvm.ClassFile.FieldType.boolean)) ∈ bs_al := bs_al_in (bs_t7 _ (List.mem_of_getElem? (i := 210) rfl)) rfl
theorem kX12_mayMatch : bs_cw mX12_mayMatch 2 := ⟨bsw_538, bsw_1020, by decide +kernel, by decide +kernel, by decide +kernel⟩
theorem bsw_1021 : (Jvm.Cond.methodLink "BalloonStallModel" (359 : Nat) ({ cls := "BalloonStallModel", name := "mayMatch", desc := "(II)Z" } : Jvm.MethodName)) ∈ bs_al := bs_al_in (bs_t7 _ (List.mem_of_getElem? (i := 207) rfl)) rfl
theorem bsw_1022 : (Jvm.Cond.instanceMethod ({ cls := "BalloonStallModel", name := "mayMatch", desc := "(II)Z" } : Jvm.MethodName)) ∈ bs_al := bs_al_in (bs_t7 _ (List.mem_of_getElem? (i := 209) rfl)) rfl
theorem bsw_1023 : (Jvm.Cond.selects "BalloonStallModel" ({ cls := "BalloonStallModel", name := "mayMatch", desc := "(II)Z" } : Jvm.MethodName) ({ cls := "BalloonStallModel", name := "mayMatch", desc := "(II)Z" } : Jvm.MethodName)) ∈ bs_al := bs_al_in (bs_ps7 (({ cls := "BalloonStallModel", name := "mayMatch", desc := "(II)Z" } : Jvm.MethodName), 52) (List.mem_of_getElem? (i := 1) rfl)) rfl
theorem qX12_359 : bs_cv "BalloonStallModel" 359 mX12_mayMatch 2 12 := ⟨kX12_mayMatch, bsw_1021, bsw_1022, bsw_1023, by decide, _, rfl, rfl⟩
theorem bsw_1024 : (Jvm.Cond.code ({ cls := "BalloonStallModel", name := "areAlike", desc := "(II)Z" } : Jvm.MethodName) prog_14_method_75_code (3 : Nat) (Option.some Jvm.ClassFile.FieldType.boolean)) ∈ bs_al := bs_al_in (bs_t7 _ (List.mem_of_getElem? (i := 214) rfl)) rfl
theorem kX12_areAlike : bs_cw mX12_areAlike 2 := ⟨bsw_538, bsw_1024, by decide +kernel, by decide +kernel, by decide +kernel⟩
theorem bsw_1025 : (Jvm.Cond.methodLink "BalloonStallModel" (362 : Nat) ({ cls := "BalloonStallModel", name := "areAlike", desc := "(II)Z" } : Jvm.MethodName)) ∈ bs_al := bs_al_in (bs_t7 _ (List.mem_of_getElem? (i := 211) rfl)) rfl
theorem bsw_1026 : (Jvm.Cond.instanceMethod ({ cls := "BalloonStallModel", name := "areAlike", desc := "(II)Z" } : Jvm.MethodName)) ∈ bs_al := bs_al_in (bs_t7 _ (List.mem_of_getElem? (i := 213) rfl)) rfl
theorem bsw_1027 : (Jvm.Cond.selects "BalloonStallModel" ({ cls := "BalloonStallModel", name := "areAlike", desc := "(II)Z" } : Jvm.MethodName) ({ cls := "BalloonStallModel", name := "areAlike", desc := "(II)Z" } : Jvm.MethodName)) ∈ bs_al := bs_al_in (bs_ps7 (({ cls := "BalloonStallModel", name := "areAlike", desc := "(II)Z" } : Jvm.MethodName), 52) (List.mem_of_getElem? (i := 2) rfl)) rfl
theorem qX12_362 : bs_cv "BalloonStallModel" 362 mX12_areAlike 2 12 := ⟨kX12_areAlike, bsw_1025, bsw_1026, bsw_1027, by decide, _, rfl, rfl⟩
theorem bsw_1028 : (Jvm.Cond.code ({ cls := "BalloonStallModel", name := "findFars", desc := "(I)V" } : Jvm.MethodName) prog_14_method_78_code (6 : Nat) (Option.none : Option Jvm.ClassFile.FieldType)) ∈ bs_al := bs_al_in (bs_t7 _ (List.mem_of_getElem? (i := 238) rfl)) rfl
theorem kX12_findFars : bs_cw mX12_findFars 1 := ⟨bsw_538, bsw_1028, by decide +kernel, by decide +kernel, by decide +kernel⟩
theorem bsw_1029 : (Jvm.Cond.methodLink "BalloonStallModel" (366 : Nat) ({ cls := "BalloonStallModel", name := "findFars", desc := "(I)V" } : Jvm.MethodName)) ∈ bs_al := bs_al_in (bs_t7 _ (List.mem_of_getElem? (i := 235) rfl)) rfl
theorem bsw_1030 : (Jvm.Cond.instanceMethod ({ cls := "BalloonStallModel", name := "findFars", desc := "(I)V" } : Jvm.MethodName)) ∈ bs_al := bs_al_in (bs_t7 _ (List.mem_of_getElem? (i := 237) rfl)) rfl
theorem bsw_1031 : (Jvm.Cond.selects "BalloonStallModel" ({ cls := "BalloonStallModel", name := "findFars", desc := "(I)V" } : Jvm.MethodName) ({ cls := "BalloonStallModel", name := "findFars", desc := "(I)V" } : Jvm.MethodName)) ∈ bs_al := bs_al_in (bs_ps7 (({ cls := "BalloonStallModel", name := "findFars", desc := "(I)V" } : Jvm.MethodName), 52) (List.mem_of_getElem? (i := 6) rfl)) rfl
theorem qX12_366 : bs_cv "BalloonStallModel" 366 mX12_findFars 1 12 := ⟨kX12_findFars, bsw_1029, bsw_1030, bsw_1031, by decide, _, rfl, rfl⟩
theorem bsw_1032 : (Jvm.Cond.code ({ cls := "BalloonStallModel", name := "firstPart", desc := "(II)I" } : Jvm.MethodName) prog_14_method_81_code (6 : Nat) (Option.some Jvm.ClassFile.FieldType.int)) ∈ bs_al := bs_al_in (bs_t8 _ (List.mem_of_getElem? (i := 11) rfl)) rfl
theorem kX12_firstPart : bs_cw mX12_firstPart 2 := ⟨bsw_538, bsw_1032, by decide +kernel, by decide +kernel, by decide +kernel⟩
theorem bsw_1033 : (Jvm.Cond.methodLink "BalloonStallModel" (369 : Nat) ({ cls := "BalloonStallModel", name := "firstPart", desc := "(II)I" } : Jvm.MethodName)) ∈ bs_al := bs_al_in (bs_t8 _ (List.mem_of_getElem? (i := 8) rfl)) rfl
theorem bsw_1034 : (Jvm.Cond.instanceMethod ({ cls := "BalloonStallModel", name := "firstPart", desc := "(II)I" } : Jvm.MethodName)) ∈ bs_al := bs_al_in (bs_t8 _ (List.mem_of_getElem? (i := 10) rfl)) rfl
theorem bsw_1035 : (Jvm.Cond.selects "BalloonStallModel" ({ cls := "BalloonStallModel", name := "firstPart", desc := "(II)I" } : Jvm.MethodName) ({ cls := "BalloonStallModel", name := "firstPart", desc := "(II)I" } : Jvm.MethodName)) ∈ bs_al := bs_al_in (bs_ps7 (({ cls := "BalloonStallModel", name := "firstPart", desc := "(II)I" } : Jvm.MethodName), 52) (List.mem_of_getElem? (i := 7) rfl)) rfl
theorem qX12_369 : bs_cv "BalloonStallModel" 369 mX12_firstPart 2 12 := ⟨kX12_firstPart, bsw_1033, bsw_1034, bsw_1035, by decide, _, rfl, rfl⟩
theorem bsw_1036 : (Jvm.Cond.code ({ cls := "BalloonStallModel", name := "isOneWay", desc := "(III)Z" } : Jvm.MethodName) prog_14_method_83_code (6 : Nat) (Option.some Jvm.ClassFile.FieldType.boolean)) ∈ bs_al := bs_al_in (bs_t8 _ (List.mem_of_getElem? (i := 31) rfl)) rfl
theorem kX12_isOneWay : bs_cw mX12_isOneWay 3 := ⟨bsw_538, bsw_1036, by decide +kernel, by decide +kernel, by decide +kernel⟩
theorem bsw_1037 : (Jvm.Cond.methodLink "BalloonStallModel" (372 : Nat) ({ cls := "BalloonStallModel", name := "isOneWay", desc := "(III)Z" } : Jvm.MethodName)) ∈ bs_al := bs_al_in (bs_t8 _ (List.mem_of_getElem? (i := 28) rfl)) rfl
theorem bsw_1038 : (Jvm.Cond.instanceMethod ({ cls := "BalloonStallModel", name := "isOneWay", desc := "(III)Z" } : Jvm.MethodName)) ∈ bs_al := bs_al_in (bs_t8 _ (List.mem_of_getElem? (i := 30) rfl)) rfl
theorem bsw_1039 : (Jvm.Cond.selects "BalloonStallModel" ({ cls := "BalloonStallModel", name := "isOneWay", desc := "(III)Z" } : Jvm.MethodName) ({ cls := "BalloonStallModel", name := "isOneWay", desc := "(III)Z" } : Jvm.MethodName)) ∈ bs_al := bs_al_in (bs_ps7 (({ cls := "BalloonStallModel", name := "isOneWay", desc := "(III)Z" } : Jvm.MethodName), 52) (List.mem_of_getElem? (i := 11) rfl)) rfl
theorem qX12_372 : bs_cv "BalloonStallModel" 372 mX12_isOneWay 3 12 := ⟨kX12_isOneWay, bsw_1037, bsw_1038, bsw_1039, by decide, _, rfl, rfl⟩
theorem bsw_1040 : (Jvm.Cond.code ({ cls := "BalloonStallModel", name := "isSort", desc := "(I)Z" } : Jvm.MethodName) prog_14_method_46_code (2 : Nat) (Option.some Jvm.ClassFile.FieldType.boolean)) ∈ bs_al := bs_al_in (bs_t8 _ (List.mem_of_getElem? (i := 23) rfl)) rfl
theorem kX12_isSort : bs_cw mX12_isSort 1 := ⟨bsw_538, bsw_1040, by decide +kernel, by decide +kernel, by decide +kernel⟩
theorem bsw_1041 : (Jvm.Cond.methodLink "BalloonStallModel" (375 : Nat) ({ cls := "BalloonStallModel", name := "isSort", desc := "(I)Z" } : Jvm.MethodName)) ∈ bs_al := bs_al_in (bs_t8 _ (List.mem_of_getElem? (i := 20) rfl)) rfl
theorem bsw_1042 : (Jvm.Cond.instanceMethod ({ cls := "BalloonStallModel", name := "isSort", desc := "(I)Z" } : Jvm.MethodName)) ∈ bs_al := bs_al_in (bs_t8 _ (List.mem_of_getElem? (i := 22) rfl)) rfl
theorem bsw_1043 : (Jvm.Cond.selects "BalloonStallModel" ({ cls := "BalloonStallModel", name := "isSort", desc := "(I)Z" } : Jvm.MethodName) ({ cls := "BalloonStallModel", name := "isSort", desc := "(I)Z" } : Jvm.MethodName)) ∈ bs_al := bs_al_in (bs_ps7 (({ cls := "BalloonStallModel", name := "isSort", desc := "(I)Z" } : Jvm.MethodName), 52) (List.mem_of_getElem? (i := 9) rfl)) rfl
theorem qX12_375 : bs_cv "BalloonStallModel" 375 mX12_isSort 1 12 := ⟨kX12_isSort, bsw_1041, bsw_1042, bsw_1043, by decide, _, rfl, rfl⟩
theorem bsw_1044 : (Jvm.Cond.code ({ cls := "BalloonStallModel", name := "findFewest", desc := "(II)V" } : Jvm.MethodName) prog_14_method_84_code (7 : Nat) (Option.none : Option Jvm.ClassFile.FieldType)) ∈ bs_al := bs_al_in (bs_t8 _ (List.mem_of_getElem? (i := 27) rfl)) rfl
theorem kX12_findFewest : bs_cw mX12_findFewest 2 := ⟨bsw_538, bsw_1044, by decide +kernel, by decide +kernel, by decide +kernel⟩
theorem bsw_1045 : (Jvm.Cond.methodLink "BalloonStallModel" (378 : Nat) ({ cls := "BalloonStallModel", name := "findFewest", desc := "(II)V" } : Jvm.MethodName)) ∈ bs_al := bs_al_in (bs_t8 _ (List.mem_of_getElem? (i := 24) rfl)) rfl
theorem bsw_1046 : (Jvm.Cond.instanceMethod ({ cls := "BalloonStallModel", name := "findFewest", desc := "(II)V" } : Jvm.MethodName)) ∈ bs_al := bs_al_in (bs_t8 _ (List.mem_of_getElem? (i := 26) rfl)) rfl
theorem bsw_1047 : (Jvm.Cond.selects "BalloonStallModel" ({ cls := "BalloonStallModel", name := "findFewest", desc := "(II)V" } : Jvm.MethodName) ({ cls := "BalloonStallModel", name := "findFewest", desc := "(II)V" } : Jvm.MethodName)) ∈ bs_al := bs_al_in (bs_ps7 (({ cls := "BalloonStallModel", name := "findFewest", desc := "(II)V" } : Jvm.MethodName), 52) (List.mem_of_getElem? (i := 10) rfl)) rfl
theorem qX12_378 : bs_cv "BalloonStallModel" 378 mX12_findFewest 2 12 := ⟨kX12_findFewest, bsw_1045, bsw_1046, bsw_1047, by decide, _, rfl, rfl⟩
theorem bsw_1048 : (Jvm.Cond.code ({ cls := "BalloonStallModel", name := "mayBeMade", desc := "(II)Z" } : Jvm.MethodName) prog_14_method_85_code (3 : Nat) (Option.some Jvm.ClassFile.FieldType.boolean)) ∈ bs_al := bs_al_in (bs_t8 _ (List.mem_of_getElem? (i := 19) rfl)) rfl
theorem kX12_mayBeMade : bs_cw mX12_mayBeMade 2 := ⟨bsw_538, bsw_1048, by decide +kernel, by decide +kernel, by decide +kernel⟩
theorem bsw_1049 : (Jvm.Cond.methodLink "BalloonStallModel" (381 : Nat) ({ cls := "BalloonStallModel", name := "mayBeMade", desc := "(II)Z" } : Jvm.MethodName)) ∈ bs_al := bs_al_in (bs_t8 _ (List.mem_of_getElem? (i := 16) rfl)) rfl
theorem bsw_1050 : (Jvm.Cond.instanceMethod ({ cls := "BalloonStallModel", name := "mayBeMade", desc := "(II)Z" } : Jvm.MethodName)) ∈ bs_al := bs_al_in (bs_t8 _ (List.mem_of_getElem? (i := 18) rfl)) rfl
theorem bsw_1051 : (Jvm.Cond.selects "BalloonStallModel" ({ cls := "BalloonStallModel", name := "mayBeMade", desc := "(II)Z" } : Jvm.MethodName) ({ cls := "BalloonStallModel", name := "mayBeMade", desc := "(II)Z" } : Jvm.MethodName)) ∈ bs_al := bs_al_in (bs_ps7 (({ cls := "BalloonStallModel", name := "mayBeMade", desc := "(II)Z" } : Jvm.MethodName), 52) (List.mem_of_getElem? (i := 8) rfl)) rfl
theorem qX12_381 : bs_cv "BalloonStallModel" 381 mX12_mayBeMade 2 12 := ⟨kX12_mayBeMade, bsw_1049, bsw_1050, bsw_1051, by decide, _, rfl, rfl⟩
theorem bsw_1052 : (Jvm.Cond.methodLink "BalloonStallModel" (384 : Nat) ({ cls := "java/lang/Integer", name := "numberOfTrailingZeros", desc := "(I)I" } : Jvm.MethodName)) ∈ bs_al := bs_al_in (bs_t8 _ (List.mem_of_getElem? (i := 44) rfl)) rfl
theorem qX12_384 : bs_cs "BalloonStallModel" 384 mJ6_numberOfTrailingZeros_0f7a4 1 := ⟨kJ6_numberOfTrailingZeros_0f7a4, bsw_1052, bsw_348⟩
theorem bsw_1053 : (Jvm.Cond.code ({ cls := "BalloonStallModel", name := "pairing", desc := "(III)I" } : Jvm.MethodName) prog_14_method_88_code (8 : Nat) (Option.some Jvm.ClassFile.FieldType.int)) ∈ bs_al := bs_al_in (bs_t8 _ (List.mem_of_getElem? (i := 43) rfl)) rfl
theorem kX12_pairing : bs_cw mX12_pairing 3 := ⟨bsw_538, bsw_1053, by decide +kernel, by decide +kernel, by decide +kernel⟩
theorem bsw_1054 : (Jvm.Cond.methodLink "BalloonStallModel" (387 : Nat) ({ cls := "BalloonStallModel", name := "pairing", desc := "(III)I" } : Jvm.MethodName)) ∈ bs_al := bs_al_in (bs_t8 _ (List.mem_of_getElem? (i := 40) rfl)) rfl
theorem bsw_1055 : (Jvm.Cond.instanceMethod ({ cls := "BalloonStallModel", name := "pairing", desc := "(III)I" } : Jvm.MethodName)) ∈ bs_al := bs_al_in (bs_t8 _ (List.mem_of_getElem? (i := 42) rfl)) rfl
theorem bsw_1056 : (Jvm.Cond.selects "BalloonStallModel" ({ cls := "BalloonStallModel", name := "pairing", desc := "(III)I" } : Jvm.MethodName) ({ cls := "BalloonStallModel", name := "pairing", desc := "(III)I" } : Jvm.MethodName)) ∈ bs_al := bs_al_in (bs_ps7 (({ cls := "BalloonStallModel", name := "pairing", desc := "(III)I" } : Jvm.MethodName), 52) (List.mem_of_getElem? (i := 12) rfl)) rfl
theorem qX12_387 : bs_cv "BalloonStallModel" 387 mX12_pairing 3 12 := ⟨kX12_pairing, bsw_1054, bsw_1055, bsw_1056, by decide, _, rfl, rfl⟩
theorem bsw_1057 : (Jvm.Cond.code ({ cls := "BalloonStallModel", name := "isThere", desc := "(I)Z" } : Jvm.MethodName) prog_14_method_94_code (5 : Nat) (Option.some Jvm.ClassFile.FieldType.boolean)) ∈ bs_al := bs_al_in (bs_t8 _ (List.mem_of_getElem? (i := 68) rfl)) rfl
theorem kX12_isThere : bs_cw mX12_isThere 1 := ⟨bsw_538, bsw_1057, by decide +kernel, by decide +kernel, by decide +kernel⟩
theorem bsw_1058 : (Jvm.Cond.methodLink "BalloonStallModel" (399 : Nat) ({ cls := "BalloonStallModel", name := "isThere", desc := "(I)Z" } : Jvm.MethodName)) ∈ bs_al := bs_al_in (bs_t8 _ (List.mem_of_getElem? (i := 65) rfl)) rfl
theorem bsw_1059 : (Jvm.Cond.instanceMethod ({ cls := "BalloonStallModel", name := "isThere", desc := "(I)Z" } : Jvm.MethodName)) ∈ bs_al := bs_al_in (bs_t8 _ (List.mem_of_getElem? (i := 67) rfl)) rfl
theorem bsw_1060 : (Jvm.Cond.selects "BalloonStallModel" ({ cls := "BalloonStallModel", name := "isThere", desc := "(I)Z" } : Jvm.MethodName) ({ cls := "BalloonStallModel", name := "isThere", desc := "(I)Z" } : Jvm.MethodName)) ∈ bs_al := bs_al_in (bs_ps7 (({ cls := "BalloonStallModel", name := "isThere", desc := "(I)Z" } : Jvm.MethodName), 52) (List.mem_of_getElem? (i := 13) rfl)) rfl
theorem qX12_399 : bs_cv "BalloonStallModel" 399 mX12_isThere 1 12 := ⟨kX12_isThere, bsw_1058, bsw_1059, bsw_1060, by decide, _, rfl, rfl⟩
theorem bsw_1061 : (Jvm.Cond.code ({ cls := "BalloonStallModel", name := "inBalloon", desc := "(II)I" } : Jvm.MethodName) prog_14_method_95_code (5 : Nat) (Option.some Jvm.ClassFile.FieldType.int)) ∈ bs_al := bs_al_in (bs_t8 _ (List.mem_of_getElem? (i := 72) rfl)) rfl
theorem kX12_inBalloon : bs_cw mX12_inBalloon 2 := ⟨bsw_538, bsw_1061, by decide +kernel, by decide +kernel, by decide +kernel⟩
theorem bsw_1062 : (Jvm.Cond.methodLink "BalloonStallModel" (402 : Nat) ({ cls := "BalloonStallModel", name := "inBalloon", desc := "(II)I" } : Jvm.MethodName)) ∈ bs_al := bs_al_in (bs_t8 _ (List.mem_of_getElem? (i := 69) rfl)) rfl
theorem bsw_1063 : (Jvm.Cond.instanceMethod ({ cls := "BalloonStallModel", name := "inBalloon", desc := "(II)I" } : Jvm.MethodName)) ∈ bs_al := bs_al_in (bs_t8 _ (List.mem_of_getElem? (i := 71) rfl)) rfl
theorem bsw_1064 : (Jvm.Cond.selects "BalloonStallModel" ({ cls := "BalloonStallModel", name := "inBalloon", desc := "(II)I" } : Jvm.MethodName) ({ cls := "BalloonStallModel", name := "inBalloon", desc := "(II)I" } : Jvm.MethodName)) ∈ bs_al := bs_al_in (bs_ps7 (({ cls := "BalloonStallModel", name := "inBalloon", desc := "(II)I" } : Jvm.MethodName), 52) (List.mem_of_getElem? (i := 14) rfl)) rfl
theorem qX12_402 : bs_cv "BalloonStallModel" 402 mX12_inBalloon 2 12 := ⟨kX12_inBalloon, bsw_1062, bsw_1063, bsw_1064, by decide, _, rfl, rfl⟩
theorem bsw_1065 : (Jvm.Cond.code ({ cls := "BalloonStallModel", name := "startAging", desc := "(I)V" } : Jvm.MethodName) prog_14_method_98_code (3 : Nat) (Option.none : Option Jvm.ClassFile.FieldType)) ∈ bs_al := bs_al_in (bs_t8 _ (List.mem_of_getElem? (i := 87) rfl)) rfl
theorem kX12_startAging : bs_cw mX12_startAging 1 := ⟨bsw_538, bsw_1065, by decide +kernel, by decide +kernel, by decide +kernel⟩
theorem bsw_1066 : (Jvm.Cond.methodLink "BalloonStallModel" (414 : Nat) ({ cls := "BalloonStallModel", name := "startAging", desc := "(I)V" } : Jvm.MethodName)) ∈ bs_al := bs_al_in (bs_t8 _ (List.mem_of_getElem? (i := 84) rfl)) rfl
theorem bsw_1067 : (Jvm.Cond.instanceMethod ({ cls := "BalloonStallModel", name := "startAging", desc := "(I)V" } : Jvm.MethodName)) ∈ bs_al := bs_al_in (bs_t8 _ (List.mem_of_getElem? (i := 86) rfl)) rfl
theorem bsw_1068 : (Jvm.Cond.selects "BalloonStallModel" ({ cls := "BalloonStallModel", name := "startAging", desc := "(I)V" } : Jvm.MethodName) ({ cls := "BalloonStallModel", name := "startAging", desc := "(I)V" } : Jvm.MethodName)) ∈ bs_al := bs_al_in (bs_ps7 (({ cls := "BalloonStallModel", name := "startAging", desc := "(I)V" } : Jvm.MethodName), 52) (List.mem_of_getElem? (i := 15) rfl)) rfl
theorem qX12_414 : bs_cv "BalloonStallModel" 414 mX12_startAging 1 12 := ⟨kX12_startAging, bsw_1066, bsw_1067, bsw_1068, by decide, _, rfl, rfl⟩
theorem bsw_1069 : (Jvm.Cond.code ({ cls := "BalloonStallModel", name := "age", desc := "(III)V" } : Jvm.MethodName) prog_14_method_99_code (8 : Nat) (Option.none : Option Jvm.ClassFile.FieldType)) ∈ bs_al := bs_al_in (bs_t8 _ (List.mem_of_getElem? (i := 91) rfl)) rfl
theorem kX12_age : bs_cw mX12_age 3 := ⟨bsw_538, bsw_1069, by decide +kernel, by decide +kernel, by decide +kernel⟩
theorem bsw_1070 : (Jvm.Cond.methodLink "BalloonStallModel" (417 : Nat) ({ cls := "BalloonStallModel", name := "age", desc := "(III)V" } : Jvm.MethodName)) ∈ bs_al := bs_al_in (bs_t8 _ (List.mem_of_getElem? (i := 88) rfl)) rfl
theorem bsw_1071 : (Jvm.Cond.instanceMethod ({ cls := "BalloonStallModel", name := "age", desc := "(III)V" } : Jvm.MethodName)) ∈ bs_al := bs_al_in (bs_t8 _ (List.mem_of_getElem? (i := 90) rfl)) rfl
theorem bsw_1072 : (Jvm.Cond.selects "BalloonStallModel" ({ cls := "BalloonStallModel", name := "age", desc := "(III)V" } : Jvm.MethodName) ({ cls := "BalloonStallModel", name := "age", desc := "(III)V" } : Jvm.MethodName)) ∈ bs_al := bs_al_in (bs_ps8 (({ cls := "BalloonStallModel", name := "age", desc := "(III)V" } : Jvm.MethodName), 52) (List.mem_of_getElem? (i := 0) rfl)) rfl
theorem qX12_417 : bs_cv "BalloonStallModel" 417 mX12_age 3 12 := ⟨kX12_age, bsw_1070, bsw_1071, bsw_1072, by decide, _, rfl, rfl⟩
theorem bsw_1073 : (Jvm.Cond.code ({ cls := "BalloonStall$Sorts", name := "<init>", desc := "()V" } : Jvm.MethodName) prog_10_method_1_code (1 : Nat) (Option.none : Option Jvm.ClassFile.FieldType)) ∈ bs_al := bs_al_in (bs_t1 _ (List.mem_of_getElem? (i := 34) rfl)) rfl
theorem kX8_init : bs_cw mX8_init 0 := ⟨bsw_5, bsw_1073, by decide +kernel, by decide +kernel, by decide +kernel⟩
theorem bsw_1074 : (Jvm.Cond.instanceMethod ({ cls := "BalloonStall$Sorts", name := "<init>", desc := "()V" } : Jvm.MethodName)) ∈ bs_al := bs_al_in (bs_t1 _ (List.mem_of_getElem? (i := 33) rfl)) rfl
theorem qX11_11 : bs_cin "BalloonStall" 11 mX8_init 0 "BalloonStall" := ⟨kX8_init, (List.mem_of_getElem? (i := 0) rfl), rfl, bsw_1074⟩
theorem bsw_1075 : (Jvm.Cond.code ({ cls := "BalloonStall$Tape", name := "<init>", desc := "()V" } : Jvm.MethodName) prog_12_method_1_code (1 : Nat) (Option.none : Option Jvm.ClassFile.FieldType)) ∈ bs_al := bs_al_in (bs_t1 _ (List.mem_of_getElem? (i := 62) rfl)) rfl
theorem kX10_init : bs_cw mX10_init 0 := ⟨bsw_14, bsw_1075, by decide +kernel, by decide +kernel, by decide +kernel⟩
theorem bsw_1076 : (Jvm.Cond.instanceMethod ({ cls := "BalloonStall$Tape", name := "<init>", desc := "()V" } : Jvm.MethodName)) ∈ bs_al := bs_al_in (bs_t1 _ (List.mem_of_getElem? (i := 61) rfl)) rfl
theorem qX11_18 : bs_cin "BalloonStall" 18 mX10_init 0 "BalloonStall" := ⟨kX10_init, (List.mem_of_getElem? (i := 1) rfl), rfl, bsw_1076⟩
theorem bsw_1077 : (Jvm.Cond.code ({ cls := "BalloonStall$FigureReader", name := "<init>", desc := "()V" } : Jvm.MethodName) prog_4_method_1_code (1 : Nat) (Option.none : Option Jvm.ClassFile.FieldType)) ∈ bs_al := bs_al_in (bs_t1 _ (List.mem_of_getElem? (i := 83) rfl)) rfl
theorem kX2_init : bs_cw mX2_init 0 := ⟨bsw_19, bsw_1077, by decide +kernel, by decide +kernel, by decide +kernel⟩
theorem bsw_1078 : (Jvm.Cond.instanceMethod ({ cls := "BalloonStall$FigureReader", name := "<init>", desc := "()V" } : Jvm.MethodName)) ∈ bs_al := bs_al_in (bs_t1 _ (List.mem_of_getElem? (i := 82) rfl)) rfl
theorem qX11_37 : bs_cin "BalloonStall" 37 mX2_init 0 "BalloonStall" := ⟨kX2_init, (List.mem_of_getElem? (i := 2) rfl), rfl, bsw_1078⟩
theorem bsw_1079 : (Jvm.Cond.code ({ cls := "BalloonStall$Figure", name := "<init>", desc := "()V" } : Jvm.MethodName) prog_3_method_1_code (1 : Nat) (Option.none : Option Jvm.ClassFile.FieldType)) ∈ bs_al := bs_al_in (bs_t1 _ (List.mem_of_getElem? (i := 89) rfl)) rfl
theorem kX1_init : bs_cw mX1_init 0 := ⟨bsw_33, bsw_1079, by decide +kernel, by decide +kernel, by decide +kernel⟩
theorem bsw_1080 : (Jvm.Cond.instanceMethod ({ cls := "BalloonStall$Figure", name := "<init>", desc := "()V" } : Jvm.MethodName)) ∈ bs_al := bs_al_in (bs_t1 _ (List.mem_of_getElem? (i := 88) rfl)) rfl
theorem qX2_11 : bs_cin "BalloonStall$FigureReader" 11 mX1_init 0 "BalloonStall" := ⟨kX1_init, (List.mem_of_getElem? (i := 3) rfl), rfl, bsw_1080⟩
theorem bsw_1081 : (Jvm.Cond.code ({ cls := "BalloonStall$RuleReader", name := "<init>", desc := "()V" } : Jvm.MethodName) prog_9_method_1_code (1 : Nat) (Option.none : Option Jvm.ClassFile.FieldType)) ∈ bs_al := bs_al_in (bs_t1 _ (List.mem_of_getElem? (i := 195) rfl)) rfl
theorem kX7_init : bs_cw mX7_init 0 := ⟨bsw_24, bsw_1081, by decide +kernel, by decide +kernel, by decide +kernel⟩
theorem bsw_1082 : (Jvm.Cond.instanceMethod ({ cls := "BalloonStall$RuleReader", name := "<init>", desc := "()V" } : Jvm.MethodName)) ∈ bs_al := bs_al_in (bs_t1 _ (List.mem_of_getElem? (i := 194) rfl)) rfl
theorem qX11_44 : bs_cin "BalloonStall" 44 mX7_init 0 "BalloonStall" := ⟨kX7_init, (List.mem_of_getElem? (i := 4) rfl), rfl, bsw_1082⟩
theorem bsw_1083 : (Jvm.Cond.code ({ cls := "BalloonStall$Rule", name := "<init>", desc := "()V" } : Jvm.MethodName) prog_8_method_1_code (1 : Nat) (Option.none : Option Jvm.ClassFile.FieldType)) ∈ bs_al := bs_al_in (bs_t1 _ (List.mem_of_getElem? (i := 201) rfl)) rfl
theorem kX6_init : bs_cw mX6_init 0 := ⟨bsw_38, bsw_1083, by decide +kernel, by decide +kernel, by decide +kernel⟩
theorem bsw_1084 : (Jvm.Cond.instanceMethod ({ cls := "BalloonStall$Rule", name := "<init>", desc := "()V" } : Jvm.MethodName)) ∈ bs_al := bs_al_in (bs_t1 _ (List.mem_of_getElem? (i := 200) rfl)) rfl
theorem qX7_11 : bs_cin "BalloonStall$RuleReader" 11 mX6_init 0 "BalloonStall" := ⟨kX6_init, (List.mem_of_getElem? (i := 5) rfl), rfl, bsw_1084⟩
theorem bsw_1085 : (Jvm.Cond.code ({ cls := "BalloonStall$Net", name := "<init>", desc := "()V" } : Jvm.MethodName) prog_7_method_1_code (1 : Nat) (Option.none : Option Jvm.ClassFile.FieldType)) ∈ bs_al := bs_al_in (bs_t2 _ (List.mem_of_getElem? (i := 13) rfl)) rfl
theorem kX5_init : bs_cw mX5_init 0 := ⟨bsw_99, bsw_1085, by decide +kernel, by decide +kernel, by decide +kernel⟩
theorem bsw_1086 : (Jvm.Cond.instanceMethod ({ cls := "BalloonStall$Net", name := "<init>", desc := "()V" } : Jvm.MethodName)) ∈ bs_al := bs_al_in (bs_t2 _ (List.mem_of_getElem? (i := 12) rfl)) rfl
theorem qX11_51 : bs_cin "BalloonStall" 51 mX5_init 0 "BalloonStall" := ⟨kX5_init, (List.mem_of_getElem? (i := 6) rfl), rfl, bsw_1086⟩
theorem bsw_1087 : (Jvm.Cond.code ({ cls := "BalloonStall$Matcher", name := "<init>", desc := "()V" } : Jvm.MethodName) prog_6_method_1_code (1 : Nat) (Option.none : Option Jvm.ClassFile.FieldType)) ∈ bs_al := bs_al_in (bs_t2 _ (List.mem_of_getElem? (i := 30) rfl)) rfl
theorem kX4_init : bs_cw mX4_init 0 := ⟨bsw_116, bsw_1087, by decide +kernel, by decide +kernel, by decide +kernel⟩
theorem bsw_1088 : (Jvm.Cond.instanceMethod ({ cls := "BalloonStall$Matcher", name := "<init>", desc := "()V" } : Jvm.MethodName)) ∈ bs_al := bs_al_in (bs_t2 _ (List.mem_of_getElem? (i := 29) rfl)) rfl
theorem qX11_58 : bs_cin "BalloonStall" 58 mX4_init 0 "BalloonStall" := ⟨kX4_init, (List.mem_of_getElem? (i := 7) rfl), rfl, bsw_1088⟩
theorem bsw_1089 : (Jvm.Cond.code ({ cls := "BalloonStall$Ageing", name := "<init>", desc := "()V" } : Jvm.MethodName) prog_2_method_1_code (1 : Nat) (Option.none : Option Jvm.ClassFile.FieldType)) ∈ bs_al := bs_al_in (bs_t2 _ (List.mem_of_getElem? (i := 103) rfl)) rfl
theorem kX0_init : bs_cw mX0_init 0 := ⟨bsw_177, bsw_1089, by decide +kernel, by decide +kernel, by decide +kernel⟩
theorem bsw_1090 : (Jvm.Cond.instanceMethod ({ cls := "BalloonStall$Ageing", name := "<init>", desc := "()V" } : Jvm.MethodName)) ∈ bs_al := bs_al_in (bs_t2 _ (List.mem_of_getElem? (i := 102) rfl)) rfl
theorem qX11_72 : bs_cin "BalloonStall" 72 mX0_init 0 "BalloonStall" := ⟨kX0_init, (List.mem_of_getElem? (i := 8) rfl), rfl, bsw_1090⟩
theorem bsw_1091 : (Jvm.Cond.code ({ cls := "BalloonStall$Stall", name := "<init>", desc := "()V" } : Jvm.MethodName) prog_11_method_1_code (1 : Nat) (Option.none : Option Jvm.ClassFile.FieldType)) ∈ bs_al := bs_al_in (bs_t2 _ (List.mem_of_getElem? (i := 132) rfl)) rfl
theorem kX9_init : bs_cw mX9_init 0 := ⟨bsw_156, bsw_1091, by decide +kernel, by decide +kernel, by decide +kernel⟩
theorem bsw_1092 : (Jvm.Cond.instanceMethod ({ cls := "BalloonStall$Stall", name := "<init>", desc := "()V" } : Jvm.MethodName)) ∈ bs_al := bs_al_in (bs_t2 _ (List.mem_of_getElem? (i := 131) rfl)) rfl
theorem qX11_79 : bs_cin "BalloonStall" 79 mX9_init 0 "BalloonStall" := ⟨kX9_init, (List.mem_of_getElem? (i := 9) rfl), rfl, bsw_1092⟩
theorem qX11_91 : bs_cin "BalloonStall" 91 mX1_init 0 "BalloonStall" := ⟨kX1_init, (List.mem_of_getElem? (i := 10) rfl), rfl, bsw_1080⟩
theorem qX11_92 : bs_cin "BalloonStall" 92 mX6_init 0 "BalloonStall" := ⟨kX6_init, (List.mem_of_getElem? (i := 11) rfl), rfl, bsw_1084⟩
theorem bsw_1093 : (Jvm.Cond.code ({ cls := "BalloonStall", name := "isDigit", desc := "(I)Z" } : Jvm.MethodName) prog_1_method_42_code (1 : Nat) (Option.some Jvm.ClassFile.FieldType.boolean)) ∈ bs_al := bs_al_in (bs_t3 _ (List.mem_of_getElem? (i := 44) rfl)) rfl
theorem kX11_isDigit : bs_cw mX11_isDigit 1 := ⟨bsw_10, bsw_1093, by decide +kernel, by decide +kernel, by decide +kernel⟩
theorem bsw_1094 : (Jvm.Cond.static ({ cls := "BalloonStall", name := "isDigit", desc := "(I)Z" } : Jvm.MethodName)) ∈ bs_al := bs_al_in (bs_t3 _ (List.mem_of_getElem? (i := 43) rfl)) rfl
theorem qX2_42 : bs_csn "BalloonStall$FigureReader" 42 mX11_isDigit 1 "BalloonStall" := ⟨kX11_isDigit, (List.mem_of_getElem? (i := 12) rfl), bsw_1094⟩
theorem qX7_74 : bs_csn "BalloonStall$RuleReader" 74 mX11_isDigit 1 "BalloonStall" := ⟨kX11_isDigit, (List.mem_of_getElem? (i := 13) rfl), bsw_1094⟩
theorem bsw_1095 : (Jvm.Cond.fieldLink "BalloonStall$Sorts" (9 : Nat) "BalloonStall$Sorts" "air" "[I") ∈ bs_al := bs_al_in (bs_t1 _ (List.mem_of_getElem? (i := 36) rfl)) rfl
theorem fX8_9 : bs_gr "BalloonStall$Sorts" 9 8 0 := ⟨⟨by decide, _, rfl, by decide, bsw_1095⟩, fun _ => rfl⟩
theorem pX8_9 : bs_gf "BalloonStall$Sorts" 9 8 0 ∧ bs_isr (bs_ty 8 0) ∧ bs_fin "BalloonStall$Sorts" 8 0 := ⟨fX8_9.1, Or.inr ⟨_, rfl⟩, fun q h => by have h2 : some _ = some q := h; cases h2; exact ⟨rfl, rfl⟩⟩
theorem bsw_1096 : (Jvm.Cond.fieldLink "BalloonStall$Maker" (43 : Nat) "BalloonStall$Sorts" "air" "[I") ∈ bs_al := bs_al_in (bs_t1 _ (List.mem_of_getElem? (i := 37) rfl)) rfl
theorem fX3_43 : bs_gr "BalloonStall$Maker" 43 8 0 := ⟨⟨by decide, _, rfl, by decide, bsw_1096⟩, fun _ => rfl⟩
theorem bsw_1097 : (Jvm.Cond.fieldLink "BalloonStall$Ageing" (105 : Nat) "BalloonStall$Sorts" "air" "[I") ∈ bs_al := bs_al_in (bs_t1 _ (List.mem_of_getElem? (i := 38) rfl)) rfl
theorem fX0_105 : bs_gr "BalloonStall$Ageing" 105 8 0 := ⟨⟨by decide, _, rfl, by decide, bsw_1097⟩, fun _ => rfl⟩
theorem bsw_1098 : (Jvm.Cond.fieldLink "BalloonStall" (207 : Nat) "BalloonStall$Sorts" "air" "[I") ∈ bs_al := bs_al_in (bs_t1 _ (List.mem_of_getElem? (i := 39) rfl)) rfl
theorem fX11_207 : bs_gr "BalloonStall" 207 8 0 := ⟨⟨by decide, _, rfl, by decide, bsw_1098⟩, fun _ => rfl⟩
theorem bsw_1099 : (Jvm.Cond.fieldLink "BalloonStall$Sorts" (15 : Nat) "BalloonStall$Sorts" "strain" "[I") ∈ bs_al := bs_al_in (bs_t1 _ (List.mem_of_getElem? (i := 40) rfl)) rfl
theorem fX8_15 : bs_gr "BalloonStall$Sorts" 15 8 1 := ⟨⟨by decide, _, rfl, by decide, bsw_1099⟩, fun _ => rfl⟩
theorem pX8_15 : bs_gf "BalloonStall$Sorts" 15 8 1 ∧ bs_isr (bs_ty 8 1) ∧ bs_fin "BalloonStall$Sorts" 8 1 := ⟨fX8_15.1, Or.inr ⟨_, rfl⟩, fun q h => by have h2 : some _ = some q := h; cases h2; exact ⟨rfl, rfl⟩⟩
theorem bsw_1100 : (Jvm.Cond.fieldLink "BalloonStall$Maker" (48 : Nat) "BalloonStall$Sorts" "strain" "[I") ∈ bs_al := bs_al_in (bs_t1 _ (List.mem_of_getElem? (i := 41) rfl)) rfl
theorem fX3_48 : bs_gr "BalloonStall$Maker" 48 8 1 := ⟨⟨by decide, _, rfl, by decide, bsw_1100⟩, fun _ => rfl⟩
theorem bsw_1101 : (Jvm.Cond.fieldLink "BalloonStall$Ageing" (100 : Nat) "BalloonStall$Sorts" "strain" "[I") ∈ bs_al := bs_al_in (bs_t1 _ (List.mem_of_getElem? (i := 42) rfl)) rfl
theorem fX0_100 : bs_gr "BalloonStall$Ageing" 100 8 1 := ⟨⟨by decide, _, rfl, by decide, bsw_1101⟩, fun _ => rfl⟩
theorem bsw_1102 : (Jvm.Cond.fieldLink "BalloonStall" (210 : Nat) "BalloonStall$Sorts" "strain" "[I") ∈ bs_al := bs_al_in (bs_t1 _ (List.mem_of_getElem? (i := 43) rfl)) rfl
theorem fX11_210 : bs_gr "BalloonStall" 210 8 1 := ⟨⟨by decide, _, rfl, by decide, bsw_1102⟩, fun _ => rfl⟩
theorem bsw_1103 : (Jvm.Cond.fieldLink "BalloonStall$Sorts" (18 : Nat) "BalloonStall$Sorts" "chance" "[I") ∈ bs_al := bs_al_in (bs_t1 _ (List.mem_of_getElem? (i := 44) rfl)) rfl
theorem fX8_18 : bs_gr "BalloonStall$Sorts" 18 8 2 := ⟨⟨by decide, _, rfl, by decide, bsw_1103⟩, fun _ => rfl⟩
theorem pX8_18 : bs_gf "BalloonStall$Sorts" 18 8 2 ∧ bs_isr (bs_ty 8 2) ∧ bs_fin "BalloonStall$Sorts" 8 2 := ⟨fX8_18.1, Or.inr ⟨_, rfl⟩, fun q h => by have h2 : some _ = some q := h; cases h2; exact ⟨rfl, rfl⟩⟩
theorem bsw_1104 : (Jvm.Cond.fieldLink "BalloonStall$Stall" (91 : Nat) "BalloonStall$Sorts" "chance" "[I") ∈ bs_al := bs_al_in (bs_t1 _ (List.mem_of_getElem? (i := 45) rfl)) rfl
theorem fX9_91 : bs_gr "BalloonStall$Stall" 91 8 2 := ⟨⟨by decide, _, rfl, by decide, bsw_1104⟩, fun _ => rfl⟩
theorem bsw_1105 : (Jvm.Cond.fieldLink "BalloonStall$Sorts" (21 : Nat) "BalloonStall$Sorts" "count" "I") ∈ bs_al := bs_al_in (bs_t1 _ (List.mem_of_getElem? (i := 46) rfl)) rfl
theorem fX8_21 : bs_gi "BalloonStall$Sorts" 21 8 3 := ⟨⟨by decide, _, rfl, by decide, bsw_1105⟩, fun _ => rfl⟩
theorem pX8_21 : bs_gf "BalloonStall$Sorts" 21 8 3 ∧ bs_ty 8 3 = .int ∧ bs_nfin 8 3 := ⟨fX8_21.1, rfl, fun q h => by have h2 : some _ = some q := h; cases h2; rfl⟩
theorem bsw_1106 : (Jvm.Cond.fieldLink "BalloonStall" (109 : Nat) "BalloonStall$Sorts" "count" "I") ∈ bs_al := bs_al_in (bs_t1 _ (List.mem_of_getElem? (i := 47) rfl)) rfl
theorem fX11_109 : bs_gi "BalloonStall" 109 8 3 := ⟨⟨by decide, _, rfl, by decide, bsw_1106⟩, fun _ => rfl⟩
theorem pX11_109 : bs_gf "BalloonStall" 109 8 3 ∧ bs_ty 8 3 = .int ∧ bs_nfin 8 3 := ⟨fX11_109.1, rfl, fun q h => by have h2 : some _ = some q := h; cases h2; rfl⟩
theorem bsw_1107 : (Jvm.Cond.fieldLink "BalloonStall$Tape" (9 : Nat) "BalloonStall$Tape" "bytes" "[C") ∈ bs_al := bs_al_in (bs_t1 _ (List.mem_of_getElem? (i := 64) rfl)) rfl
theorem fX10_9 : bs_gr "BalloonStall$Tape" 9 10 0 := ⟨⟨by decide, _, rfl, by decide, bsw_1107⟩, fun _ => rfl⟩
theorem pX10_9 : bs_gf "BalloonStall$Tape" 9 10 0 ∧ bs_isr (bs_ty 10 0) ∧ bs_fin "BalloonStall$Tape" 10 0 := ⟨fX10_9.1, Or.inr ⟨_, rfl⟩, fun q h => by have h2 : some _ = some q := h; cases h2; exact ⟨rfl, rfl⟩⟩
theorem bsw_1108 : (Jvm.Cond.fieldLink "BalloonStall$RuleReader" (32 : Nat) "BalloonStall$Tape" "length" "I") ∈ bs_al := bs_al_in (bs_t1 _ (List.mem_of_getElem? (i := 65) rfl)) rfl
theorem fX7_32 : bs_gi "BalloonStall$RuleReader" 32 10 1 := ⟨⟨by decide, _, rfl, by decide, bsw_1108⟩, fun _ => rfl⟩
theorem pX7_32 : bs_gf "BalloonStall$RuleReader" 32 10 1 ∧ bs_ty 10 1 = .int ∧ bs_nfin 10 1 := ⟨fX7_32.1, rfl, fun q h => by have h2 : some _ = some q := h; cases h2; rfl⟩
theorem bsw_1109 : (Jvm.Cond.fieldLink "BalloonStall$FigureReader" (32 : Nat) "BalloonStall$Tape" "length" "I") ∈ bs_al := bs_al_in (bs_t1 _ (List.mem_of_getElem? (i := 66) rfl)) rfl
theorem fX2_32 : bs_gi "BalloonStall$FigureReader" 32 10 1 := ⟨⟨by decide, _, rfl, by decide, bsw_1109⟩, fun _ => rfl⟩
theorem pX2_32 : bs_gf "BalloonStall$FigureReader" 32 10 1 ∧ bs_ty 10 1 = .int ∧ bs_nfin 10 1 := ⟨fX2_32.1, rfl, fun q h => by have h2 : some _ = some q := h; cases h2; rfl⟩
theorem bsw_1110 : (Jvm.Cond.fieldLink "BalloonStall$Tape" (15 : Nat) "BalloonStall$Tape" "length" "I") ∈ bs_al := bs_al_in (bs_t1 _ (List.mem_of_getElem? (i := 67) rfl)) rfl
theorem fX10_15 : bs_gi "BalloonStall$Tape" 15 10 1 := ⟨⟨by decide, _, rfl, by decide, bsw_1110⟩, fun _ => rfl⟩
theorem pX10_15 : bs_gf "BalloonStall$Tape" 15 10 1 ∧ bs_ty 10 1 = .int ∧ bs_nfin 10 1 := ⟨fX10_15.1, rfl, fun q h => by have h2 : some _ = some q := h; cases h2; rfl⟩
theorem bsw_1111 : (Jvm.Cond.fieldLink "BalloonStall" (101 : Nat) "BalloonStall$Tape" "length" "I") ∈ bs_al := bs_al_in (bs_t1 _ (List.mem_of_getElem? (i := 68) rfl)) rfl
theorem fX11_101 : bs_gi "BalloonStall" 101 10 1 := ⟨⟨by decide, _, rfl, by decide, bsw_1111⟩, fun _ => rfl⟩
theorem pX11_101 : bs_gf "BalloonStall" 101 10 1 ∧ bs_ty 10 1 = .int ∧ bs_nfin 10 1 := ⟨fX11_101.1, rfl, fun q h => by have h2 : some _ = some q := h; cases h2; rfl⟩
theorem bsw_1112 : (Jvm.Cond.fieldLink "BalloonStall$Figure" (9 : Nat) "BalloonStall$Figure" "sortOf" "[I") ∈ bs_al := bs_al_in (bs_t1 _ (List.mem_of_getElem? (i := 91) rfl)) rfl
theorem fX1_9 : bs_gr "BalloonStall$Figure" 9 1 0 := ⟨⟨by decide, _, rfl, by decide, bsw_1112⟩, fun _ => rfl⟩
theorem pX1_9 : bs_gf "BalloonStall$Figure" 9 1 0 ∧ bs_isr (bs_ty 1 0) ∧ bs_fin "BalloonStall$Figure" 1 0 := ⟨fX1_9.1, Or.inr ⟨_, rfl⟩, fun q h => by have h2 : some _ = some q := h; cases h2; exact ⟨rfl, rfl⟩⟩
theorem bsw_1113 : (Jvm.Cond.fieldLink "BalloonStall$Stall" (81 : Nat) "BalloonStall$Figure" "sortOf" "[I") ∈ bs_al := bs_al_in (bs_t1 _ (List.mem_of_getElem? (i := 92) rfl)) rfl
theorem fX9_81 : bs_gr "BalloonStall$Stall" 81 1 0 := ⟨⟨by decide, _, rfl, by decide, bsw_1113⟩, fun _ => rfl⟩
theorem bsw_1114 : (Jvm.Cond.fieldLink "BalloonStall$Ageing" (74 : Nat) "BalloonStall$Figure" "sortOf" "[I") ∈ bs_al := bs_al_in (bs_t1 _ (List.mem_of_getElem? (i := 93) rfl)) rfl
theorem fX0_74 : bs_gr "BalloonStall$Ageing" 74 1 0 := ⟨⟨by decide, _, rfl, by decide, bsw_1114⟩, fun _ => rfl⟩
theorem bsw_1115 : (Jvm.Cond.fieldLink "BalloonStall" (193 : Nat) "BalloonStall$Figure" "sortOf" "[I") ∈ bs_al := bs_al_in (bs_t1 _ (List.mem_of_getElem? (i := 94) rfl)) rfl
theorem fX11_193 : bs_gr "BalloonStall" 193 1 0 := ⟨⟨by decide, _, rfl, by decide, bsw_1115⟩, fun _ => rfl⟩
theorem bsw_1116 : (Jvm.Cond.fieldLink "BalloonStall$Figure" (15 : Nat) "BalloonStall$Figure" "length" "[I") ∈ bs_al := bs_al_in (bs_t1 _ (List.mem_of_getElem? (i := 95) rfl)) rfl
theorem fX1_15 : bs_gr "BalloonStall$Figure" 15 1 1 := ⟨⟨by decide, _, rfl, by decide, bsw_1116⟩, fun _ => rfl⟩
theorem pX1_15 : bs_gf "BalloonStall$Figure" 15 1 1 ∧ bs_isr (bs_ty 1 1) ∧ bs_fin "BalloonStall$Figure" 1 1 := ⟨fX1_15.1, Or.inr ⟨_, rfl⟩, fun q h => by have h2 : some _ = some q := h; cases h2; exact ⟨rfl, rfl⟩⟩
theorem bsw_1117 : (Jvm.Cond.fieldLink "BalloonStall$Ageing" (37 : Nat) "BalloonStall$Figure" "length" "[I") ∈ bs_al := bs_al_in (bs_t1 _ (List.mem_of_getElem? (i := 96) rfl)) rfl
theorem fX0_37 : bs_gr "BalloonStall$Ageing" 37 1 1 := ⟨⟨by decide, _, rfl, by decide, bsw_1117⟩, fun _ => rfl⟩
theorem bsw_1118 : (Jvm.Cond.fieldLink "BalloonStall$Maker" (75 : Nat) "BalloonStall$Figure" "length" "[I") ∈ bs_al := bs_al_in (bs_t1 _ (List.mem_of_getElem? (i := 97) rfl)) rfl
theorem fX3_75 : bs_gr "BalloonStall$Maker" 75 1 1 := ⟨⟨by decide, _, rfl, by decide, bsw_1118⟩, fun _ => rfl⟩
theorem bsw_1119 : (Jvm.Cond.fieldLink "BalloonStall$Matcher" (79 : Nat) "BalloonStall$Figure" "length" "[I") ∈ bs_al := bs_al_in (bs_t1 _ (List.mem_of_getElem? (i := 98) rfl)) rfl
theorem fX4_79 : bs_gr "BalloonStall$Matcher" 79 1 1 := ⟨⟨by decide, _, rfl, by decide, bsw_1119⟩, fun _ => rfl⟩
theorem bsw_1120 : (Jvm.Cond.fieldLink "BalloonStall" (182 : Nat) "BalloonStall$Figure" "length" "[I") ∈ bs_al := bs_al_in (bs_t1 _ (List.mem_of_getElem? (i := 99) rfl)) rfl
theorem fX11_182 : bs_gr "BalloonStall" 182 1 1 := ⟨⟨by decide, _, rfl, by decide, bsw_1120⟩, fun _ => rfl⟩
theorem bsw_1121 : (Jvm.Cond.fieldLink "BalloonStall$Net" (75 : Nat) "BalloonStall$Figure" "length" "[I") ∈ bs_al := bs_al_in (bs_t1 _ (List.mem_of_getElem? (i := 100) rfl)) rfl
theorem fX5_75 : bs_gr "BalloonStall$Net" 75 1 1 := ⟨⟨by decide, _, rfl, by decide, bsw_1121⟩, fun _ => rfl⟩
theorem bsw_1122 : (Jvm.Cond.fieldLink "BalloonStall$Figure" (18 : Nat) "BalloonStall$Figure" "from" "[I") ∈ bs_al := bs_al_in (bs_t1 _ (List.mem_of_getElem? (i := 101) rfl)) rfl
theorem fX1_18 : bs_gr "BalloonStall$Figure" 18 1 2 := ⟨⟨by decide, _, rfl, by decide, bsw_1122⟩, fun _ => rfl⟩
theorem pX1_18 : bs_gf "BalloonStall$Figure" 18 1 2 ∧ bs_isr (bs_ty 1 2) ∧ bs_fin "BalloonStall$Figure" 1 2 := ⟨fX1_18.1, Or.inr ⟨_, rfl⟩, fun q h => by have h2 : some _ = some q := h; cases h2; exact ⟨rfl, rfl⟩⟩
theorem bsw_1123 : (Jvm.Cond.fieldLink "BalloonStall$Net" (35 : Nat) "BalloonStall$Figure" "from" "[I") ∈ bs_al := bs_al_in (bs_t1 _ (List.mem_of_getElem? (i := 102) rfl)) rfl
theorem fX5_35 : bs_gr "BalloonStall$Net" 35 1 2 := ⟨⟨by decide, _, rfl, by decide, bsw_1123⟩, fun _ => rfl⟩
theorem bsw_1124 : (Jvm.Cond.fieldLink "BalloonStall$Maker" (76 : Nat) "BalloonStall$Figure" "from" "[I") ∈ bs_al := bs_al_in (bs_t1 _ (List.mem_of_getElem? (i := 103) rfl)) rfl
theorem fX3_76 : bs_gr "BalloonStall$Maker" 76 1 2 := ⟨⟨by decide, _, rfl, by decide, bsw_1124⟩, fun _ => rfl⟩
theorem bsw_1125 : (Jvm.Cond.fieldLink "BalloonStall$Matcher" (73 : Nat) "BalloonStall$Figure" "from" "[I") ∈ bs_al := bs_al_in (bs_t1 _ (List.mem_of_getElem? (i := 104) rfl)) rfl
theorem fX4_73 : bs_gr "BalloonStall$Matcher" 73 1 2 := ⟨⟨by decide, _, rfl, by decide, bsw_1125⟩, fun _ => rfl⟩
theorem bsw_1126 : (Jvm.Cond.fieldLink "BalloonStall" (184 : Nat) "BalloonStall$Figure" "from" "[I") ∈ bs_al := bs_al_in (bs_t1 _ (List.mem_of_getElem? (i := 105) rfl)) rfl
theorem fX11_184 : bs_gr "BalloonStall" 184 1 2 := ⟨⟨by decide, _, rfl, by decide, bsw_1126⟩, fun _ => rfl⟩
theorem bsw_1127 : (Jvm.Cond.fieldLink "BalloonStall$Figure" (21 : Nat) "BalloonStall$Figure" "to" "[I") ∈ bs_al := bs_al_in (bs_t1 _ (List.mem_of_getElem? (i := 106) rfl)) rfl
theorem fX1_21 : bs_gr "BalloonStall$Figure" 21 1 3 := ⟨⟨by decide, _, rfl, by decide, bsw_1127⟩, fun _ => rfl⟩
theorem pX1_21 : bs_gf "BalloonStall$Figure" 21 1 3 ∧ bs_isr (bs_ty 1 3) ∧ bs_fin "BalloonStall$Figure" 1 3 := ⟨fX1_21.1, Or.inr ⟨_, rfl⟩, fun q h => by have h2 : some _ = some q := h; cases h2; exact ⟨rfl, rfl⟩⟩
theorem bsw_1128 : (Jvm.Cond.fieldLink "BalloonStall$Net" (38 : Nat) "BalloonStall$Figure" "to" "[I") ∈ bs_al := bs_al_in (bs_t1 _ (List.mem_of_getElem? (i := 107) rfl)) rfl
theorem fX5_38 : bs_gr "BalloonStall$Net" 38 1 3 := ⟨⟨by decide, _, rfl, by decide, bsw_1128⟩, fun _ => rfl⟩
theorem bsw_1129 : (Jvm.Cond.fieldLink "BalloonStall$Maker" (79 : Nat) "BalloonStall$Figure" "to" "[I") ∈ bs_al := bs_al_in (bs_t1 _ (List.mem_of_getElem? (i := 108) rfl)) rfl
theorem fX3_79 : bs_gr "BalloonStall$Maker" 79 1 3 := ⟨⟨by decide, _, rfl, by decide, bsw_1129⟩, fun _ => rfl⟩
theorem bsw_1130 : (Jvm.Cond.fieldLink "BalloonStall$Matcher" (76 : Nat) "BalloonStall$Figure" "to" "[I") ∈ bs_al := bs_al_in (bs_t1 _ (List.mem_of_getElem? (i := 109) rfl)) rfl
theorem fX4_76 : bs_gr "BalloonStall$Matcher" 76 1 3 := ⟨⟨by decide, _, rfl, by decide, bsw_1130⟩, fun _ => rfl⟩
theorem bsw_1131 : (Jvm.Cond.fieldLink "BalloonStall" (187 : Nat) "BalloonStall$Figure" "to" "[I") ∈ bs_al := bs_al_in (bs_t1 _ (List.mem_of_getElem? (i := 110) rfl)) rfl
theorem fX11_187 : bs_gr "BalloonStall" 187 1 3 := ⟨⟨by decide, _, rfl, by decide, bsw_1131⟩, fun _ => rfl⟩
theorem bsw_1132 : (Jvm.Cond.fieldLink "BalloonStall$Figure" (24 : Nat) "BalloonStall$Figure" "balloonOf" "[I") ∈ bs_al := bs_al_in (bs_t1 _ (List.mem_of_getElem? (i := 111) rfl)) rfl
theorem fX1_24 : bs_gr "BalloonStall$Figure" 24 1 4 := ⟨⟨by decide, _, rfl, by decide, bsw_1132⟩, fun _ => rfl⟩
theorem pX1_24 : bs_gf "BalloonStall$Figure" 24 1 4 ∧ bs_isr (bs_ty 1 4) ∧ bs_fin "BalloonStall$Figure" 1 4 := ⟨fX1_24.1, Or.inr ⟨_, rfl⟩, fun q h => by have h2 : some _ = some q := h; cases h2; exact ⟨rfl, rfl⟩⟩
theorem bsw_1133 : (Jvm.Cond.fieldLink "BalloonStall$Ageing" (77 : Nat) "BalloonStall$Figure" "balloonOf" "[I") ∈ bs_al := bs_al_in (bs_t1 _ (List.mem_of_getElem? (i := 112) rfl)) rfl
theorem fX0_77 : bs_gr "BalloonStall$Ageing" 77 1 4 := ⟨⟨by decide, _, rfl, by decide, bsw_1133⟩, fun _ => rfl⟩
theorem bsw_1134 : (Jvm.Cond.fieldLink "BalloonStall" (190 : Nat) "BalloonStall$Figure" "balloonOf" "[I") ∈ bs_al := bs_al_in (bs_t1 _ (List.mem_of_getElem? (i := 113) rfl)) rfl
theorem fX11_190 : bs_gr "BalloonStall" 190 1 4 := ⟨⟨by decide, _, rfl, by decide, bsw_1134⟩, fun _ => rfl⟩
theorem bsw_1135 : (Jvm.Cond.fieldLink "BalloonStall$Figure" (27 : Nat) "BalloonStall$Figure" "endsAt" "[I") ∈ bs_al := bs_al_in (bs_t1 _ (List.mem_of_getElem? (i := 114) rfl)) rfl
theorem fX1_27 : bs_gr "BalloonStall$Figure" 27 1 5 := ⟨⟨by decide, _, rfl, by decide, bsw_1135⟩, fun _ => rfl⟩
theorem pX1_27 : bs_gf "BalloonStall$Figure" 27 1 5 ∧ bs_isr (bs_ty 1 5) ∧ bs_fin "BalloonStall$Figure" 1 5 := ⟨fX1_27.1, Or.inr ⟨_, rfl⟩, fun q h => by have h2 : some _ = some q := h; cases h2; exact ⟨rfl, rfl⟩⟩
theorem bsw_1136 : (Jvm.Cond.fieldLink "BalloonStall" (201 : Nat) "BalloonStall$Figure" "endsAt" "[I") ∈ bs_al := bs_al_in (bs_t1 _ (List.mem_of_getElem? (i := 115) rfl)) rfl
theorem fX11_201 : bs_gr "BalloonStall" 201 1 5 := ⟨⟨by decide, _, rfl, by decide, bsw_1136⟩, fun _ => rfl⟩
theorem bsw_1137 : (Jvm.Cond.fieldLink "BalloonStall$Matcher" (95 : Nat) "BalloonStall$Figure" "endsAt" "[I") ∈ bs_al := bs_al_in (bs_t1 _ (List.mem_of_getElem? (i := 116) rfl)) rfl
theorem fX4_95 : bs_gr "BalloonStall$Matcher" 95 1 5 := ⟨⟨by decide, _, rfl, by decide, bsw_1137⟩, fun _ => rfl⟩
theorem bsw_1138 : (Jvm.Cond.fieldLink "BalloonStall$Figure" (36 : Nat) "BalloonStall$Figure" "balloons" "I") ∈ bs_al := bs_al_in (bs_t1 _ (List.mem_of_getElem? (i := 117) rfl)) rfl
theorem fX1_36 : bs_gi "BalloonStall$Figure" 36 1 6 := ⟨⟨by decide, _, rfl, by decide, bsw_1138⟩, fun _ => rfl⟩
theorem pX1_36 : bs_gf "BalloonStall$Figure" 36 1 6 ∧ bs_ty 1 6 = .int ∧ bs_nfin 1 6 := ⟨fX1_36.1, rfl, fun q h => by have h2 : some _ = some q := h; cases h2; rfl⟩
theorem bsw_1139 : (Jvm.Cond.fieldLink "BalloonStall$Stall" (76 : Nat) "BalloonStall$Figure" "balloons" "I") ∈ bs_al := bs_al_in (bs_t1 _ (List.mem_of_getElem? (i := 118) rfl)) rfl
theorem fX9_76 : bs_gi "BalloonStall$Stall" 76 1 6 := ⟨⟨by decide, _, rfl, by decide, bsw_1139⟩, fun _ => rfl⟩
theorem pX9_76 : bs_gf "BalloonStall$Stall" 76 1 6 ∧ bs_ty 1 6 = .int ∧ bs_nfin 1 6 := ⟨fX9_76.1, rfl, fun q h => by have h2 : some _ = some q := h; cases h2; rfl⟩
theorem bsw_1140 : (Jvm.Cond.fieldLink "BalloonStall" (147 : Nat) "BalloonStall$Figure" "balloons" "I") ∈ bs_al := bs_al_in (bs_t1 _ (List.mem_of_getElem? (i := 119) rfl)) rfl
theorem fX11_147 : bs_gi "BalloonStall" 147 1 6 := ⟨⟨by decide, _, rfl, by decide, bsw_1140⟩, fun _ => rfl⟩
theorem pX11_147 : bs_gf "BalloonStall" 147 1 6 ∧ bs_ty 1 6 = .int ∧ bs_nfin 1 6 := ⟨fX11_147.1, rfl, fun q h => by have h2 : some _ = some q := h; cases h2; rfl⟩
theorem bsw_1141 : (Jvm.Cond.fieldLink "BalloonStall$FigureReader" (128 : Nat) "BalloonStall$Figure" "balloons" "I") ∈ bs_al := bs_al_in (bs_t1 _ (List.mem_of_getElem? (i := 120) rfl)) rfl
theorem fX2_128 : bs_gi "BalloonStall$FigureReader" 128 1 6 := ⟨⟨by decide, _, rfl, by decide, bsw_1141⟩, fun _ => rfl⟩
theorem pX2_128 : bs_gf "BalloonStall$FigureReader" 128 1 6 ∧ bs_ty 1 6 = .int ∧ bs_nfin 1 6 := ⟨fX2_128.1, rfl, fun q h => by have h2 : some _ = some q := h; cases h2; rfl⟩
theorem bsw_1142 : (Jvm.Cond.fieldLink "BalloonStall$Figure" (40 : Nat) "BalloonStall$Figure" "bubbles" "I") ∈ bs_al := bs_al_in (bs_t1 _ (List.mem_of_getElem? (i := 121) rfl)) rfl
theorem fX1_40 : bs_gi "BalloonStall$Figure" 40 1 7 := ⟨⟨by decide, _, rfl, by decide, bsw_1142⟩, fun _ => rfl⟩
theorem pX1_40 : bs_gf "BalloonStall$Figure" 40 1 7 ∧ bs_ty 1 7 = .int ∧ bs_nfin 1 7 := ⟨fX1_40.1, rfl, fun q h => by have h2 : some _ = some q := h; cases h2; rfl⟩
theorem bsw_1143 : (Jvm.Cond.fieldLink "BalloonStall$Net" (25 : Nat) "BalloonStall$Figure" "bubbles" "I") ∈ bs_al := bs_al_in (bs_t1 _ (List.mem_of_getElem? (i := 122) rfl)) rfl
theorem fX5_25 : bs_gi "BalloonStall$Net" 25 1 7 := ⟨⟨by decide, _, rfl, by decide, bsw_1143⟩, fun _ => rfl⟩
theorem pX5_25 : bs_gf "BalloonStall$Net" 25 1 7 ∧ bs_ty 1 7 = .int ∧ bs_nfin 1 7 := ⟨fX5_25.1, rfl, fun q h => by have h2 : some _ = some q := h; cases h2; rfl⟩
theorem bsw_1144 : (Jvm.Cond.fieldLink "BalloonStall$Matcher" (40 : Nat) "BalloonStall$Figure" "bubbles" "I") ∈ bs_al := bs_al_in (bs_t1 _ (List.mem_of_getElem? (i := 123) rfl)) rfl
theorem fX4_40 : bs_gi "BalloonStall$Matcher" 40 1 7 := ⟨⟨by decide, _, rfl, by decide, bsw_1144⟩, fun _ => rfl⟩
theorem pX4_40 : bs_gf "BalloonStall$Matcher" 40 1 7 ∧ bs_ty 1 7 = .int ∧ bs_nfin 1 7 := ⟨fX4_40.1, rfl, fun q h => by have h2 : some _ = some q := h; cases h2; rfl⟩
theorem bsw_1145 : (Jvm.Cond.fieldLink "BalloonStall$Maker" (85 : Nat) "BalloonStall$Figure" "bubbles" "I") ∈ bs_al := bs_al_in (bs_t1 _ (List.mem_of_getElem? (i := 124) rfl)) rfl
theorem fX3_85 : bs_gi "BalloonStall$Maker" 85 1 7 := ⟨⟨by decide, _, rfl, by decide, bsw_1145⟩, fun _ => rfl⟩
theorem pX3_85 : bs_gf "BalloonStall$Maker" 85 1 7 ∧ bs_ty 1 7 = .int ∧ bs_nfin 1 7 := ⟨fX3_85.1, rfl, fun q h => by have h2 : some _ = some q := h; cases h2; rfl⟩
theorem bsw_1146 : (Jvm.Cond.fieldLink "BalloonStall$Ageing" (64 : Nat) "BalloonStall$Figure" "bubbles" "I") ∈ bs_al := bs_al_in (bs_t1 _ (List.mem_of_getElem? (i := 125) rfl)) rfl
theorem fX0_64 : bs_gi "BalloonStall$Ageing" 64 1 7 := ⟨⟨by decide, _, rfl, by decide, bsw_1146⟩, fun _ => rfl⟩
theorem pX0_64 : bs_gf "BalloonStall$Ageing" 64 1 7 ∧ bs_ty 1 7 = .int ∧ bs_nfin 1 7 := ⟨fX0_64.1, rfl, fun q h => by have h2 : some _ = some q := h; cases h2; rfl⟩
theorem bsw_1147 : (Jvm.Cond.fieldLink "BalloonStall$FigureReader" (101 : Nat) "BalloonStall$Figure" "bubbles" "I") ∈ bs_al := bs_al_in (bs_t1 _ (List.mem_of_getElem? (i := 126) rfl)) rfl
theorem fX2_101 : bs_gi "BalloonStall$FigureReader" 101 1 7 := ⟨⟨by decide, _, rfl, by decide, bsw_1147⟩, fun _ => rfl⟩
theorem pX2_101 : bs_gf "BalloonStall$FigureReader" 101 1 7 ∧ bs_ty 1 7 = .int ∧ bs_nfin 1 7 := ⟨fX2_101.1, rfl, fun q h => by have h2 : some _ = some q := h; cases h2; rfl⟩
theorem bsw_1148 : (Jvm.Cond.fieldLink "BalloonStall" (150 : Nat) "BalloonStall$Figure" "bubbles" "I") ∈ bs_al := bs_al_in (bs_t1 _ (List.mem_of_getElem? (i := 127) rfl)) rfl
theorem fX11_150 : bs_gi "BalloonStall" 150 1 7 := ⟨⟨by decide, _, rfl, by decide, bsw_1148⟩, fun _ => rfl⟩
theorem pX11_150 : bs_gf "BalloonStall" 150 1 7 ∧ bs_ty 1 7 = .int ∧ bs_nfin 1 7 := ⟨fX11_150.1, rfl, fun q h => by have h2 : some _ = some q := h; cases h2; rfl⟩
theorem bsw_1149 : (Jvm.Cond.fieldLink "BalloonStall$Matcher" (27 : Nat) "BalloonStall$Figure" "points" "I") ∈ bs_al := bs_al_in (bs_t1 _ (List.mem_of_getElem? (i := 128) rfl)) rfl
theorem fX4_27 : bs_gi "BalloonStall$Matcher" 27 1 8 := ⟨⟨by decide, _, rfl, by decide, bsw_1149⟩, fun _ => rfl⟩
theorem pX4_27 : bs_gf "BalloonStall$Matcher" 27 1 8 ∧ bs_ty 1 8 = .int ∧ bs_nfin 1 8 := ⟨fX4_27.1, rfl, fun q h => by have h2 : some _ = some q := h; cases h2; rfl⟩
theorem bsw_1150 : (Jvm.Cond.fieldLink "BalloonStall$Figure" (43 : Nat) "BalloonStall$Figure" "points" "I") ∈ bs_al := bs_al_in (bs_t1 _ (List.mem_of_getElem? (i := 129) rfl)) rfl
theorem fX1_43 : bs_gi "BalloonStall$Figure" 43 1 8 := ⟨⟨by decide, _, rfl, by decide, bsw_1150⟩, fun _ => rfl⟩
theorem pX1_43 : bs_gf "BalloonStall$Figure" 43 1 8 ∧ bs_ty 1 8 = .int ∧ bs_nfin 1 8 := ⟨fX1_43.1, rfl, fun q h => by have h2 : some _ = some q := h; cases h2; rfl⟩
theorem bsw_1151 : (Jvm.Cond.fieldLink "BalloonStall$Net" (61 : Nat) "BalloonStall$Figure" "points" "I") ∈ bs_al := bs_al_in (bs_t1 _ (List.mem_of_getElem? (i := 130) rfl)) rfl
theorem fX5_61 : bs_gi "BalloonStall$Net" 61 1 8 := ⟨⟨by decide, _, rfl, by decide, bsw_1151⟩, fun _ => rfl⟩
theorem pX5_61 : bs_gf "BalloonStall$Net" 61 1 8 ∧ bs_ty 1 8 = .int ∧ bs_nfin 1 8 := ⟨fX5_61.1, rfl, fun q h => by have h2 : some _ = some q := h; cases h2; rfl⟩
theorem bsw_1152 : (Jvm.Cond.fieldLink "BalloonStall" (153 : Nat) "BalloonStall$Figure" "points" "I") ∈ bs_al := bs_al_in (bs_t1 _ (List.mem_of_getElem? (i := 131) rfl)) rfl
theorem fX11_153 : bs_gi "BalloonStall" 153 1 8 := ⟨⟨by decide, _, rfl, by decide, bsw_1152⟩, fun _ => rfl⟩
theorem pX11_153 : bs_gf "BalloonStall" 153 1 8 ∧ bs_ty 1 8 = .int ∧ bs_nfin 1 8 := ⟨fX11_153.1, rfl, fun q h => by have h2 : some _ = some q := h; cases h2; rfl⟩
theorem bsw_1153 : (Jvm.Cond.fieldLink "BalloonStall$FigureReader" (131 : Nat) "BalloonStall$Figure" "points" "I") ∈ bs_al := bs_al_in (bs_t1 _ (List.mem_of_getElem? (i := 132) rfl)) rfl
theorem fX2_131 : bs_gi "BalloonStall$FigureReader" 131 1 8 := ⟨⟨by decide, _, rfl, by decide, bsw_1153⟩, fun _ => rfl⟩
theorem pX2_131 : bs_gf "BalloonStall$FigureReader" 131 1 8 ∧ bs_ty 1 8 = .int ∧ bs_nfin 1 8 := ⟨fX2_131.1, rfl, fun q h => by have h2 : some _ = some q := h; cases h2; rfl⟩
theorem bsw_1154 : (Jvm.Cond.fieldLink "BalloonStall$Figure" (46 : Nat) "BalloonStall$Figure" "mostHeld" "I") ∈ bs_al := bs_al_in (bs_t1 _ (List.mem_of_getElem? (i := 133) rfl)) rfl
theorem fX1_46 : bs_gi "BalloonStall$Figure" 46 1 9 := ⟨⟨by decide, _, rfl, by decide, bsw_1154⟩, fun _ => rfl⟩
theorem pX1_46 : bs_gf "BalloonStall$Figure" 46 1 9 ∧ bs_ty 1 9 = .int ∧ bs_nfin 1 9 := ⟨fX1_46.1, rfl, fun q h => by have h2 : some _ = some q := h; cases h2; rfl⟩
theorem bsw_1155 : (Jvm.Cond.fieldLink "BalloonStall" (225 : Nat) "BalloonStall$Figure" "mostHeld" "I") ∈ bs_al := bs_al_in (bs_t1 _ (List.mem_of_getElem? (i := 134) rfl)) rfl
theorem fX11_225 : bs_gi "BalloonStall" 225 1 9 := ⟨⟨by decide, _, rfl, by decide, bsw_1155⟩, fun _ => rfl⟩
theorem pX11_225 : bs_gf "BalloonStall" 225 1 9 ∧ bs_ty 1 9 = .int ∧ bs_nfin 1 9 := ⟨fX11_225.1, rfl, fun q h => by have h2 : some _ = some q := h; cases h2; rfl⟩
theorem bsw_1156 : (Jvm.Cond.fieldLink "BalloonStall$FigureReader" (12 : Nat) "BalloonStall$FigureReader" "draft" "LBalloonStall$Figure;") ∈ bs_al := bs_al_in (bs_t1 _ (List.mem_of_getElem? (i := 156) rfl)) rfl
theorem fX2_12 : bs_gr "BalloonStall$FigureReader" 12 2 0 := ⟨⟨by decide, _, rfl, by decide, bsw_1156⟩, fun _ => rfl⟩
theorem pX2_12 : bs_gf "BalloonStall$FigureReader" 12 2 0 ∧ bs_isr (bs_ty 2 0) ∧ bs_fin "BalloonStall$FigureReader" 2 0 := ⟨fX2_12.1, Or.inl ⟨_, rfl⟩, fun q h => by have h2 : some _ = some q := h; cases h2; exact ⟨rfl, rfl⟩⟩
theorem bsw_1157 : (Jvm.Cond.fieldLink "BalloonStall" (123 : Nat) "BalloonStall$FigureReader" "draft" "LBalloonStall$Figure;") ∈ bs_al := bs_al_in (bs_t1 _ (List.mem_of_getElem? (i := 157) rfl)) rfl
theorem fX11_123 : bs_gr "BalloonStall" 123 2 0 := ⟨⟨by decide, _, rfl, by decide, bsw_1157⟩, fun _ => rfl⟩
theorem bsw_1158 : (Jvm.Cond.fieldLink "BalloonStall$FigureReader" (18 : Nat) "BalloonStall$FigureReader" "numbers" "[I") ∈ bs_al := bs_al_in (bs_t1 _ (List.mem_of_getElem? (i := 158) rfl)) rfl
theorem fX2_18 : bs_gr "BalloonStall$FigureReader" 18 2 1 := ⟨⟨by decide, _, rfl, by decide, bsw_1158⟩, fun _ => rfl⟩
theorem pX2_18 : bs_gf "BalloonStall$FigureReader" 18 2 1 ∧ bs_isr (bs_ty 2 1) ∧ bs_fin "BalloonStall$FigureReader" 2 1 := ⟨fX2_18.1, Or.inr ⟨_, rfl⟩, fun q h => by have h2 : some _ = some q := h; cases h2; exact ⟨rfl, rfl⟩⟩
theorem bsw_1159 : (Jvm.Cond.fieldLink "BalloonStall$FigureReader" (22 : Nat) "BalloonStall$FigureReader" "named" "[I") ∈ bs_al := bs_al_in (bs_t1 _ (List.mem_of_getElem? (i := 159) rfl)) rfl
theorem fX2_22 : bs_gr "BalloonStall$FigureReader" 22 2 2 := ⟨⟨by decide, _, rfl, by decide, bsw_1159⟩, fun _ => rfl⟩
theorem pX2_22 : bs_gf "BalloonStall$FigureReader" 22 2 2 ∧ bs_isr (bs_ty 2 2) ∧ bs_fin "BalloonStall$FigureReader" 2 2 := ⟨fX2_22.1, Or.inr ⟨_, rfl⟩, fun q h => by have h2 : some _ = some q := h; cases h2; exact ⟨rfl, rfl⟩⟩
theorem bsw_1160 : (Jvm.Cond.fieldLink "BalloonStall$FigureReader" (25 : Nat) "BalloonStall$FigureReader" "opened" "[I") ∈ bs_al := bs_al_in (bs_t1 _ (List.mem_of_getElem? (i := 160) rfl)) rfl
theorem fX2_25 : bs_gr "BalloonStall$FigureReader" 25 2 3 := ⟨⟨by decide, _, rfl, by decide, bsw_1160⟩, fun _ => rfl⟩
theorem pX2_25 : bs_gf "BalloonStall$FigureReader" 25 2 3 ∧ bs_isr (bs_ty 2 3) ∧ bs_fin "BalloonStall$FigureReader" 2 3 := ⟨fX2_25.1, Or.inr ⟨_, rfl⟩, fun q h => by have h2 : some _ = some q := h; cases h2; exact ⟨rfl, rfl⟩⟩
theorem bsw_1161 : (Jvm.Cond.fieldLink "BalloonStall$FigureReader" (73 : Nat) "BalloonStall$FigureReader" "sorts" "I") ∈ bs_al := bs_al_in (bs_t1 _ (List.mem_of_getElem? (i := 161) rfl)) rfl
theorem fX2_73 : bs_gi "BalloonStall$FigureReader" 73 2 4 := ⟨⟨by decide, _, rfl, by decide, bsw_1161⟩, fun _ => rfl⟩
theorem pX2_73 : bs_gf "BalloonStall$FigureReader" 73 2 4 ∧ bs_ty 2 4 = .int ∧ bs_nfin 2 4 := ⟨fX2_73.1, rfl, fun q h => by have h2 : some _ = some q := h; cases h2; rfl⟩
theorem bsw_1162 : (Jvm.Cond.fieldLink "BalloonStall$FigureReader" (50 : Nat) "BalloonStall$FigureReader" "place" "I") ∈ bs_al := bs_al_in (bs_t1 _ (List.mem_of_getElem? (i := 162) rfl)) rfl
theorem fX2_50 : bs_gi "BalloonStall$FigureReader" 50 2 5 := ⟨⟨by decide, _, rfl, by decide, bsw_1162⟩, fun _ => rfl⟩
theorem pX2_50 : bs_gf "BalloonStall$FigureReader" 50 2 5 ∧ bs_ty 2 5 = .int ∧ bs_nfin 2 5 := ⟨fX2_50.1, rfl, fun q h => by have h2 : some _ = some q := h; cases h2; rfl⟩
theorem bsw_1163 : (Jvm.Cond.fieldLink "BalloonStall$FigureReader" (76 : Nat) "BalloonStall$FigureReader" "here" "I") ∈ bs_al := bs_al_in (bs_t1 _ (List.mem_of_getElem? (i := 163) rfl)) rfl
theorem fX2_76 : bs_gi "BalloonStall$FigureReader" 76 2 6 := ⟨⟨by decide, _, rfl, by decide, bsw_1163⟩, fun _ => rfl⟩
theorem pX2_76 : bs_gf "BalloonStall$FigureReader" 76 2 6 ∧ bs_ty 2 6 = .int ∧ bs_nfin 2 6 := ⟨fX2_76.1, rfl, fun q h => by have h2 : some _ = some q := h; cases h2; rfl⟩
theorem bsw_1164 : (Jvm.Cond.fieldLink "BalloonStall$FigureReader" (57 : Nat) "BalloonStall$FigureReader" "nested" "I") ∈ bs_al := bs_al_in (bs_t1 _ (List.mem_of_getElem? (i := 164) rfl)) rfl
theorem fX2_57 : bs_gi "BalloonStall$FigureReader" 57 2 7 := ⟨⟨by decide, _, rfl, by decide, bsw_1164⟩, fun _ => rfl⟩
theorem pX2_57 : bs_gf "BalloonStall$FigureReader" 57 2 7 ∧ bs_ty 2 7 = .int ∧ bs_nfin 2 7 := ⟨fX2_57.1, rfl, fun q h => by have h2 : some _ = some q := h; cases h2; rfl⟩
theorem bsw_1165 : (Jvm.Cond.fieldLink "BalloonStall$FigureReader" (79 : Nat) "BalloonStall$FigureReader" "digits" "I") ∈ bs_al := bs_al_in (bs_t1 _ (List.mem_of_getElem? (i := 165) rfl)) rfl
theorem fX2_79 : bs_gi "BalloonStall$FigureReader" 79 2 8 := ⟨⟨by decide, _, rfl, by decide, bsw_1165⟩, fun _ => rfl⟩
theorem pX2_79 : bs_gf "BalloonStall$FigureReader" 79 2 8 ∧ bs_ty 2 8 = .int ∧ bs_nfin 2 8 := ⟨fX2_79.1, rfl, fun q h => by have h2 : some _ = some q := h; cases h2; rfl⟩
theorem bsw_1166 : (Jvm.Cond.fieldLink "BalloonStall$FigureReader" (82 : Nat) "BalloonStall$FigureReader" "value" "I") ∈ bs_al := bs_al_in (bs_t1 _ (List.mem_of_getElem? (i := 166) rfl)) rfl
theorem fX2_82 : bs_gi "BalloonStall$FigureReader" 82 2 9 := ⟨⟨by decide, _, rfl, by decide, bsw_1166⟩, fun _ => rfl⟩
theorem pX2_82 : bs_gf "BalloonStall$FigureReader" 82 2 9 ∧ bs_ty 2 9 = .int ∧ bs_nfin 2 9 := ⟨fX2_82.1, rfl, fun q h => by have h2 : some _ = some q := h; cases h2; rfl⟩
theorem bsw_1167 : (Jvm.Cond.fieldLink "BalloonStall$FigureReader" (53 : Nat) "BalloonStall$FigureReader" "moveDue" "Z") ∈ bs_al := bs_al_in (bs_t1 _ (List.mem_of_getElem? (i := 167) rfl)) rfl
theorem fX2_53 : bs_gi "BalloonStall$FigureReader" 53 2 10 := ⟨⟨by decide, _, rfl, by decide, bsw_1167⟩, fun _ => rfl⟩
theorem pX2_53 : bs_gf "BalloonStall$FigureReader" 53 2 10 ∧ bs_ty 2 10 = .boolean ∧ bs_nfin 2 10 := ⟨fX2_53.1, rfl, fun q h => by have h2 : some _ = some q := h; cases h2; rfl⟩
theorem bsw_1168 : (Jvm.Cond.fieldLink "BalloonStall$Rule" (11 : Nat) "BalloonStall$Rule" "steps" "[I") ∈ bs_al := bs_al_in (bs_t1 _ (List.mem_of_getElem? (i := 203) rfl)) rfl
theorem fX6_11 : bs_gr "BalloonStall$Rule" 11 6 0 := ⟨⟨by decide, _, rfl, by decide, bsw_1168⟩, fun _ => rfl⟩
theorem pX6_11 : bs_gf "BalloonStall$Rule" 11 6 0 ∧ bs_isr (bs_ty 6 0) ∧ bs_fin "BalloonStall$Rule" 6 0 := ⟨fX6_11.1, Or.inr ⟨_, rfl⟩, fun q h => by have h2 : some _ = some q := h; cases h2; exact ⟨rfl, rfl⟩⟩
theorem bsw_1169 : (Jvm.Cond.fieldLink "BalloonStall$RuleReader" (89 : Nat) "BalloonStall$Rule" "steps" "[I") ∈ bs_al := bs_al_in (bs_t1 _ (List.mem_of_getElem? (i := 204) rfl)) rfl
theorem fX7_89 : bs_gr "BalloonStall$RuleReader" 89 6 0 := ⟨⟨by decide, _, rfl, by decide, bsw_1169⟩, fun _ => rfl⟩
theorem bsw_1170 : (Jvm.Cond.fieldLink "BalloonStall$Rule" (21 : Nat) "BalloonStall$Rule" "size" "I") ∈ bs_al := bs_al_in (bs_t1 _ (List.mem_of_getElem? (i := 205) rfl)) rfl
theorem fX6_21 : bs_gi "BalloonStall$Rule" 21 6 1 := ⟨⟨by decide, _, rfl, by decide, bsw_1170⟩, fun _ => rfl⟩
theorem pX6_21 : bs_gf "BalloonStall$Rule" 21 6 1 ∧ bs_ty 6 1 = .int ∧ bs_nfin 6 1 := ⟨fX6_21.1, rfl, fun q h => by have h2 : some _ = some q := h; cases h2; rfl⟩
theorem bsw_1171 : (Jvm.Cond.fieldLink "BalloonStall$RuleReader" (53 : Nat) "BalloonStall$Rule" "size" "I") ∈ bs_al := bs_al_in (bs_t1 _ (List.mem_of_getElem? (i := 206) rfl)) rfl
theorem fX7_53 : bs_gi "BalloonStall$RuleReader" 53 6 1 := ⟨⟨by decide, _, rfl, by decide, bsw_1171⟩, fun _ => rfl⟩
theorem pX7_53 : bs_gf "BalloonStall$RuleReader" 53 6 1 ∧ bs_ty 6 1 = .int ∧ bs_nfin 6 1 := ⟨fX7_53.1, rfl, fun q h => by have h2 : some _ = some q := h; cases h2; rfl⟩
theorem bsw_1172 : (Jvm.Cond.fieldLink "BalloonStall$RuleReader" (12 : Nat) "BalloonStall$RuleReader" "draft" "LBalloonStall$Rule;") ∈ bs_al := bs_al_in (bs_t1 _ (List.mem_of_getElem? (i := 212) rfl)) rfl
theorem fX7_12 : bs_gr "BalloonStall$RuleReader" 12 7 0 := ⟨⟨by decide, _, rfl, by decide, bsw_1172⟩, fun _ => rfl⟩
theorem pX7_12 : bs_gf "BalloonStall$RuleReader" 12 7 0 ∧ bs_isr (bs_ty 7 0) ∧ bs_fin "BalloonStall$RuleReader" 7 0 := ⟨fX7_12.1, Or.inl ⟨_, rfl⟩, fun q h => by have h2 : some _ = some q := h; cases h2; exact ⟨rfl, rfl⟩⟩
theorem bsw_1173 : (Jvm.Cond.fieldLink "BalloonStall" (137 : Nat) "BalloonStall$RuleReader" "draft" "LBalloonStall$Rule;") ∈ bs_al := bs_al_in (bs_t1 _ (List.mem_of_getElem? (i := 213) rfl)) rfl
theorem fX11_137 : bs_gr "BalloonStall" 137 7 0 := ⟨⟨by decide, _, rfl, by decide, bsw_1173⟩, fun _ => rfl⟩
theorem bsw_1174 : (Jvm.Cond.fieldLink "BalloonStall$RuleReader" (18 : Nat) "BalloonStall$RuleReader" "values" "[J") ∈ bs_al := bs_al_in (bs_t1 _ (List.mem_of_getElem? (i := 214) rfl)) rfl
theorem fX7_18 : bs_gr "BalloonStall$RuleReader" 18 7 1 := ⟨⟨by decide, _, rfl, by decide, bsw_1174⟩, fun _ => rfl⟩
theorem pX7_18 : bs_gf "BalloonStall$RuleReader" 18 7 1 ∧ bs_isr (bs_ty 7 1) ∧ bs_fin "BalloonStall$RuleReader" 7 1 := ⟨fX7_18.1, Or.inr ⟨_, rfl⟩, fun q h => by have h2 : some _ = some q := h; cases h2; exact ⟨rfl, rfl⟩⟩
theorem bsw_1175 : (Jvm.Cond.fieldLink "BalloonStall" (337 : Nat) "BalloonStall$RuleReader" "values" "[J") ∈ bs_al := bs_al_in (bs_t1 _ (List.mem_of_getElem? (i := 215) rfl)) rfl
theorem fX11_337 : bs_gr "BalloonStall" 337 7 1 := ⟨⟨by decide, _, rfl, by decide, bsw_1175⟩, fun _ => rfl⟩
theorem bsw_1176 : (Jvm.Cond.fieldLink "BalloonStall$RuleReader" (22 : Nat) "BalloonStall$RuleReader" "waiting" "[I") ∈ bs_al := bs_al_in (bs_t1 _ (List.mem_of_getElem? (i := 216) rfl)) rfl
theorem fX7_22 : bs_gr "BalloonStall$RuleReader" 22 7 2 := ⟨⟨by decide, _, rfl, by decide, bsw_1176⟩, fun _ => rfl⟩
theorem pX7_22 : bs_gf "BalloonStall$RuleReader" 22 7 2 ∧ bs_isr (bs_ty 7 2) ∧ bs_fin "BalloonStall$RuleReader" 7 2 := ⟨fX7_22.1, Or.inr ⟨_, rfl⟩, fun q h => by have h2 : some _ = some q := h; cases h2; exact ⟨rfl, rfl⟩⟩
theorem bsw_1177 : (Jvm.Cond.fieldLink "BalloonStall$RuleReader" (26 : Nat) "BalloonStall$RuleReader" "kindOutside" "[I") ∈ bs_al := bs_al_in (bs_t1 _ (List.mem_of_getElem? (i := 217) rfl)) rfl
theorem fX7_26 : bs_gr "BalloonStall$RuleReader" 26 7 3 := ⟨⟨by decide, _, rfl, by decide, bsw_1177⟩, fun _ => rfl⟩
theorem pX7_26 : bs_gf "BalloonStall$RuleReader" 26 7 3 ∧ bs_isr (bs_ty 7 3) ∧ bs_fin "BalloonStall$RuleReader" 7 3 := ⟨fX7_26.1, Or.inr ⟨_, rfl⟩, fun q h => by have h2 : some _ = some q := h; cases h2; exact ⟨rfl, rfl⟩⟩
theorem bsw_1178 : (Jvm.Cond.fieldLink "BalloonStall$RuleReader" (56 : Nat) "BalloonStall$RuleReader" "waits" "I") ∈ bs_al := bs_al_in (bs_t1 _ (List.mem_of_getElem? (i := 218) rfl)) rfl
theorem fX7_56 : bs_gi "BalloonStall$RuleReader" 56 7 4 := ⟨⟨by decide, _, rfl, by decide, bsw_1178⟩, fun _ => rfl⟩
theorem pX7_56 : bs_gf "BalloonStall$RuleReader" 56 7 4 ∧ bs_ty 7 4 = .int ∧ bs_nfin 7 4 := ⟨fX7_56.1, rfl, fun q h => by have h2 : some _ = some q := h; cases h2; rfl⟩
theorem bsw_1179 : (Jvm.Cond.fieldLink "BalloonStall$RuleReader" (46 : Nat) "BalloonStall$RuleReader" "place" "I") ∈ bs_al := bs_al_in (bs_t1 _ (List.mem_of_getElem? (i := 219) rfl)) rfl
theorem fX7_46 : bs_gi "BalloonStall$RuleReader" 46 7 5 := ⟨⟨by decide, _, rfl, by decide, bsw_1179⟩, fun _ => rfl⟩
theorem pX7_46 : bs_gf "BalloonStall$RuleReader" 46 7 5 ∧ bs_ty 7 5 = .int ∧ bs_nfin 7 5 := ⟨fX7_46.1, rfl, fun q h => by have h2 : some _ = some q := h; cases h2; rfl⟩
theorem bsw_1180 : (Jvm.Cond.fieldLink "BalloonStall$RuleReader" (59 : Nat) "BalloonStall$RuleReader" "kind" "I") ∈ bs_al := bs_al_in (bs_t1 _ (List.mem_of_getElem? (i := 220) rfl)) rfl
theorem fX7_59 : bs_gi "BalloonStall$RuleReader" 59 7 6 := ⟨⟨by decide, _, rfl, by decide, bsw_1180⟩, fun _ => rfl⟩
theorem pX7_59 : bs_gf "BalloonStall$RuleReader" 59 7 6 ∧ bs_ty 7 6 = .int ∧ bs_nfin 7 6 := ⟨fX7_59.1, rfl, fun q h => by have h2 : some _ = some q := h; cases h2; rfl⟩
theorem bsw_1181 : (Jvm.Cond.fieldLink "BalloonStall$RuleReader" (62 : Nat) "BalloonStall$RuleReader" "nested" "I") ∈ bs_al := bs_al_in (bs_t1 _ (List.mem_of_getElem? (i := 221) rfl)) rfl
theorem fX7_62 : bs_gi "BalloonStall$RuleReader" 62 7 7 := ⟨⟨by decide, _, rfl, by decide, bsw_1181⟩, fun _ => rfl⟩
theorem pX7_62 : bs_gf "BalloonStall$RuleReader" 62 7 7 ∧ bs_ty 7 7 = .int ∧ bs_nfin 7 7 := ⟨fX7_62.1, rfl, fun q h => by have h2 : some _ = some q := h; cases h2; rfl⟩
theorem bsw_1182 : (Jvm.Cond.fieldLink "BalloonStall$RuleReader" (65 : Nat) "BalloonStall$RuleReader" "parens" "I") ∈ bs_al := bs_al_in (bs_t1 _ (List.mem_of_getElem? (i := 222) rfl)) rfl
theorem fX7_65 : bs_gi "BalloonStall$RuleReader" 65 7 8 := ⟨⟨by decide, _, rfl, by decide, bsw_1182⟩, fun _ => rfl⟩
theorem pX7_65 : bs_gf "BalloonStall$RuleReader" 65 7 8 ∧ bs_ty 7 8 = .int ∧ bs_nfin 7 8 := ⟨fX7_65.1, rfl, fun q h => by have h2 : some _ = some q := h; cases h2; rfl⟩
theorem bsw_1183 : (Jvm.Cond.fieldLink "BalloonStall$RuleReader" (68 : Nat) "BalloonStall$RuleReader" "digits" "I") ∈ bs_al := bs_al_in (bs_t1 _ (List.mem_of_getElem? (i := 223) rfl)) rfl
theorem fX7_68 : bs_gi "BalloonStall$RuleReader" 68 7 9 := ⟨⟨by decide, _, rfl, by decide, bsw_1183⟩, fun _ => rfl⟩
theorem pX7_68 : bs_gf "BalloonStall$RuleReader" 68 7 9 ∧ bs_ty 7 9 = .int ∧ bs_nfin 7 9 := ⟨fX7_68.1, rfl, fun q h => by have h2 : some _ = some q := h; cases h2; rfl⟩
theorem bsw_1184 : (Jvm.Cond.fieldLink "BalloonStall$RuleReader" (71 : Nat) "BalloonStall$RuleReader" "jump" "I") ∈ bs_al := bs_al_in (bs_t1 _ (List.mem_of_getElem? (i := 224) rfl)) rfl
theorem fX7_71 : bs_gi "BalloonStall$RuleReader" 71 7 10 := ⟨⟨by decide, _, rfl, by decide, bsw_1184⟩, fun _ => rfl⟩
theorem pX7_71 : bs_gf "BalloonStall$RuleReader" 71 7 10 ∧ bs_ty 7 10 = .int ∧ bs_nfin 7 10 := ⟨fX7_71.1, rfl, fun q h => by have h2 : some _ = some q := h; cases h2; rfl⟩
theorem bsw_1185 : (Jvm.Cond.fieldLink "BalloonStall$Net" (9 : Nat) "BalloonStall$Net" "away" "[I") ∈ bs_al := bs_al_in (bs_t2 _ (List.mem_of_getElem? (i := 15) rfl)) rfl
theorem fX5_9 : bs_gr "BalloonStall$Net" 9 5 0 := ⟨⟨by decide, _, rfl, by decide, bsw_1185⟩, fun _ => rfl⟩
theorem pX5_9 : bs_gf "BalloonStall$Net" 9 5 0 ∧ bs_isr (bs_ty 5 0) ∧ bs_fin "BalloonStall$Net" 5 0 := ⟨fX5_9.1, Or.inr ⟨_, rfl⟩, fun q h => by have h2 : some _ = some q := h; cases h2; exact ⟨rfl, rfl⟩⟩
theorem bsw_1186 : (Jvm.Cond.fieldLink "BalloonStall" (268 : Nat) "BalloonStall$Net" "away" "[I") ∈ bs_al := bs_al_in (bs_t2 _ (List.mem_of_getElem? (i := 16) rfl)) rfl
theorem fX11_268 : bs_gr "BalloonStall" 268 5 0 := ⟨⟨by decide, _, rfl, by decide, bsw_1186⟩, fun _ => rfl⟩
theorem bsw_1187 : (Jvm.Cond.fieldLink "BalloonStall$Net" (15 : Nat) "BalloonStall$Net" "live" "[I") ∈ bs_al := bs_al_in (bs_t2 _ (List.mem_of_getElem? (i := 17) rfl)) rfl
theorem fX5_15 : bs_gr "BalloonStall$Net" 15 5 1 := ⟨⟨by decide, _, rfl, by decide, bsw_1187⟩, fun _ => rfl⟩
theorem pX5_15 : bs_gf "BalloonStall$Net" 15 5 1 ∧ bs_isr (bs_ty 5 1) ∧ bs_fin "BalloonStall$Net" 5 1 := ⟨fX5_15.1, Or.inr ⟨_, rfl⟩, fun q h => by have h2 : some _ = some q := h; cases h2; exact ⟨rfl, rfl⟩⟩
theorem bsw_1188 : (Jvm.Cond.fieldLink "BalloonStall$Net" (18 : Nat) "BalloonStall$Net" "group" "[I") ∈ bs_al := bs_al_in (bs_t2 _ (List.mem_of_getElem? (i := 18) rfl)) rfl
theorem fX5_18 : bs_gr "BalloonStall$Net" 18 5 2 := ⟨⟨by decide, _, rfl, by decide, bsw_1188⟩, fun _ => rfl⟩
theorem pX5_18 : bs_gf "BalloonStall$Net" 18 5 2 ∧ bs_isr (bs_ty 5 2) ∧ bs_fin "BalloonStall$Net" 5 2 := ⟨fX5_18.1, Or.inr ⟨_, rfl⟩, fun q h => by have h2 : some _ = some q := h; cases h2; exact ⟨rfl, rfl⟩⟩
theorem bsw_1189 : (Jvm.Cond.fieldLink "BalloonStall$Matcher" (11 : Nat) "BalloonStall$Matcher" "row" "[I") ∈ bs_al := bs_al_in (bs_t2 _ (List.mem_of_getElem? (i := 32) rfl)) rfl
theorem fX4_11 : bs_gr "BalloonStall$Matcher" 11 4 0 := ⟨⟨by decide, _, rfl, by decide, bsw_1189⟩, fun _ => rfl⟩
theorem pX4_11 : bs_gf "BalloonStall$Matcher" 11 4 0 ∧ bs_isr (bs_ty 4 0) ∧ bs_fin "BalloonStall$Matcher" 4 0 := ⟨fX4_11.1, Or.inr ⟨_, rfl⟩, fun q h => by have h2 : some _ = some q := h; cases h2; exact ⟨rfl, rfl⟩⟩
theorem bsw_1190 : (Jvm.Cond.fieldLink "BalloonStall" (261 : Nat) "BalloonStall$Matcher" "row" "[I") ∈ bs_al := bs_al_in (bs_t2 _ (List.mem_of_getElem? (i := 33) rfl)) rfl
theorem fX11_261 : bs_gr "BalloonStall" 261 4 0 := ⟨⟨by decide, _, rfl, by decide, bsw_1190⟩, fun _ => rfl⟩
theorem bsw_1191 : (Jvm.Cond.fieldLink "BalloonStall$Matcher" (15 : Nat) "BalloonStall$Matcher" "firstKinds" "[I") ∈ bs_al := bs_al_in (bs_t2 _ (List.mem_of_getElem? (i := 34) rfl)) rfl
theorem fX4_15 : bs_gr "BalloonStall$Matcher" 15 4 1 := ⟨⟨by decide, _, rfl, by decide, bsw_1191⟩, fun _ => rfl⟩
theorem pX4_15 : bs_gf "BalloonStall$Matcher" 15 4 1 ∧ bs_isr (bs_ty 4 1) ∧ bs_fin "BalloonStall$Matcher" 4 1 := ⟨fX4_15.1, Or.inr ⟨_, rfl⟩, fun q h => by have h2 : some _ = some q := h; cases h2; exact ⟨rfl, rfl⟩⟩
theorem bsw_1192 : (Jvm.Cond.fieldLink "BalloonStall$Matcher" (18 : Nat) "BalloonStall$Matcher" "secondKinds" "[I") ∈ bs_al := bs_al_in (bs_t2 _ (List.mem_of_getElem? (i := 35) rfl)) rfl
theorem fX4_18 : bs_gr "BalloonStall$Matcher" 18 4 2 := ⟨⟨by decide, _, rfl, by decide, bsw_1192⟩, fun _ => rfl⟩
theorem pX4_18 : bs_gf "BalloonStall$Matcher" 18 4 2 ∧ bs_isr (bs_ty 4 2) ∧ bs_fin "BalloonStall$Matcher" 4 2 := ⟨fX4_18.1, Or.inr ⟨_, rfl⟩, fun q h => by have h2 : some _ = some q := h; cases h2; exact ⟨rfl, rfl⟩⟩
theorem bsw_1193 : (Jvm.Cond.fieldLink "BalloonStall$Matcher" (21 : Nat) "BalloonStall$Matcher" "kindBefore" "[I") ∈ bs_al := bs_al_in (bs_t2 _ (List.mem_of_getElem? (i := 36) rfl)) rfl
theorem fX4_21 : bs_gr "BalloonStall$Matcher" 21 4 3 := ⟨⟨by decide, _, rfl, by decide, bsw_1193⟩, fun _ => rfl⟩
theorem pX4_21 : bs_gf "BalloonStall$Matcher" 21 4 3 ∧ bs_isr (bs_ty 4 3) ∧ bs_fin "BalloonStall$Matcher" 4 3 := ⟨fX4_21.1, Or.inr ⟨_, rfl⟩, fun q h => by have h2 : some _ = some q := h; cases h2; exact ⟨rfl, rfl⟩⟩
theorem bsw_1194 : (Jvm.Cond.fieldLink "BalloonStall$Matcher" (24 : Nat) "BalloonStall$Matcher" "kindLength" "[I") ∈ bs_al := bs_al_in (bs_t2 _ (List.mem_of_getElem? (i := 37) rfl)) rfl
theorem fX4_24 : bs_gr "BalloonStall$Matcher" 24 4 4 := ⟨⟨by decide, _, rfl, by decide, bsw_1194⟩, fun _ => rfl⟩
theorem pX4_24 : bs_gf "BalloonStall$Matcher" 24 4 4 ∧ bs_isr (bs_ty 4 4) ∧ bs_fin "BalloonStall$Matcher" 4 4 := ⟨fX4_24.1, Or.inr ⟨_, rfl⟩, fun q h => by have h2 : some _ = some q := h; cases h2; exact ⟨rfl, rfl⟩⟩
theorem bsw_1195 : (Jvm.Cond.fieldLink "BalloonStall$Matcher" (52 : Nat) "BalloonStall$Matcher" "kinds" "I") ∈ bs_al := bs_al_in (bs_t2 _ (List.mem_of_getElem? (i := 38) rfl)) rfl
theorem fX4_52 : bs_gi "BalloonStall$Matcher" 52 4 5 := ⟨⟨by decide, _, rfl, by decide, bsw_1195⟩, fun _ => rfl⟩
theorem pX4_52 : bs_gf "BalloonStall$Matcher" 52 4 5 ∧ bs_ty 4 5 = .int ∧ bs_nfin 4 5 := ⟨fX4_52.1, rfl, fun q h => by have h2 : some _ = some q := h; cases h2; rfl⟩
theorem bsw_1196 : (Jvm.Cond.fieldLink "BalloonStall$Matcher" (51 : Nat) "BalloonStall$Matcher" "points" "I") ∈ bs_al := bs_al_in (bs_t2 _ (List.mem_of_getElem? (i := 39) rfl)) rfl
theorem fX4_51 : bs_gi "BalloonStall$Matcher" 51 4 6 := ⟨⟨by decide, _, rfl, by decide, bsw_1196⟩, fun _ => rfl⟩
theorem pX4_51 : bs_gf "BalloonStall$Matcher" 51 4 6 ∧ bs_ty 4 6 = .int ∧ bs_nfin 4 6 := ⟨fX4_51.1, rfl, fun q h => by have h2 : some _ = some q := h; cases h2; rfl⟩
theorem bsw_1197 : (Jvm.Cond.fieldLink "BalloonStall$Matcher" (33 : Nat) "BalloonStall$Matcher" "latestFirst" "LBalloonStall$Figure;") ∈ bs_al := bs_al_in (bs_t2 _ (List.mem_of_getElem? (i := 40) rfl)) rfl
theorem fX4_33 : bs_gr "BalloonStall$Matcher" 33 4 7 := ⟨⟨by decide, _, rfl, by decide, bsw_1197⟩, fun _ => rfl⟩
theorem pX4_33 : bs_gf "BalloonStall$Matcher" 33 4 7 ∧ bs_isr (bs_ty 4 7) ∧ bs_nfin 4 7 := ⟨fX4_33.1, Or.inl ⟨_, rfl⟩, fun q h => by have h2 : some _ = some q := h; cases h2; rfl⟩
theorem bsw_1198 : (Jvm.Cond.fieldLink "BalloonStall$Matcher" (37 : Nat) "BalloonStall$Matcher" "latestSecond" "LBalloonStall$Figure;") ∈ bs_al := bs_al_in (bs_t2 _ (List.mem_of_getElem? (i := 41) rfl)) rfl
theorem fX4_37 : bs_gr "BalloonStall$Matcher" 37 4 8 := ⟨⟨by decide, _, rfl, by decide, bsw_1198⟩, fun _ => rfl⟩
theorem pX4_37 : bs_gf "BalloonStall$Matcher" 37 4 8 ∧ bs_isr (bs_ty 4 8) ∧ bs_nfin 4 8 := ⟨fX4_37.1, Or.inl ⟨_, rfl⟩, fun q h => by have h2 : some _ = some q := h; cases h2; rfl⟩
theorem bsw_1199 : (Jvm.Cond.fieldLink "BalloonStall$Matcher" (47 : Nat) "BalloonStall$Matcher" "latestMatched" "Z") ∈ bs_al := bs_al_in (bs_t2 _ (List.mem_of_getElem? (i := 42) rfl)) rfl
theorem fX4_47 : bs_gi "BalloonStall$Matcher" 47 4 9 := ⟨⟨by decide, _, rfl, by decide, bsw_1199⟩, fun _ => rfl⟩
theorem pX4_47 : bs_gf "BalloonStall$Matcher" 47 4 9 ∧ bs_ty 4 9 = .boolean ∧ bs_nfin 4 9 := ⟨fX4_47.1, rfl, fun q h => by have h2 : some _ = some q := h; cases h2; rfl⟩
theorem bsw_1200 : (Jvm.Cond.fieldLink "BalloonStall$Maker" (11 : Nat) "BalloonStall$Maker" "length" "[I") ∈ bs_al := bs_al_in (bs_t2 _ (List.mem_of_getElem? (i := 73) rfl)) rfl
theorem fX3_11 : bs_gr "BalloonStall$Maker" 11 3 0 := ⟨⟨by decide, _, rfl, by decide, bsw_1200⟩, fun _ => rfl⟩
theorem pX3_11 : bs_gf "BalloonStall$Maker" 11 3 0 ∧ bs_isr (bs_ty 3 0) ∧ bs_fin "BalloonStall$Maker" 3 0 := ⟨fX3_11.1, Or.inr ⟨_, rfl⟩, fun q h => by have h2 : some _ = some q := h; cases h2; exact ⟨rfl, rfl⟩⟩
theorem bsw_1201 : (Jvm.Cond.fieldLink "BalloonStall$Maker" (15 : Nat) "BalloonStall$Maker" "touched" "[I") ∈ bs_al := bs_al_in (bs_t2 _ (List.mem_of_getElem? (i := 74) rfl)) rfl
theorem fX3_15 : bs_gr "BalloonStall$Maker" 15 3 1 := ⟨⟨by decide, _, rfl, by decide, bsw_1201⟩, fun _ => rfl⟩
theorem pX3_15 : bs_gf "BalloonStall$Maker" 15 3 1 ∧ bs_isr (bs_ty 3 1) ∧ bs_fin "BalloonStall$Maker" 3 1 := ⟨fX3_15.1, Or.inr ⟨_, rfl⟩, fun q h => by have h2 : some _ = some q := h; cases h2; exact ⟨rfl, rfl⟩⟩
theorem bsw_1202 : (Jvm.Cond.fieldLink "BalloonStall$Maker" (18 : Nat) "BalloonStall$Maker" "odd" "[I") ∈ bs_al := bs_al_in (bs_t2 _ (List.mem_of_getElem? (i := 75) rfl)) rfl
theorem fX3_18 : bs_gr "BalloonStall$Maker" 18 3 2 := ⟨⟨by decide, _, rfl, by decide, bsw_1202⟩, fun _ => rfl⟩
theorem pX3_18 : bs_gf "BalloonStall$Maker" 18 3 2 ∧ bs_isr (bs_ty 3 2) ∧ bs_fin "BalloonStall$Maker" 3 2 := ⟨fX3_18.1, Or.inr ⟨_, rfl⟩, fun q h => by have h2 : some _ = some q := h; cases h2; exact ⟨rfl, rfl⟩⟩
theorem bsw_1203 : (Jvm.Cond.fieldLink "BalloonStall$Maker" (21 : Nat) "BalloonStall$Maker" "fewest" "[I") ∈ bs_al := bs_al_in (bs_t2 _ (List.mem_of_getElem? (i := 76) rfl)) rfl
theorem fX3_21 : bs_gr "BalloonStall$Maker" 21 3 3 := ⟨⟨by decide, _, rfl, by decide, bsw_1203⟩, fun _ => rfl⟩
theorem pX3_21 : bs_gf "BalloonStall$Maker" 21 3 3 ∧ bs_isr (bs_ty 3 3) ∧ bs_fin "BalloonStall$Maker" 3 3 := ⟨fX3_21.1, Or.inr ⟨_, rfl⟩, fun q h => by have h2 : some _ = some q := h; cases h2; exact ⟨rfl, rfl⟩⟩
theorem bsw_1204 : (Jvm.Cond.fieldLink "BalloonStall$Maker" (24 : Nat) "BalloonStall$Maker" "whole" "[Z") ∈ bs_al := bs_al_in (bs_t2 _ (List.mem_of_getElem? (i := 77) rfl)) rfl
theorem fX3_24 : bs_gr "BalloonStall$Maker" 24 3 4 := ⟨⟨by decide, _, rfl, by decide, bsw_1204⟩, fun _ => rfl⟩
theorem pX3_24 : bs_gf "BalloonStall$Maker" 24 3 4 ∧ bs_isr (bs_ty 3 4) ∧ bs_fin "BalloonStall$Maker" 3 4 := ⟨fX3_24.1, Or.inr ⟨_, rfl⟩, fun q h => by have h2 : some _ = some q := h; cases h2; exact ⟨rfl, rfl⟩⟩
theorem bsw_1205 : (Jvm.Cond.fieldLink "BalloonStall$Maker" (28 : Nat) "BalloonStall$Maker" "makeable" "[Z") ∈ bs_al := bs_al_in (bs_t2 _ (List.mem_of_getElem? (i := 78) rfl)) rfl
theorem fX3_28 : bs_gr "BalloonStall$Maker" 28 3 5 := ⟨⟨by decide, _, rfl, by decide, bsw_1205⟩, fun _ => rfl⟩
theorem pX3_28 : bs_gf "BalloonStall$Maker" 28 3 5 ∧ bs_isr (bs_ty 3 5) ∧ bs_fin "BalloonStall$Maker" 3 5 := ⟨fX3_28.1, Or.inr ⟨_, rfl⟩, fun q h => by have h2 : some _ = some q := h; cases h2; exact ⟨rfl, rfl⟩⟩
theorem bsw_1206 : (Jvm.Cond.fieldLink "BalloonStall$Maker" (31 : Nat) "BalloonStall$Maker" "found" "[I") ∈ bs_al := bs_al_in (bs_t2 _ (List.mem_of_getElem? (i := 79) rfl)) rfl
theorem fX3_31 : bs_gr "BalloonStall$Maker" 31 3 6 := ⟨⟨by decide, _, rfl, by decide, bsw_1206⟩, fun _ => rfl⟩
theorem pX3_31 : bs_gf "BalloonStall$Maker" 31 3 6 ∧ bs_isr (bs_ty 3 6) ∧ bs_fin "BalloonStall$Maker" 3 6 := ⟨fX3_31.1, Or.inr ⟨_, rfl⟩, fun q h => by have h2 : some _ = some q := h; cases h2; exact ⟨rfl, rfl⟩⟩
theorem bsw_1207 : (Jvm.Cond.fieldLink "BalloonStall$Maker" (34 : Nat) "BalloonStall$Maker" "sets" "[I") ∈ bs_al := bs_al_in (bs_t2 _ (List.mem_of_getElem? (i := 80) rfl)) rfl
theorem fX3_34 : bs_gr "BalloonStall$Maker" 34 3 7 := ⟨⟨by decide, _, rfl, by decide, bsw_1207⟩, fun _ => rfl⟩
theorem pX3_34 : bs_gf "BalloonStall$Maker" 34 3 7 ∧ bs_isr (bs_ty 3 7) ∧ bs_fin "BalloonStall$Maker" 3 7 := ⟨fX3_34.1, Or.inr ⟨_, rfl⟩, fun q h => by have h2 : some _ = some q := h; cases h2; exact ⟨rfl, rfl⟩⟩
theorem bsw_1208 : (Jvm.Cond.fieldLink "BalloonStall$Ageing" (9 : Nat) "BalloonStall$Ageing" "lost" "[I") ∈ bs_al := bs_al_in (bs_t2 _ (List.mem_of_getElem? (i := 105) rfl)) rfl
theorem fX0_9 : bs_gr "BalloonStall$Ageing" 9 0 0 := ⟨⟨by decide, _, rfl, by decide, bsw_1208⟩, fun _ => rfl⟩
theorem pX0_9 : bs_gf "BalloonStall$Ageing" 9 0 0 ∧ bs_isr (bs_ty 0 0) ∧ bs_fin "BalloonStall$Ageing" 0 0 := ⟨fX0_9.1, Or.inr ⟨_, rfl⟩, fun q h => by have h2 : some _ = some q := h; cases h2; exact ⟨rfl, rfl⟩⟩
theorem bsw_1209 : (Jvm.Cond.fieldLink "BalloonStall" (356 : Nat) "BalloonStall$Ageing" "lost" "[I") ∈ bs_al := bs_al_in (bs_t2 _ (List.mem_of_getElem? (i := 106) rfl)) rfl
theorem fX11_356 : bs_gr "BalloonStall" 356 0 0 := ⟨⟨by decide, _, rfl, by decide, bsw_1209⟩, fun _ => rfl⟩
theorem bsw_1210 : (Jvm.Cond.fieldLink "BalloonStall$Ageing" (15 : Nat) "BalloonStall$Ageing" "lengths" "[I") ∈ bs_al := bs_al_in (bs_t2 _ (List.mem_of_getElem? (i := 107) rfl)) rfl
theorem fX0_15 : bs_gr "BalloonStall$Ageing" 15 0 1 := ⟨⟨by decide, _, rfl, by decide, bsw_1210⟩, fun _ => rfl⟩
theorem pX0_15 : bs_gf "BalloonStall$Ageing" 15 0 1 ∧ bs_isr (bs_ty 0 1) ∧ bs_fin "BalloonStall$Ageing" 0 1 := ⟨fX0_15.1, Or.inr ⟨_, rfl⟩, fun q h => by have h2 : some _ = some q := h; cases h2; exact ⟨rfl, rfl⟩⟩
theorem bsw_1211 : (Jvm.Cond.fieldLink "BalloonStall$Ageing" (18 : Nat) "BalloonStall$Ageing" "letters" "[I") ∈ bs_al := bs_al_in (bs_t2 _ (List.mem_of_getElem? (i := 108) rfl)) rfl
theorem fX0_18 : bs_gr "BalloonStall$Ageing" 18 0 2 := ⟨⟨by decide, _, rfl, by decide, bsw_1211⟩, fun _ => rfl⟩
theorem pX0_18 : bs_gf "BalloonStall$Ageing" 18 0 2 ∧ bs_isr (bs_ty 0 2) ∧ bs_fin "BalloonStall$Ageing" 0 2 := ⟨fX0_18.1, Or.inr ⟨_, rfl⟩, fun q h => by have h2 : some _ = some q := h; cases h2; exact ⟨rfl, rfl⟩⟩
theorem bsw_1212 : (Jvm.Cond.fieldLink "BalloonStall$Ageing" (21 : Nat) "BalloonStall$Ageing" "values" "[J") ∈ bs_al := bs_al_in (bs_t2 _ (List.mem_of_getElem? (i := 109) rfl)) rfl
theorem fX0_21 : bs_gr "BalloonStall$Ageing" 21 0 3 := ⟨⟨by decide, _, rfl, by decide, bsw_1212⟩, fun _ => rfl⟩
theorem pX0_21 : bs_gf "BalloonStall$Ageing" 21 0 3 ∧ bs_isr (bs_ty 0 3) ∧ bs_fin "BalloonStall$Ageing" 0 3 := ⟨fX0_21.1, Or.inr ⟨_, rfl⟩, fun q h => by have h2 : some _ = some q := h; cases h2; exact ⟨rfl, rfl⟩⟩
theorem bsw_1213 : (Jvm.Cond.fieldLink "BalloonStall$Ageing" (25 : Nat) "BalloonStall$Ageing" "figure" "LBalloonStall$Figure;") ∈ bs_al := bs_al_in (bs_t2 _ (List.mem_of_getElem? (i := 110) rfl)) rfl
theorem fX0_25 : bs_gr "BalloonStall$Ageing" 25 0 4 := ⟨⟨by decide, _, rfl, by decide, bsw_1213⟩, fun _ => rfl⟩
theorem pX0_25 : bs_gf "BalloonStall$Ageing" 25 0 4 ∧ bs_isr (bs_ty 0 4) ∧ bs_nfin 0 4 := ⟨fX0_25.1, Or.inl ⟨_, rfl⟩, fun q h => by have h2 : some _ = some q := h; cases h2; rfl⟩
theorem bsw_1214 : (Jvm.Cond.fieldLink "BalloonStall$Ageing" (29 : Nat) "BalloonStall$Ageing" "rule" "LBalloonStall$Rule;") ∈ bs_al := bs_al_in (bs_t2 _ (List.mem_of_getElem? (i := 111) rfl)) rfl
theorem fX0_29 : bs_gr "BalloonStall$Ageing" 29 0 5 := ⟨⟨by decide, _, rfl, by decide, bsw_1214⟩, fun _ => rfl⟩
theorem pX0_29 : bs_gf "BalloonStall$Ageing" 29 0 5 ∧ bs_isr (bs_ty 0 5) ∧ bs_nfin 0 5 := ⟨fX0_29.1, Or.inl ⟨_, rfl⟩, fun q h => by have h2 : some _ = some q := h; cases h2; rfl⟩
theorem bsw_1215 : (Jvm.Cond.fieldLink "BalloonStall$Ageing" (33 : Nat) "BalloonStall$Ageing" "known" "I") ∈ bs_al := bs_al_in (bs_t2 _ (List.mem_of_getElem? (i := 112) rfl)) rfl
theorem fX0_33 : bs_gi "BalloonStall$Ageing" 33 0 6 := ⟨⟨by decide, _, rfl, by decide, bsw_1215⟩, fun _ => rfl⟩
theorem pX0_33 : bs_gf "BalloonStall$Ageing" 33 0 6 ∧ bs_ty 0 6 = .int ∧ bs_nfin 0 6 := ⟨fX0_33.1, rfl, fun q h => by have h2 : some _ = some q := h; cases h2; rfl⟩
theorem bsw_1216 : (Jvm.Cond.fieldLink "BalloonStall$Stall" (9 : Nat) "BalloonStall$Stall" "stock" "[I") ∈ bs_al := bs_al_in (bs_t2 _ (List.mem_of_getElem? (i := 134) rfl)) rfl
theorem fX9_9 : bs_gr "BalloonStall$Stall" 9 9 0 := ⟨⟨by decide, _, rfl, by decide, bsw_1216⟩, fun _ => rfl⟩
theorem pX9_9 : bs_gf "BalloonStall$Stall" 9 9 0 ∧ bs_isr (bs_ty 9 0) ∧ bs_fin "BalloonStall$Stall" 9 0 := ⟨fX9_9.1, Or.inr ⟨_, rfl⟩, fun q h => by have h2 : some _ = some q := h; cases h2; exact ⟨rfl, rfl⟩⟩
theorem bsw_1217 : (Jvm.Cond.fieldLink "BalloonStall" (293 : Nat) "BalloonStall$Stall" "stock" "[I") ∈ bs_al := bs_al_in (bs_t2 _ (List.mem_of_getElem? (i := 135) rfl)) rfl
theorem fX11_293 : bs_gr "BalloonStall" 293 9 0 := ⟨⟨by decide, _, rfl, by decide, bsw_1217⟩, fun _ => rfl⟩
theorem bsw_1218 : (Jvm.Cond.fieldLink "BalloonStall$Stall" (15 : Nat) "BalloonStall$Stall" "bubbleTicks" "I") ∈ bs_al := bs_al_in (bs_t2 _ (List.mem_of_getElem? (i := 136) rfl)) rfl
theorem fX9_15 : bs_gi "BalloonStall$Stall" 15 9 1 := ⟨⟨by decide, _, rfl, by decide, bsw_1218⟩, fun _ => rfl⟩
theorem pX9_15 : bs_gf "BalloonStall$Stall" 15 9 1 ∧ bs_ty 9 1 = .int ∧ bs_nfin 9 1 := ⟨fX9_15.1, rfl, fun q h => by have h2 : some _ = some q := h; cases h2; rfl⟩
theorem bsw_1219 : (Jvm.Cond.fieldLink "BalloonStall" (296 : Nat) "BalloonStall$Stall" "bubbleTicks" "I") ∈ bs_al := bs_al_in (bs_t2 _ (List.mem_of_getElem? (i := 137) rfl)) rfl
theorem fX11_296 : bs_gi "BalloonStall" 296 9 1 := ⟨⟨by decide, _, rfl, by decide, bsw_1219⟩, fun _ => rfl⟩
theorem pX11_296 : bs_gf "BalloonStall" 296 9 1 ∧ bs_ty 9 1 = .int ∧ bs_nfin 9 1 := ⟨fX11_296.1, rfl, fun q h => by have h2 : some _ = some q := h; cases h2; rfl⟩
theorem bsw_1220 : (Jvm.Cond.fieldLink "BalloonStall$Stall" (84 : Nat) "BalloonStall$Stall" "balloonTicks" "I") ∈ bs_al := bs_al_in (bs_t2 _ (List.mem_of_getElem? (i := 138) rfl)) rfl
theorem fX9_84 : bs_gi "BalloonStall$Stall" 84 9 2 := ⟨⟨by decide, _, rfl, by decide, bsw_1220⟩, fun _ => rfl⟩
theorem pX9_84 : bs_gf "BalloonStall$Stall" 84 9 2 ∧ bs_ty 9 2 = .int ∧ bs_nfin 9 2 := ⟨fX9_84.1, rfl, fun q h => by have h2 : some _ = some q := h; cases h2; rfl⟩
theorem bsw_1221 : (Jvm.Cond.fieldLink "BalloonStall" (299 : Nat) "BalloonStall$Stall" "balloonTicks" "I") ∈ bs_al := bs_al_in (bs_t2 _ (List.mem_of_getElem? (i := 139) rfl)) rfl
theorem fX11_299 : bs_gi "BalloonStall" 299 9 2 := ⟨⟨by decide, _, rfl, by decide, bsw_1221⟩, fun _ => rfl⟩
theorem pX11_299 : bs_gf "BalloonStall" 299 9 2 ∧ bs_ty 9 2 = .int ∧ bs_nfin 9 2 := ⟨fX11_299.1, rfl, fun q h => by have h2 : some _ = some q := h; cases h2; rfl⟩
theorem bsw_1222 : (Jvm.Cond.fieldLink "BalloonStall$Stall" (46 : Nat) "BalloonStall$Stall" "guests" "I") ∈ bs_al := bs_al_in (bs_t2 _ (List.mem_of_getElem? (i := 140) rfl)) rfl
theorem fX9_46 : bs_gi "BalloonStall$Stall" 46 9 3 := ⟨⟨by decide, _, rfl, by decide, bsw_1222⟩, fun _ => rfl⟩
theorem pX9_46 : bs_gf "BalloonStall$Stall" 46 9 3 ∧ bs_ty 9 3 = .int ∧ bs_nfin 9 3 := ⟨fX9_46.1, rfl, fun q h => by have h2 : some _ = some q := h; cases h2; rfl⟩
theorem bsw_1223 : (Jvm.Cond.fieldLink "BalloonStall" (363 : Nat) "BalloonStall$Stall" "guests" "I") ∈ bs_al := bs_al_in (bs_t2 _ (List.mem_of_getElem? (i := 141) rfl)) rfl
theorem fX11_363 : bs_gi "BalloonStall" 363 9 3 := ⟨⟨by decide, _, rfl, by decide, bsw_1223⟩, fun _ => rfl⟩
theorem pX11_363 : bs_gf "BalloonStall" 363 9 3 ∧ bs_ty 9 3 = .int ∧ bs_nfin 9 3 := ⟨fX11_363.1, rfl, fun q h => by have h2 : some _ = some q := h; cases h2; rfl⟩
theorem bsw_1224 : (Jvm.Cond.fieldLink "BalloonStall$Stall" (49 : Nat) "BalloonStall$Stall" "ran" "I") ∈ bs_al := bs_al_in (bs_t2 _ (List.mem_of_getElem? (i := 142) rfl)) rfl
theorem fX9_49 : bs_gi "BalloonStall$Stall" 49 9 4 := ⟨⟨by decide, _, rfl, by decide, bsw_1224⟩, fun _ => rfl⟩
theorem pX9_49 : bs_gf "BalloonStall$Stall" 49 9 4 ∧ bs_ty 9 4 = .int ∧ bs_nfin 9 4 := ⟨fX9_49.1, rfl, fun q h => by have h2 : some _ = some q := h; cases h2; rfl⟩
theorem bsw_1225 : (Jvm.Cond.fieldLink "BalloonStall" (312 : Nat) "BalloonStall$Stall" "ran" "I") ∈ bs_al := bs_al_in (bs_t2 _ (List.mem_of_getElem? (i := 143) rfl)) rfl
theorem fX11_312 : bs_gi "BalloonStall" 312 9 4 := ⟨⟨by decide, _, rfl, by decide, bsw_1225⟩, fun _ => rfl⟩
theorem pX11_312 : bs_gf "BalloonStall" 312 9 4 ∧ bs_ty 9 4 = .int ∧ bs_nfin 9 4 := ⟨fX11_312.1, rfl, fun q h => by have h2 : some _ = some q := h; cases h2; rfl⟩
theorem bsw_1226 : (Jvm.Cond.fieldLink "BalloonStall$Stall" (19 : Nat) "BalloonStall$Stall" "outcome" "[I") ∈ bs_al := bs_al_in (bs_t2 _ (List.mem_of_getElem? (i := 144) rfl)) rfl
theorem fX9_19 : bs_gr "BalloonStall$Stall" 19 9 5 := ⟨⟨by decide, _, rfl, by decide, bsw_1226⟩, fun _ => rfl⟩
theorem pX9_19 : bs_gf "BalloonStall$Stall" 19 9 5 ∧ bs_isr (bs_ty 9 5) ∧ bs_fin "BalloonStall$Stall" 9 5 := ⟨fX9_19.1, Or.inr ⟨_, rfl⟩, fun q h => by have h2 : some _ = some q := h; cases h2; exact ⟨rfl, rfl⟩⟩
theorem bsw_1227 : (Jvm.Cond.fieldLink "BalloonStall" (317 : Nat) "BalloonStall$Stall" "outcome" "[I") ∈ bs_al := bs_al_in (bs_t2 _ (List.mem_of_getElem? (i := 145) rfl)) rfl
theorem fX11_317 : bs_gr "BalloonStall" 317 9 5 := ⟨⟨by decide, _, rfl, by decide, bsw_1227⟩, fun _ => rfl⟩
theorem bsw_1228 : (Jvm.Cond.fieldLink "BalloonStall$Stall" (22 : Nat) "BalloonStall$Stall" "began" "[I") ∈ bs_al := bs_al_in (bs_t2 _ (List.mem_of_getElem? (i := 146) rfl)) rfl
theorem fX9_22 : bs_gr "BalloonStall$Stall" 22 9 6 := ⟨⟨by decide, _, rfl, by decide, bsw_1228⟩, fun _ => rfl⟩
theorem pX9_22 : bs_gf "BalloonStall$Stall" 22 9 6 ∧ bs_isr (bs_ty 9 6) ∧ bs_fin "BalloonStall$Stall" 9 6 := ⟨fX9_22.1, Or.inr ⟨_, rfl⟩, fun q h => by have h2 : some _ = some q := h; cases h2; exact ⟨rfl, rfl⟩⟩
theorem bsw_1229 : (Jvm.Cond.fieldLink "BalloonStall" (320 : Nat) "BalloonStall$Stall" "began" "[I") ∈ bs_al := bs_al_in (bs_t2 _ (List.mem_of_getElem? (i := 147) rfl)) rfl
theorem fX11_320 : bs_gr "BalloonStall" 320 9 6 := ⟨⟨by decide, _, rfl, by decide, bsw_1229⟩, fun _ => rfl⟩
theorem bsw_1230 : (Jvm.Cond.fieldLink "BalloonStall$Stall" (25 : Nat) "BalloonStall$Stall" "ended" "[I") ∈ bs_al := bs_al_in (bs_t2 _ (List.mem_of_getElem? (i := 148) rfl)) rfl
theorem fX9_25 : bs_gr "BalloonStall$Stall" 25 9 7 := ⟨⟨by decide, _, rfl, by decide, bsw_1230⟩, fun _ => rfl⟩
theorem pX9_25 : bs_gf "BalloonStall$Stall" 25 9 7 ∧ bs_isr (bs_ty 9 7) ∧ bs_fin "BalloonStall$Stall" 9 7 := ⟨fX9_25.1, Or.inr ⟨_, rfl⟩, fun q h => by have h2 : some _ = some q := h; cases h2; exact ⟨rfl, rfl⟩⟩
theorem bsw_1231 : (Jvm.Cond.fieldLink "BalloonStall" (323 : Nat) "BalloonStall$Stall" "ended" "[I") ∈ bs_al := bs_al_in (bs_t2 _ (List.mem_of_getElem? (i := 149) rfl)) rfl
theorem fX11_323 : bs_gr "BalloonStall" 323 9 7 := ⟨⟨by decide, _, rfl, by decide, bsw_1231⟩, fun _ => rfl⟩
theorem bsw_1232 : (Jvm.Cond.fieldLink "BalloonStall$Stall" (28 : Nat) "BalloonStall$Stall" "taken" "[I") ∈ bs_al := bs_al_in (bs_t2 _ (List.mem_of_getElem? (i := 150) rfl)) rfl
theorem fX9_28 : bs_gr "BalloonStall$Stall" 28 9 8 := ⟨⟨by decide, _, rfl, by decide, bsw_1232⟩, fun _ => rfl⟩
theorem pX9_28 : bs_gf "BalloonStall$Stall" 28 9 8 ∧ bs_isr (bs_ty 9 8) ∧ bs_fin "BalloonStall$Stall" 9 8 := ⟨fX9_28.1, Or.inr ⟨_, rfl⟩, fun q h => by have h2 : some _ = some q := h; cases h2; exact ⟨rfl, rfl⟩⟩
theorem bsw_1233 : (Jvm.Cond.fieldLink "BalloonStall" (326 : Nat) "BalloonStall$Stall" "taken" "[I") ∈ bs_al := bs_al_in (bs_t2 _ (List.mem_of_getElem? (i := 151) rfl)) rfl
theorem fX11_326 : bs_gr "BalloonStall" 326 9 8 := ⟨⟨by decide, _, rfl, by decide, bsw_1233⟩, fun _ => rfl⟩
theorem bsw_1234 : (Jvm.Cond.fieldLink "BalloonStall$Stall" (31 : Nat) "BalloonStall$Stall" "came" "[I") ∈ bs_al := bs_al_in (bs_t2 _ (List.mem_of_getElem? (i := 152) rfl)) rfl
theorem fX9_31 : bs_gr "BalloonStall$Stall" 31 9 9 := ⟨⟨by decide, _, rfl, by decide, bsw_1234⟩, fun _ => rfl⟩
theorem pX9_31 : bs_gf "BalloonStall$Stall" 31 9 9 ∧ bs_isr (bs_ty 9 9) ∧ bs_fin "BalloonStall$Stall" 9 9 := ⟨fX9_31.1, Or.inr ⟨_, rfl⟩, fun q h => by have h2 : some _ = some q := h; cases h2; exact ⟨rfl, rfl⟩⟩
theorem bsw_1235 : (Jvm.Cond.fieldLink "BalloonStall$Stall" (34 : Nat) "BalloonStall$Stall" "wanted" "[I") ∈ bs_al := bs_al_in (bs_t2 _ (List.mem_of_getElem? (i := 153) rfl)) rfl
theorem fX9_34 : bs_gr "BalloonStall$Stall" 34 9 10 := ⟨⟨by decide, _, rfl, by decide, bsw_1235⟩, fun _ => rfl⟩
theorem pX9_34 : bs_gf "BalloonStall$Stall" 34 9 10 ∧ bs_isr (bs_ty 9 10) ∧ bs_fin "BalloonStall$Stall" 9 10 := ⟨fX9_34.1, Or.inr ⟨_, rfl⟩, fun q h => by have h2 : some _ = some q := h; cases h2; exact ⟨rfl, rfl⟩⟩
theorem bsw_1236 : (Jvm.Cond.fieldLink "BalloonStall$Stall" (37 : Nat) "BalloonStall$Stall" "patience" "[I") ∈ bs_al := bs_al_in (bs_t2 _ (List.mem_of_getElem? (i := 154) rfl)) rfl
theorem fX9_37 : bs_gr "BalloonStall$Stall" 37 9 11 := ⟨⟨by decide, _, rfl, by decide, bsw_1236⟩, fun _ => rfl⟩
theorem pX9_37 : bs_gf "BalloonStall$Stall" 37 9 11 ∧ bs_isr (bs_ty 9 11) ∧ bs_fin "BalloonStall$Stall" 9 11 := ⟨fX9_37.1, Or.inr ⟨_, rfl⟩, fun q h => by have h2 : some _ = some q := h; cases h2; exact ⟨rfl, rfl⟩⟩
theorem bsw_1237 : (Jvm.Cond.fieldLink "BalloonStall$Stall" (40 : Nat) "BalloonStall$Stall" "there" "[I") ∈ bs_al := bs_al_in (bs_t2 _ (List.mem_of_getElem? (i := 155) rfl)) rfl
theorem fX9_40 : bs_gr "BalloonStall$Stall" 40 9 12 := ⟨⟨by decide, _, rfl, by decide, bsw_1237⟩, fun _ => rfl⟩
theorem pX9_40 : bs_gf "BalloonStall$Stall" 40 9 12 ∧ bs_isr (bs_ty 9 12) ∧ bs_fin "BalloonStall$Stall" 9 12 := ⟨fX9_40.1, Or.inr ⟨_, rfl⟩, fun q h => by have h2 : some _ = some q := h; cases h2; exact ⟨rfl, rfl⟩⟩
theorem bsw_1238 : (Jvm.Cond.fieldLink "BalloonStall$Stall" (43 : Nat) "BalloonStall$Stall" "needed" "[I") ∈ bs_al := bs_al_in (bs_t2 _ (List.mem_of_getElem? (i := 156) rfl)) rfl
theorem fX9_43 : bs_gr "BalloonStall$Stall" 43 9 13 := ⟨⟨by decide, _, rfl, by decide, bsw_1238⟩, fun _ => rfl⟩
theorem pX9_43 : bs_gf "BalloonStall$Stall" 43 9 13 ∧ bs_isr (bs_ty 9 13) ∧ bs_fin "BalloonStall$Stall" 9 13 := ⟨fX9_43.1, Or.inr ⟨_, rfl⟩, fun q h => by have h2 : some _ = some q := h; cases h2; exact ⟨rfl, rfl⟩⟩
theorem bsw_1239 : (Jvm.Cond.fieldLink "BalloonStall$Stall" (58 : Nat) "BalloonStall$Stall" "chance" "J") ∈ bs_al := bs_al_in (bs_t2 _ (List.mem_of_getElem? (i := 157) rfl)) rfl
theorem fX9_58 : bs_gl "BalloonStall$Stall" 58 9 14 := ⟨⟨by decide, _, rfl, by decide, bsw_1239⟩, fun _ => rfl⟩
theorem pX9_58 : bs_gf "BalloonStall$Stall" 58 9 14 ∧ bs_ty 9 14 = .long ∧ bs_nfin 9 14 := ⟨fX9_58.1, rfl, fun q h => by have h2 : some _ = some q := h; cases h2; rfl⟩
theorem bsw_1240 : (Jvm.Cond.fieldLink "BalloonStall" (12 : Nat) "BalloonStall" "sorts" "LBalloonStall$Sorts;") ∈ bs_al := bs_al_in (bs_t2 _ (List.mem_of_getElem? (i := 191) rfl)) rfl
theorem fX11_12 : bs_gr "BalloonStall" 12 11 0 := ⟨⟨by decide, _, rfl, by decide, bsw_1240⟩, fun _ => rfl⟩
theorem pX11_12 : bs_gf "BalloonStall" 12 11 0 ∧ bs_isr (bs_ty 11 0) ∧ bs_fin "BalloonStall" 11 0 := ⟨fX11_12.1, Or.inl ⟨_, rfl⟩, fun q h => by have h2 : some _ = some q := h; cases h2; exact ⟨rfl, rfl⟩⟩
theorem bsw_1241 : (Jvm.Cond.fieldLink "BalloonStall" (19 : Nat) "BalloonStall" "tape" "LBalloonStall$Tape;") ∈ bs_al := bs_al_in (bs_t2 _ (List.mem_of_getElem? (i := 192) rfl)) rfl
theorem fX11_19 : bs_gr "BalloonStall" 19 11 1 := ⟨⟨by decide, _, rfl, by decide, bsw_1241⟩, fun _ => rfl⟩
theorem pX11_19 : bs_gf "BalloonStall" 19 11 1 ∧ bs_isr (bs_ty 11 1) ∧ bs_fin "BalloonStall" 11 1 := ⟨fX11_19.1, Or.inl ⟨_, rfl⟩, fun q h => by have h2 : some _ = some q := h; cases h2; exact ⟨rfl, rfl⟩⟩
theorem bsw_1242 : (Jvm.Cond.fieldLink "BalloonStall" (25 : Nat) "BalloonStall" "figures" "[LBalloonStall$Figure;") ∈ bs_al := bs_al_in (bs_t2 _ (List.mem_of_getElem? (i := 193) rfl)) rfl
theorem fX11_25 : bs_gr "BalloonStall" 25 11 2 := ⟨⟨by decide, _, rfl, by decide, bsw_1242⟩, fun _ => rfl⟩
theorem pX11_25 : bs_gf "BalloonStall" 25 11 2 ∧ bs_isr (bs_ty 11 2) ∧ bs_fin "BalloonStall" 11 2 := ⟨fX11_25.1, Or.inr ⟨_, rfl⟩, fun q h => by have h2 : some _ = some q := h; cases h2; exact ⟨rfl, rfl⟩⟩
theorem bsw_1243 : (Jvm.Cond.fieldLink "BalloonStall" (31 : Nat) "BalloonStall" "rules" "[LBalloonStall$Rule;") ∈ bs_al := bs_al_in (bs_t2 _ (List.mem_of_getElem? (i := 194) rfl)) rfl
theorem fX11_31 : bs_gr "BalloonStall" 31 11 3 := ⟨⟨by decide, _, rfl, by decide, bsw_1243⟩, fun _ => rfl⟩
theorem pX11_31 : bs_gf "BalloonStall" 31 11 3 ∧ bs_isr (bs_ty 11 3) ∧ bs_fin "BalloonStall" 11 3 := ⟨fX11_31.1, Or.inr ⟨_, rfl⟩, fun q h => by have h2 : some _ = some q := h; cases h2; exact ⟨rfl, rfl⟩⟩
theorem bsw_1244 : (Jvm.Cond.fieldLink "BalloonStall" (38 : Nat) "BalloonStall" "figureReader" "LBalloonStall$FigureReader;") ∈ bs_al := bs_al_in (bs_t2 _ (List.mem_of_getElem? (i := 195) rfl)) rfl
theorem fX11_38 : bs_gr "BalloonStall" 38 11 4 := ⟨⟨by decide, _, rfl, by decide, bsw_1244⟩, fun _ => rfl⟩
theorem pX11_38 : bs_gf "BalloonStall" 38 11 4 ∧ bs_isr (bs_ty 11 4) ∧ bs_fin "BalloonStall" 11 4 := ⟨fX11_38.1, Or.inl ⟨_, rfl⟩, fun q h => by have h2 : some _ = some q := h; cases h2; exact ⟨rfl, rfl⟩⟩
theorem bsw_1245 : (Jvm.Cond.fieldLink "BalloonStall" (45 : Nat) "BalloonStall" "ruleReader" "LBalloonStall$RuleReader;") ∈ bs_al := bs_al_in (bs_t2 _ (List.mem_of_getElem? (i := 196) rfl)) rfl
theorem fX11_45 : bs_gr "BalloonStall" 45 11 5 := ⟨⟨by decide, _, rfl, by decide, bsw_1245⟩, fun _ => rfl⟩
theorem pX11_45 : bs_gf "BalloonStall" 45 11 5 ∧ bs_isr (bs_ty 11 5) ∧ bs_fin "BalloonStall" 11 5 := ⟨fX11_45.1, Or.inl ⟨_, rfl⟩, fun q h => by have h2 : some _ = some q := h; cases h2; exact ⟨rfl, rfl⟩⟩
theorem bsw_1246 : (Jvm.Cond.fieldLink "BalloonStall" (52 : Nat) "BalloonStall" "net" "LBalloonStall$Net;") ∈ bs_al := bs_al_in (bs_t2 _ (List.mem_of_getElem? (i := 197) rfl)) rfl
theorem fX11_52 : bs_gr "BalloonStall" 52 11 6 := ⟨⟨by decide, _, rfl, by decide, bsw_1246⟩, fun _ => rfl⟩
theorem pX11_52 : bs_gf "BalloonStall" 52 11 6 ∧ bs_isr (bs_ty 11 6) ∧ bs_fin "BalloonStall" 11 6 := ⟨fX11_52.1, Or.inl ⟨_, rfl⟩, fun q h => by have h2 : some _ = some q := h; cases h2; exact ⟨rfl, rfl⟩⟩
theorem bsw_1247 : (Jvm.Cond.fieldLink "BalloonStall" (59 : Nat) "BalloonStall" "matcher" "LBalloonStall$Matcher;") ∈ bs_al := bs_al_in (bs_t2 _ (List.mem_of_getElem? (i := 198) rfl)) rfl
theorem fX11_59 : bs_gr "BalloonStall" 59 11 7 := ⟨⟨by decide, _, rfl, by decide, bsw_1247⟩, fun _ => rfl⟩
theorem pX11_59 : bs_gf "BalloonStall" 59 11 7 ∧ bs_isr (bs_ty 11 7) ∧ bs_fin "BalloonStall" 11 7 := ⟨fX11_59.1, Or.inl ⟨_, rfl⟩, fun q h => by have h2 : some _ = some q := h; cases h2; exact ⟨rfl, rfl⟩⟩
theorem bsw_1248 : (Jvm.Cond.fieldLink "BalloonStall" (66 : Nat) "BalloonStall" "maker" "LBalloonStall$Maker;") ∈ bs_al := bs_al_in (bs_t2 _ (List.mem_of_getElem? (i := 199) rfl)) rfl
theorem fX11_66 : bs_gr "BalloonStall" 66 11 8 := ⟨⟨by decide, _, rfl, by decide, bsw_1248⟩, fun _ => rfl⟩
theorem pX11_66 : bs_gf "BalloonStall" 66 11 8 ∧ bs_isr (bs_ty 11 8) ∧ bs_fin "BalloonStall" 11 8 := ⟨fX11_66.1, Or.inl ⟨_, rfl⟩, fun q h => by have h2 : some _ = some q := h; cases h2; exact ⟨rfl, rfl⟩⟩
theorem bsw_1249 : (Jvm.Cond.fieldLink "BalloonStall" (73 : Nat) "BalloonStall" "ageing" "LBalloonStall$Ageing;") ∈ bs_al := bs_al_in (bs_t2 _ (List.mem_of_getElem? (i := 200) rfl)) rfl
theorem fX11_73 : bs_gr "BalloonStall" 73 11 9 := ⟨⟨by decide, _, rfl, by decide, bsw_1249⟩, fun _ => rfl⟩
theorem pX11_73 : bs_gf "BalloonStall" 73 11 9 ∧ bs_isr (bs_ty 11 9) ∧ bs_fin "BalloonStall" 11 9 := ⟨fX11_73.1, Or.inl ⟨_, rfl⟩, fun q h => by have h2 : some _ = some q := h; cases h2; exact ⟨rfl, rfl⟩⟩
theorem bsw_1250 : (Jvm.Cond.fieldLink "BalloonStall" (80 : Nat) "BalloonStall" "stall" "LBalloonStall$Stall;") ∈ bs_al := bs_al_in (bs_t2 _ (List.mem_of_getElem? (i := 201) rfl)) rfl
theorem fX11_80 : bs_gr "BalloonStall" 80 11 10 := ⟨⟨by decide, _, rfl, by decide, bsw_1250⟩, fun _ => rfl⟩
theorem pX11_80 : bs_gf "BalloonStall" 80 11 10 ∧ bs_isr (bs_ty 11 10) ∧ bs_fin "BalloonStall" 11 10 := ⟨fX11_80.1, Or.inl ⟨_, rfl⟩, fun q h => by have h2 : some _ = some q := h; cases h2; exact ⟨rfl, rfl⟩⟩
theorem bsw_1251 : (Jvm.Cond.fieldLink "BalloonStall" (84 : Nat) "BalloonStall" "letters" "[I") ∈ bs_al := bs_al_in (bs_t2 _ (List.mem_of_getElem? (i := 202) rfl)) rfl
theorem fX11_84 : bs_gr "BalloonStall" 84 11 11 := ⟨⟨by decide, _, rfl, by decide, bsw_1251⟩, fun _ => rfl⟩
theorem pX11_84 : bs_gf "BalloonStall" 84 11 11 ∧ bs_isr (bs_ty 11 11) ∧ bs_fin "BalloonStall" 11 11 := ⟨fX11_84.1, Or.inr ⟨_, rfl⟩, fun q h => by have h2 : some _ = some q := h; cases h2; exact ⟨rfl, rfl⟩⟩
theorem bsw_1252 : (Jvm.Cond.fieldLink "BalloonStall" (88 : Nat) "BalloonStall" "numbers" "[I") ∈ bs_al := bs_al_in (bs_t2 _ (List.mem_of_getElem? (i := 203) rfl)) rfl
theorem fX11_88 : bs_gr "BalloonStall" 88 11 12 := ⟨⟨by decide, _, rfl, by decide, bsw_1252⟩, fun _ => rfl⟩
theorem pX11_88 : bs_gf "BalloonStall" 88 11 12 ∧ bs_isr (bs_ty 11 12) ∧ bs_fin "BalloonStall" 11 12 := ⟨fX11_88.1, Or.inr ⟨_, rfl⟩, fun q h => by have h2 : some _ = some q := h; cases h2; exact ⟨rfl, rfl⟩⟩
theorem bsw_1253 : (Jvm.Cond.fieldLink "BalloonStall" (131 : Nat) "BalloonStall" "figureCount" "I") ∈ bs_al := bs_al_in (bs_t2 _ (List.mem_of_getElem? (i := 204) rfl)) rfl
theorem fX11_131 : bs_gi "BalloonStall" 131 11 13 := ⟨⟨by decide, _, rfl, by decide, bsw_1253⟩, fun _ => rfl⟩
theorem pX11_131 : bs_gf "BalloonStall" 131 11 13 ∧ bs_ty 11 13 = .int ∧ bs_nfin 11 13 := ⟨fX11_131.1, rfl, fun q h => by have h2 : some _ = some q := h; cases h2; rfl⟩
theorem bsw_1254 : (Jvm.Cond.fieldLink "BalloonStall" (134 : Nat) "BalloonStall" "ruleCount" "I") ∈ bs_al := bs_al_in (bs_t2 _ (List.mem_of_getElem? (i := 205) rfl)) rfl
theorem fX11_134 : bs_gi "BalloonStall" 134 11 14 := ⟨⟨by decide, _, rfl, by decide, bsw_1254⟩, fun _ => rfl⟩
theorem pX11_134 : bs_gf "BalloonStall" 134 11 14 ∧ bs_ty 11 14 = .int ∧ bs_nfin 11 14 := ⟨fX11_134.1, rfl, fun q h => by have h2 : some _ = some q := h; cases h2; rfl⟩
theorem bsw_1255 : (Jvm.Cond.fieldLink "BalloonStallModel" (118 : Nat) "BalloonStallModel" "thrown" "I") ∈ bs_al := bs_al_in (bs_t6 _ (List.mem_of_getElem? (i := 11) rfl)) rfl
theorem fX12_118 : bs_gi "BalloonStallModel" 118 12 0 := ⟨⟨by decide, _, rfl, by decide, bsw_1255⟩, fun _ => rfl⟩
theorem pX12_118 : bs_gf "BalloonStallModel" 118 12 0 ∧ bs_ty 12 0 = .int ∧ bs_nfin 12 0 := ⟨fX12_118.1, rfl, fun q h => by have h2 : some _ = some q := h; cases h2; rfl⟩
theorem bsw_1256 : (Jvm.Cond.fieldLink "BalloonStallModel" (9 : Nat) "BalloonStallModel" "air" "[I") ∈ bs_al := bs_al_in (bs_t6 _ (List.mem_of_getElem? (i := 12) rfl)) rfl
theorem fX12_9 : bs_gr "BalloonStallModel" 9 12 1 := ⟨⟨by decide, _, rfl, by decide, bsw_1256⟩, fun _ => rfl⟩
theorem pX12_9 : bs_gf "BalloonStallModel" 9 12 1 ∧ bs_isr (bs_ty 12 1) ∧ bs_fin "BalloonStallModel" 12 1 := ⟨fX12_9.1, Or.inr ⟨_, rfl⟩, fun q h => by have h2 : some _ = some q := h; cases h2; exact ⟨rfl, rfl⟩⟩
theorem bsw_1257 : (Jvm.Cond.fieldLink "BalloonStallModel" (13 : Nat) "BalloonStallModel" "strain" "[I") ∈ bs_al := bs_al_in (bs_t6 _ (List.mem_of_getElem? (i := 13) rfl)) rfl
theorem fX12_13 : bs_gr "BalloonStallModel" 13 12 2 := ⟨⟨by decide, _, rfl, by decide, bsw_1257⟩, fun _ => rfl⟩
theorem pX12_13 : bs_gf "BalloonStallModel" 13 12 2 ∧ bs_isr (bs_ty 12 2) ∧ bs_fin "BalloonStallModel" 12 2 := ⟨fX12_13.1, Or.inr ⟨_, rfl⟩, fun q h => by have h2 : some _ = some q := h; cases h2; exact ⟨rfl, rfl⟩⟩
theorem bsw_1258 : (Jvm.Cond.fieldLink "BalloonStallModel" (16 : Nat) "BalloonStallModel" "chance" "[I") ∈ bs_al := bs_al_in (bs_t6 _ (List.mem_of_getElem? (i := 14) rfl)) rfl
theorem fX12_16 : bs_gr "BalloonStallModel" 16 12 3 := ⟨⟨by decide, _, rfl, by decide, bsw_1258⟩, fun _ => rfl⟩
theorem pX12_16 : bs_gf "BalloonStallModel" 16 12 3 ∧ bs_isr (bs_ty 12 3) ∧ bs_fin "BalloonStallModel" 12 3 := ⟨fX12_16.1, Or.inr ⟨_, rfl⟩, fun q h => by have h2 : some _ = some q := h; cases h2; exact ⟨rfl, rfl⟩⟩
theorem bsw_1259 : (Jvm.Cond.fieldLink "BalloonStallModel" (19 : Nat) "BalloonStallModel" "stock" "[I") ∈ bs_al := bs_al_in (bs_t6 _ (List.mem_of_getElem? (i := 15) rfl)) rfl
theorem fX12_19 : bs_gr "BalloonStallModel" 19 12 4 := ⟨⟨by decide, _, rfl, by decide, bsw_1259⟩, fun _ => rfl⟩
theorem pX12_19 : bs_gf "BalloonStallModel" 19 12 4 ∧ bs_isr (bs_ty 12 4) ∧ bs_fin "BalloonStallModel" 12 4 := ⟨fX12_19.1, Or.inr ⟨_, rfl⟩, fun q h => by have h2 : some _ = some q := h; cases h2; exact ⟨rfl, rfl⟩⟩
theorem bsw_1260 : (Jvm.Cond.fieldLink "BalloonStallModel" (125 : Nat) "BalloonStallModel" "sorts" "I") ∈ bs_al := bs_al_in (bs_t6 _ (List.mem_of_getElem? (i := 16) rfl)) rfl
theorem fX12_125 : bs_gi "BalloonStallModel" 125 12 5 := ⟨⟨by decide, _, rfl, by decide, bsw_1260⟩, fun _ => rfl⟩
theorem pX12_125 : bs_gf "BalloonStallModel" 125 12 5 ∧ bs_ty 12 5 = .int ∧ bs_nfin 12 5 := ⟨fX12_125.1, rfl, fun q h => by have h2 : some _ = some q := h; cases h2; rfl⟩
theorem bsw_1261 : (Jvm.Cond.fieldLink "BalloonStallModel" (22 : Nat) "BalloonStallModel" "tape" "[I") ∈ bs_al := bs_al_in (bs_t6 _ (List.mem_of_getElem? (i := 17) rfl)) rfl
theorem fX12_22 : bs_gr "BalloonStallModel" 22 12 6 := ⟨⟨by decide, _, rfl, by decide, bsw_1261⟩, fun _ => rfl⟩
theorem pX12_22 : bs_gf "BalloonStallModel" 22 12 6 ∧ bs_isr (bs_ty 12 6) ∧ bs_fin "BalloonStallModel" 12 6 := ⟨fX12_22.1, Or.inr ⟨_, rfl⟩, fun q h => by have h2 : some _ = some q := h; cases h2; exact ⟨rfl, rfl⟩⟩
theorem bsw_1262 : (Jvm.Cond.fieldLink "BalloonStallModel" (132 : Nat) "BalloonStallModel" "size" "I") ∈ bs_al := bs_al_in (bs_t6 _ (List.mem_of_getElem? (i := 18) rfl)) rfl
theorem fX12_132 : bs_gi "BalloonStallModel" 132 12 7 := ⟨⟨by decide, _, rfl, by decide, bsw_1262⟩, fun _ => rfl⟩
theorem pX12_132 : bs_gf "BalloonStallModel" 132 12 7 ∧ bs_ty 12 7 = .int ∧ bs_nfin 12 7 := ⟨fX12_132.1, rfl, fun q h => by have h2 : some _ = some q := h; cases h2; rfl⟩
theorem bsw_1263 : (Jvm.Cond.fieldLink "BalloonStallModel" (135 : Nat) "BalloonStallModel" "at" "I") ∈ bs_al := bs_al_in (bs_t6 _ (List.mem_of_getElem? (i := 19) rfl)) rfl
theorem fX12_135 : bs_gi "BalloonStallModel" 135 12 8 := ⟨⟨by decide, _, rfl, by decide, bsw_1263⟩, fun _ => rfl⟩
theorem pX12_135 : bs_gf "BalloonStallModel" 135 12 8 ∧ bs_ty 12 8 = .int ∧ bs_nfin 12 8 := ⟨fX12_135.1, rfl, fun q h => by have h2 : some _ = some q := h; cases h2; rfl⟩
theorem bsw_1264 : (Jvm.Cond.fieldLink "BalloonStallModel" (142 : Nat) "BalloonStallModel" "wrong" "I") ∈ bs_al := bs_al_in (bs_t6 _ (List.mem_of_getElem? (i := 20) rfl)) rfl
theorem fX12_142 : bs_gi "BalloonStallModel" 142 12 9 := ⟨⟨by decide, _, rfl, by decide, bsw_1264⟩, fun _ => rfl⟩
theorem pX12_142 : bs_gf "BalloonStallModel" 142 12 9 ∧ bs_ty 12 9 = .int ∧ bs_nfin 12 9 := ⟨fX12_142.1, rfl, fun q h => by have h2 : some _ = some q := h; cases h2; rfl⟩
theorem bsw_1265 : (Jvm.Cond.fieldLink "BalloonStallModel" (193 : Nat) "BalloonStallModel" "deep" "I") ∈ bs_al := bs_al_in (bs_t6 _ (List.mem_of_getElem? (i := 21) rfl)) rfl
theorem fX12_193 : bs_gi "BalloonStallModel" 193 12 10 := ⟨⟨by decide, _, rfl, by decide, bsw_1265⟩, fun _ => rfl⟩
theorem pX12_193 : bs_gf "BalloonStallModel" 193 12 10 ∧ bs_ty 12 10 = .int ∧ bs_nfin 12 10 := ⟨fX12_193.1, rfl, fun q h => by have h2 : some _ = some q := h; cases h2; rfl⟩
theorem bsw_1266 : (Jvm.Cond.fieldLink "BalloonStallModel" (25 : Nat) "BalloonStallModel" "balloons" "[I") ∈ bs_al := bs_al_in (bs_t6 _ (List.mem_of_getElem? (i := 22) rfl)) rfl
theorem fX12_25 : bs_gr "BalloonStallModel" 25 12 11 := ⟨⟨by decide, _, rfl, by decide, bsw_1266⟩, fun _ => rfl⟩
theorem pX12_25 : bs_gf "BalloonStallModel" 25 12 11 ∧ bs_isr (bs_ty 12 11) ∧ bs_fin "BalloonStallModel" 12 11 := ⟨fX12_25.1, Or.inr ⟨_, rfl⟩, fun q h => by have h2 : some _ = some q := h; cases h2; exact ⟨rfl, rfl⟩⟩
theorem bsw_1267 : (Jvm.Cond.fieldLink "BalloonStallModel" (28 : Nat) "BalloonStallModel" "sortOf" "[I") ∈ bs_al := bs_al_in (bs_t6 _ (List.mem_of_getElem? (i := 23) rfl)) rfl
theorem fX12_28 : bs_gr "BalloonStallModel" 28 12 12 := ⟨⟨by decide, _, rfl, by decide, bsw_1267⟩, fun _ => rfl⟩
theorem pX12_28 : bs_gf "BalloonStallModel" 28 12 12 ∧ bs_isr (bs_ty 12 12) ∧ bs_fin "BalloonStallModel" 12 12 := ⟨fX12_28.1, Or.inr ⟨_, rfl⟩, fun q h => by have h2 : some _ = some q := h; cases h2; exact ⟨rfl, rfl⟩⟩
theorem bsw_1268 : (Jvm.Cond.fieldLink "BalloonStallModel" (31 : Nat) "BalloonStallModel" "bubbles" "[I") ∈ bs_al := bs_al_in (bs_t6 _ (List.mem_of_getElem? (i := 24) rfl)) rfl
theorem fX12_31 : bs_gr "BalloonStallModel" 31 12 13 := ⟨⟨by decide, _, rfl, by decide, bsw_1268⟩, fun _ => rfl⟩
theorem pX12_31 : bs_gf "BalloonStallModel" 31 12 13 ∧ bs_isr (bs_ty 12 13) ∧ bs_fin "BalloonStallModel" 12 13 := ⟨fX12_31.1, Or.inr ⟨_, rfl⟩, fun q h => by have h2 : some _ = some q := h; cases h2; exact ⟨rfl, rfl⟩⟩
theorem bsw_1269 : (Jvm.Cond.fieldLink "BalloonStallModel" (34 : Nat) "BalloonStallModel" "points" "[I") ∈ bs_al := bs_al_in (bs_t6 _ (List.mem_of_getElem? (i := 25) rfl)) rfl
theorem fX12_34 : bs_gr "BalloonStallModel" 34 12 14 := ⟨⟨by decide, _, rfl, by decide, bsw_1269⟩, fun _ => rfl⟩
theorem pX12_34 : bs_gf "BalloonStallModel" 34 12 14 ∧ bs_isr (bs_ty 12 14) ∧ bs_fin "BalloonStallModel" 12 14 := ⟨fX12_34.1, Or.inr ⟨_, rfl⟩, fun q h => by have h2 : some _ = some q := h; cases h2; exact ⟨rfl, rfl⟩⟩
theorem bsw_1270 : (Jvm.Cond.fieldLink "BalloonStallModel" (37 : Nat) "BalloonStallModel" "length" "[I") ∈ bs_al := bs_al_in (bs_t6 _ (List.mem_of_getElem? (i := 26) rfl)) rfl
theorem fX12_37 : bs_gr "BalloonStallModel" 37 12 15 := ⟨⟨by decide, _, rfl, by decide, bsw_1270⟩, fun _ => rfl⟩
theorem pX12_37 : bs_gf "BalloonStallModel" 37 12 15 ∧ bs_isr (bs_ty 12 15) ∧ bs_fin "BalloonStallModel" 12 15 := ⟨fX12_37.1, Or.inr ⟨_, rfl⟩, fun q h => by have h2 : some _ = some q := h; cases h2; exact ⟨rfl, rfl⟩⟩
theorem bsw_1271 : (Jvm.Cond.fieldLink "BalloonStallModel" (40 : Nat) "BalloonStallModel" "from" "[I") ∈ bs_al := bs_al_in (bs_t6 _ (List.mem_of_getElem? (i := 27) rfl)) rfl
theorem fX12_40 : bs_gr "BalloonStallModel" 40 12 16 := ⟨⟨by decide, _, rfl, by decide, bsw_1271⟩, fun _ => rfl⟩
theorem pX12_40 : bs_gf "BalloonStallModel" 40 12 16 ∧ bs_isr (bs_ty 12 16) ∧ bs_fin "BalloonStallModel" 12 16 := ⟨fX12_40.1, Or.inr ⟨_, rfl⟩, fun q h => by have h2 : some _ = some q := h; cases h2; exact ⟨rfl, rfl⟩⟩
theorem bsw_1272 : (Jvm.Cond.fieldLink "BalloonStallModel" (43 : Nat) "BalloonStallModel" "to" "[I") ∈ bs_al := bs_al_in (bs_t6 _ (List.mem_of_getElem? (i := 28) rfl)) rfl
theorem fX12_43 : bs_gr "BalloonStallModel" 43 12 17 := ⟨⟨by decide, _, rfl, by decide, bsw_1272⟩, fun _ => rfl⟩
theorem pX12_43 : bs_gf "BalloonStallModel" 43 12 17 ∧ bs_isr (bs_ty 12 17) ∧ bs_fin "BalloonStallModel" 12 17 := ⟨fX12_43.1, Or.inr ⟨_, rfl⟩, fun q h => by have h2 : some _ = some q := h; cases h2; exact ⟨rfl, rfl⟩⟩
theorem bsw_1273 : (Jvm.Cond.fieldLink "BalloonStallModel" (46 : Nat) "BalloonStallModel" "balloonOf" "[I") ∈ bs_al := bs_al_in (bs_t6 _ (List.mem_of_getElem? (i := 29) rfl)) rfl
theorem fX12_46 : bs_gr "BalloonStallModel" 46 12 18 := ⟨⟨by decide, _, rfl, by decide, bsw_1273⟩, fun _ => rfl⟩
theorem pX12_46 : bs_gf "BalloonStallModel" 46 12 18 ∧ bs_isr (bs_ty 12 18) ∧ bs_fin "BalloonStallModel" 12 18 := ⟨fX12_46.1, Or.inr ⟨_, rfl⟩, fun q h => by have h2 : some _ = some q := h; cases h2; exact ⟨rfl, rfl⟩⟩
theorem bsw_1274 : (Jvm.Cond.fieldLink "BalloonStallModel" (49 : Nat) "BalloonStallModel" "hands" "[I") ∈ bs_al := bs_al_in (bs_t6 _ (List.mem_of_getElem? (i := 30) rfl)) rfl
theorem fX12_49 : bs_gr "BalloonStallModel" 49 12 19 := ⟨⟨by decide, _, rfl, by decide, bsw_1274⟩, fun _ => rfl⟩
theorem pX12_49 : bs_gf "BalloonStallModel" 49 12 19 ∧ bs_isr (bs_ty 12 19) ∧ bs_fin "BalloonStallModel" 12 19 := ⟨fX12_49.1, Or.inr ⟨_, rfl⟩, fun q h => by have h2 : some _ = some q := h; cases h2; exact ⟨rfl, rfl⟩⟩
theorem bsw_1275 : (Jvm.Cond.fieldLink "BalloonStallModel" (252 : Nat) "BalloonStallModel" "figures" "I") ∈ bs_al := bs_al_in (bs_t6 _ (List.mem_of_getElem? (i := 31) rfl)) rfl
theorem fX12_252 : bs_gi "BalloonStallModel" 252 12 20 := ⟨⟨by decide, _, rfl, by decide, bsw_1275⟩, fun _ => rfl⟩
theorem pX12_252 : bs_gf "BalloonStallModel" 252 12 20 ∧ bs_ty 12 20 = .int ∧ bs_nfin 12 20 := ⟨fX12_252.1, rfl, fun q h => by have h2 : some _ = some q := h; cases h2; rfl⟩
theorem bsw_1276 : (Jvm.Cond.fieldLink "BalloonStallModel" (52 : Nat) "BalloonStallModel" "head" "[I") ∈ bs_al := bs_al_in (bs_t6 _ (List.mem_of_getElem? (i := 32) rfl)) rfl
theorem fX12_52 : bs_gr "BalloonStallModel" 52 12 21 := ⟨⟨by decide, _, rfl, by decide, bsw_1276⟩, fun _ => rfl⟩
theorem pX12_52 : bs_gf "BalloonStallModel" 52 12 21 ∧ bs_isr (bs_ty 12 21) ∧ bs_fin "BalloonStallModel" 12 21 := ⟨fX12_52.1, Or.inr ⟨_, rfl⟩, fun q h => by have h2 : some _ = some q := h; cases h2; exact ⟨rfl, rfl⟩⟩
theorem bsw_1277 : (Jvm.Cond.fieldLink "BalloonStallModel" (55 : Nat) "BalloonStallModel" "named" "[I") ∈ bs_al := bs_al_in (bs_t6 _ (List.mem_of_getElem? (i := 33) rfl)) rfl
theorem fX12_55 : bs_gr "BalloonStallModel" 55 12 22 := ⟨⟨by decide, _, rfl, by decide, bsw_1277⟩, fun _ => rfl⟩
theorem pX12_55 : bs_gf "BalloonStallModel" 55 12 22 ∧ bs_isr (bs_ty 12 22) ∧ bs_fin "BalloonStallModel" 12 22 := ⟨fX12_55.1, Or.inr ⟨_, rfl⟩, fun q h => by have h2 : some _ = some q := h; cases h2; exact ⟨rfl, rfl⟩⟩
theorem bsw_1278 : (Jvm.Cond.fieldLink "BalloonStallModel" (158 : Nat) "BalloonStallModel" "raw" "I") ∈ bs_al := bs_al_in (bs_t6 _ (List.mem_of_getElem? (i := 34) rfl)) rfl
theorem fX12_158 : bs_gi "BalloonStallModel" 158 12 23 := ⟨⟨by decide, _, rfl, by decide, bsw_1278⟩, fun _ => rfl⟩
theorem pX12_158 : bs_gf "BalloonStallModel" 158 12 23 ∧ bs_ty 12 23 = .int ∧ bs_nfin 12 23 := ⟨fX12_158.1, rfl, fun q h => by have h2 : some _ = some q := h; cases h2; rfl⟩
theorem bsw_1279 : (Jvm.Cond.fieldLink "BalloonStallModel" (171 : Nat) "BalloonStallModel" "where" "I") ∈ bs_al := bs_al_in (bs_t6 _ (List.mem_of_getElem? (i := 35) rfl)) rfl
theorem fX12_171 : bs_gi "BalloonStallModel" 171 12 24 := ⟨⟨by decide, _, rfl, by decide, bsw_1279⟩, fun _ => rfl⟩
theorem pX12_171 : bs_gf "BalloonStallModel" 171 12 24 ∧ bs_ty 12 24 = .int ∧ bs_nfin 12 24 := ⟨fX12_171.1, rfl, fun q h => by have h2 : some _ = some q := h; cases h2; rfl⟩
theorem bsw_1280 : (Jvm.Cond.fieldLink "BalloonStallModel" (161 : Nat) "BalloonStallModel" "f" "I") ∈ bs_al := bs_al_in (bs_t6 _ (List.mem_of_getElem? (i := 36) rfl)) rfl
theorem fX12_161 : bs_gi "BalloonStallModel" 161 12 25 := ⟨⟨by decide, _, rfl, by decide, bsw_1280⟩, fun _ => rfl⟩
theorem pX12_161 : bs_gf "BalloonStallModel" 161 12 25 ∧ bs_ty 12 25 = .int ∧ bs_nfin 12 25 := ⟨fX12_161.1, rfl, fun q h => by have h2 : some _ = some q := h; cases h2; rfl⟩
theorem bsw_1281 : (Jvm.Cond.fieldLink "BalloonStallModel" (58 : Nat) "BalloonStallModel" "number" "[I") ∈ bs_al := bs_al_in (bs_t6 _ (List.mem_of_getElem? (i := 37) rfl)) rfl
theorem fX12_58 : bs_gr "BalloonStallModel" 58 12 26 := ⟨⟨by decide, _, rfl, by decide, bsw_1281⟩, fun _ => rfl⟩
theorem pX12_58 : bs_gf "BalloonStallModel" 58 12 26 ∧ bs_isr (bs_ty 12 26) ∧ bs_fin "BalloonStallModel" 12 26 := ⟨fX12_58.1, Or.inr ⟨_, rfl⟩, fun q h => by have h2 : some _ = some q := h; cases h2; exact ⟨rfl, rfl⟩⟩
theorem bsw_1282 : (Jvm.Cond.fieldLink "BalloonStallModel" (61 : Nat) "BalloonStallModel" "codes" "[I") ∈ bs_al := bs_al_in (bs_t6 _ (List.mem_of_getElem? (i := 38) rfl)) rfl
theorem fX12_61 : bs_gr "BalloonStallModel" 61 12 27 := ⟨⟨by decide, _, rfl, by decide, bsw_1282⟩, fun _ => rfl⟩
theorem pX12_61 : bs_gf "BalloonStallModel" 61 12 27 ∧ bs_isr (bs_ty 12 27) ∧ bs_fin "BalloonStallModel" 12 27 := ⟨fX12_61.1, Or.inr ⟨_, rfl⟩, fun q h => by have h2 : some _ = some q := h; cases h2; exact ⟨rfl, rfl⟩⟩
theorem bsw_1283 : (Jvm.Cond.fieldLink "BalloonStallModel" (64 : Nat) "BalloonStallModel" "clauses" "[I") ∈ bs_al := bs_al_in (bs_t6 _ (List.mem_of_getElem? (i := 39) rfl)) rfl
theorem fX12_64 : bs_gr "BalloonStallModel" 64 12 28 := ⟨⟨by decide, _, rfl, by decide, bsw_1283⟩, fun _ => rfl⟩
theorem pX12_64 : bs_gf "BalloonStallModel" 64 12 28 ∧ bs_isr (bs_ty 12 28) ∧ bs_fin "BalloonStallModel" 12 28 := ⟨fX12_64.1, Or.inr ⟨_, rfl⟩, fun q h => by have h2 : some _ = some q := h; cases h2; exact ⟨rfl, rfl⟩⟩
theorem bsw_1284 : (Jvm.Cond.fieldLink "BalloonStallModel" (67 : Nat) "BalloonStallModel" "testTo" "[I") ∈ bs_al := bs_al_in (bs_t6 _ (List.mem_of_getElem? (i := 40) rfl)) rfl
theorem fX12_67 : bs_gr "BalloonStallModel" 67 12 29 := ⟨⟨by decide, _, rfl, by decide, bsw_1284⟩, fun _ => rfl⟩
theorem pX12_67 : bs_gf "BalloonStallModel" 67 12 29 ∧ bs_isr (bs_ty 12 29) ∧ bs_fin "BalloonStallModel" 12 29 := ⟨fX12_67.1, Or.inr ⟨_, rfl⟩, fun q h => by have h2 : some _ = some q := h; cases h2; exact ⟨rfl, rfl⟩⟩
theorem bsw_1285 : (Jvm.Cond.fieldLink "BalloonStallModel" (70 : Nat) "BalloonStallModel" "sumTo" "[I") ∈ bs_al := bs_al_in (bs_t6 _ (List.mem_of_getElem? (i := 41) rfl)) rfl
theorem fX12_70 : bs_gr "BalloonStallModel" 70 12 30 := ⟨⟨by decide, _, rfl, by decide, bsw_1285⟩, fun _ => rfl⟩
theorem pX12_70 : bs_gf "BalloonStallModel" 70 12 30 ∧ bs_isr (bs_ty 12 30) ∧ bs_fin "BalloonStallModel" 12 30 := ⟨fX12_70.1, Or.inr ⟨_, rfl⟩, fun q h => by have h2 : some _ = some q := h; cases h2; exact ⟨rfl, rfl⟩⟩
theorem bsw_1286 : (Jvm.Cond.fieldLink "BalloonStallModel" (255 : Nat) "BalloonStallModel" "rules" "I") ∈ bs_al := bs_al_in (bs_t6 _ (List.mem_of_getElem? (i := 42) rfl)) rfl
theorem fX12_255 : bs_gi "BalloonStallModel" 255 12 31 := ⟨⟨by decide, _, rfl, by decide, bsw_1286⟩, fun _ => rfl⟩
theorem pX12_255 : bs_gf "BalloonStallModel" 255 12 31 ∧ bs_ty 12 31 = .int ∧ bs_nfin 12 31 := ⟨fX12_255.1, rfl, fun q h => by have h2 : some _ = some q := h; cases h2; rfl⟩
theorem bsw_1287 : (Jvm.Cond.fieldLink "BalloonStallModel" (205 : Nat) "BalloonStallModel" "into" "I") ∈ bs_al := bs_al_in (bs_t6 _ (List.mem_of_getElem? (i := 43) rfl)) rfl
theorem fX12_205 : bs_gi "BalloonStallModel" 205 12 32 := ⟨⟨by decide, _, rfl, by decide, bsw_1287⟩, fun _ => rfl⟩
theorem pX12_205 : bs_gf "BalloonStallModel" 205 12 32 ∧ bs_ty 12 32 = .int ∧ bs_nfin 12 32 := ⟨fX12_205.1, rfl, fun q h => by have h2 : some _ = some q := h; cases h2; rfl⟩
theorem bsw_1288 : (Jvm.Cond.fieldLink "BalloonStallModel" (208 : Nat) "BalloonStallModel" "said" "I") ∈ bs_al := bs_al_in (bs_t6 _ (List.mem_of_getElem? (i := 44) rfl)) rfl
theorem fX12_208 : bs_gi "BalloonStallModel" 208 12 33 := ⟨⟨by decide, _, rfl, by decide, bsw_1288⟩, fun _ => rfl⟩
theorem pX12_208 : bs_gf "BalloonStallModel" 208 12 33 ∧ bs_ty 12 33 = .int ∧ bs_nfin 12 33 := ⟨fX12_208.1, rfl, fun q h => by have h2 : some _ = some q := h; cases h2; rfl⟩
theorem bsw_1289 : (Jvm.Cond.fieldLink "BalloonStallModel" (73 : Nat) "BalloonStallModel" "pile" "[J") ∈ bs_al := bs_al_in (bs_t6 _ (List.mem_of_getElem? (i := 45) rfl)) rfl
theorem fX12_73 : bs_gr "BalloonStallModel" 73 12 34 := ⟨⟨by decide, _, rfl, by decide, bsw_1289⟩, fun _ => rfl⟩
theorem pX12_73 : bs_gf "BalloonStallModel" 73 12 34 ∧ bs_isr (bs_ty 12 34) ∧ bs_fin "BalloonStallModel" 12 34 := ⟨fX12_73.1, Or.inr ⟨_, rfl⟩, fun q h => by have h2 : some _ = some q := h; cases h2; exact ⟨rfl, rfl⟩⟩
theorem bsw_1290 : (Jvm.Cond.fieldLink "BalloonStallModel" (77 : Nat) "BalloonStallModel" "partner" "[I") ∈ bs_al := bs_al_in (bs_t6 _ (List.mem_of_getElem? (i := 46) rfl)) rfl
theorem fX12_77 : bs_gr "BalloonStallModel" 77 12 35 := ⟨⟨by decide, _, rfl, by decide, bsw_1290⟩, fun _ => rfl⟩
theorem pX12_77 : bs_gf "BalloonStallModel" 77 12 35 ∧ bs_isr (bs_ty 12 35) ∧ bs_fin "BalloonStallModel" 12 35 := ⟨fX12_77.1, Or.inr ⟨_, rfl⟩, fun q h => by have h2 : some _ = some q := h; cases h2; exact ⟨rfl, rfl⟩⟩
theorem bsw_1291 : (Jvm.Cond.fieldLink "BalloonStallModel" (80 : Nat) "BalloonStallModel" "fars" "[I") ∈ bs_al := bs_al_in (bs_t6 _ (List.mem_of_getElem? (i := 47) rfl)) rfl
theorem fX12_80 : bs_gr "BalloonStallModel" 80 12 36 := ⟨⟨by decide, _, rfl, by decide, bsw_1291⟩, fun _ => rfl⟩
theorem pX12_80 : bs_gf "BalloonStallModel" 80 12 36 ∧ bs_isr (bs_ty 12 36) ∧ bs_fin "BalloonStallModel" 12 36 := ⟨fX12_80.1, Or.inr ⟨_, rfl⟩, fun q h => by have h2 : some _ = some q := h; cases h2; exact ⟨rfl, rfl⟩⟩
theorem bsw_1292 : (Jvm.Cond.fieldLink "BalloonStallModel" (83 : Nat) "BalloonStallModel" "fewest" "[I") ∈ bs_al := bs_al_in (bs_t6 _ (List.mem_of_getElem? (i := 48) rfl)) rfl
theorem fX12_83 : bs_gr "BalloonStallModel" 83 12 37 := ⟨⟨by decide, _, rfl, by decide, bsw_1292⟩, fun _ => rfl⟩
theorem pX12_83 : bs_gf "BalloonStallModel" 83 12 37 ∧ bs_isr (bs_ty 12 37) ∧ bs_fin "BalloonStallModel" 12 37 := ⟨fX12_83.1, Or.inr ⟨_, rfl⟩, fun q h => by have h2 : some _ = some q := h; cases h2; exact ⟨rfl, rfl⟩⟩
theorem bsw_1293 : (Jvm.Cond.fieldLink "BalloonStallModel" (86 : Nat) "BalloonStallModel" "isWay" "[Z") ∈ bs_al := bs_al_in (bs_t6 _ (List.mem_of_getElem? (i := 49) rfl)) rfl
theorem fX12_86 : bs_gr "BalloonStallModel" 86 12 38 := ⟨⟨by decide, _, rfl, by decide, bsw_1293⟩, fun _ => rfl⟩
theorem pX12_86 : bs_gf "BalloonStallModel" 86 12 38 ∧ bs_isr (bs_ty 12 38) ∧ bs_fin "BalloonStallModel" 12 38 := ⟨fX12_86.1, Or.inr ⟨_, rfl⟩, fun q h => by have h2 : some _ = some q := h; cases h2; exact ⟨rfl, rfl⟩⟩
theorem bsw_1294 : (Jvm.Cond.fieldLink "BalloonStallModel" (90 : Nat) "BalloonStallModel" "odds" "[I") ∈ bs_al := bs_al_in (bs_t6 _ (List.mem_of_getElem? (i := 50) rfl)) rfl
theorem fX12_90 : bs_gr "BalloonStallModel" 90 12 39 := ⟨⟨by decide, _, rfl, by decide, bsw_1294⟩, fun _ => rfl⟩
theorem pX12_90 : bs_gf "BalloonStallModel" 90 12 39 ∧ bs_isr (bs_ty 12 39) ∧ bs_fin "BalloonStallModel" 12 39 := ⟨fX12_90.1, Or.inr ⟨_, rfl⟩, fun q h => by have h2 : some _ = some q := h; cases h2; exact ⟨rfl, rfl⟩⟩
theorem bsw_1295 : (Jvm.Cond.fieldLink "BalloonStallModel" (93 : Nat) "BalloonStallModel" "comes" "[I") ∈ bs_al := bs_al_in (bs_t6 _ (List.mem_of_getElem? (i := 51) rfl)) rfl
theorem fX12_93 : bs_gr "BalloonStallModel" 93 12 40 := ⟨⟨by decide, _, rfl, by decide, bsw_1295⟩, fun _ => rfl⟩
theorem pX12_93 : bs_gf "BalloonStallModel" 93 12 40 ∧ bs_isr (bs_ty 12 40) ∧ bs_fin "BalloonStallModel" 12 40 := ⟨fX12_93.1, Or.inr ⟨_, rfl⟩, fun q h => by have h2 : some _ = some q := h; cases h2; exact ⟨rfl, rfl⟩⟩
theorem bsw_1296 : (Jvm.Cond.fieldLink "BalloonStallModel" (96 : Nat) "BalloonStallModel" "wants" "[I") ∈ bs_al := bs_al_in (bs_t6 _ (List.mem_of_getElem? (i := 52) rfl)) rfl
theorem fX12_96 : bs_gr "BalloonStallModel" 96 12 41 := ⟨⟨by decide, _, rfl, by decide, bsw_1296⟩, fun _ => rfl⟩
theorem pX12_96 : bs_gf "BalloonStallModel" 96 12 41 ∧ bs_isr (bs_ty 12 41) ∧ bs_fin "BalloonStallModel" 12 41 := ⟨fX12_96.1, Or.inr ⟨_, rfl⟩, fun q h => by have h2 : some _ = some q := h; cases h2; exact ⟨rfl, rfl⟩⟩
theorem bsw_1297 : (Jvm.Cond.fieldLink "BalloonStallModel" (99 : Nat) "BalloonStallModel" "patience" "[I") ∈ bs_al := bs_al_in (bs_t6 _ (List.mem_of_getElem? (i := 53) rfl)) rfl
theorem fX12_99 : bs_gr "BalloonStallModel" 99 12 42 := ⟨⟨by decide, _, rfl, by decide, bsw_1297⟩, fun _ => rfl⟩
theorem pX12_99 : bs_gf "BalloonStallModel" 99 12 42 ∧ bs_isr (bs_ty 12 42) ∧ bs_fin "BalloonStallModel" 12 42 := ⟨fX12_99.1, Or.inr ⟨_, rfl⟩, fun q h => by have h2 : some _ = some q := h; cases h2; exact ⟨rfl, rfl⟩⟩
theorem bsw_1298 : (Jvm.Cond.fieldLink "BalloonStallModel" (102 : Nat) "BalloonStallModel" "went" "[I") ∈ bs_al := bs_al_in (bs_t6 _ (List.mem_of_getElem? (i := 54) rfl)) rfl
theorem fX12_102 : bs_gr "BalloonStallModel" 102 12 43 := ⟨⟨by decide, _, rfl, by decide, bsw_1298⟩, fun _ => rfl⟩
theorem pX12_102 : bs_gf "BalloonStallModel" 102 12 43 ∧ bs_isr (bs_ty 12 43) ∧ bs_fin "BalloonStallModel" 12 43 := ⟨fX12_102.1, Or.inr ⟨_, rfl⟩, fun q h => by have h2 : some _ = some q := h; cases h2; exact ⟨rfl, rfl⟩⟩
theorem bsw_1299 : (Jvm.Cond.fieldLink "BalloonStallModel" (105 : Nat) "BalloonStallModel" "shelf" "[I") ∈ bs_al := bs_al_in (bs_t6 _ (List.mem_of_getElem? (i := 55) rfl)) rfl
theorem fX12_105 : bs_gr "BalloonStallModel" 105 12 44 := ⟨⟨by decide, _, rfl, by decide, bsw_1299⟩, fun _ => rfl⟩
theorem pX12_105 : bs_gf "BalloonStallModel" 105 12 44 ∧ bs_isr (bs_ty 12 44) ∧ bs_fin "BalloonStallModel" 12 44 := ⟨fX12_105.1, Or.inr ⟨_, rfl⟩, fun q h => by have h2 : some _ = some q := h; cases h2; exact ⟨rfl, rfl⟩⟩
theorem bsw_1300 : (Jvm.Cond.fieldLink "BalloonStallModel" (393 : Nat) "BalloonStallModel" "guests" "I") ∈ bs_al := bs_al_in (bs_t6 _ (List.mem_of_getElem? (i := 56) rfl)) rfl
theorem fX12_393 : bs_gi "BalloonStallModel" 393 12 45 := ⟨⟨by decide, _, rfl, by decide, bsw_1300⟩, fun _ => rfl⟩
theorem pX12_393 : bs_gf "BalloonStallModel" 393 12 45 ∧ bs_ty 12 45 = .int ∧ bs_nfin 12 45 := ⟨fX12_393.1, rfl, fun q h => by have h2 : some _ = some q := h; cases h2; rfl⟩
theorem bsw_1301 : (Jvm.Cond.fieldLink "BalloonStallModel" (396 : Nat) "BalloonStallModel" "ran" "I") ∈ bs_al := bs_al_in (bs_t6 _ (List.mem_of_getElem? (i := 57) rfl)) rfl
theorem fX12_396 : bs_gi "BalloonStallModel" 396 12 46 := ⟨⟨by decide, _, rfl, by decide, bsw_1301⟩, fun _ => rfl⟩
theorem pX12_396 : bs_gf "BalloonStallModel" 396 12 46 ∧ bs_ty 12 46 = .int ∧ bs_nfin 12 46 := ⟨fX12_396.1, rfl, fun q h => by have h2 : some _ = some q := h; cases h2; rfl⟩
theorem bsw_1302 : (Jvm.Cond.fieldLink "BalloonStallModel" (108 : Nat) "BalloonStallModel" "paceBubble" "I") ∈ bs_al := bs_al_in (bs_t6 _ (List.mem_of_getElem? (i := 58) rfl)) rfl
theorem fX12_108 : bs_gi "BalloonStallModel" 108 12 47 := ⟨⟨by decide, _, rfl, by decide, bsw_1302⟩, fun _ => rfl⟩
theorem pX12_108 : bs_gf "BalloonStallModel" 108 12 47 ∧ bs_ty 12 47 = .int ∧ bs_nfin 12 47 := ⟨fX12_108.1, rfl, fun q h => by have h2 : some _ = some q := h; cases h2; rfl⟩
theorem bsw_1303 : (Jvm.Cond.fieldLink "BalloonStallModel" (390 : Nat) "BalloonStallModel" "paceBalloon" "I") ∈ bs_al := bs_al_in (bs_t6 _ (List.mem_of_getElem? (i := 59) rfl)) rfl
theorem fX12_390 : bs_gi "BalloonStallModel" 390 12 48 := ⟨⟨by decide, _, rfl, by decide, bsw_1303⟩, fun _ => rfl⟩
theorem pX12_390 : bs_gf "BalloonStallModel" 390 12 48 ∧ bs_ty 12 48 = .int ∧ bs_nfin 12 48 := ⟨fX12_390.1, rfl, fun q h => by have h2 : some _ = some q := h; cases h2; rfl⟩
theorem bsw_1304 : (Jvm.Cond.fieldLink "BalloonStallModel" (112 : Nat) "BalloonStallModel" "now" "[I") ∈ bs_al := bs_al_in (bs_t6 _ (List.mem_of_getElem? (i := 60) rfl)) rfl
theorem fX12_112 : bs_gr "BalloonStallModel" 112 12 49 := ⟨⟨by decide, _, rfl, by decide, bsw_1304⟩, fun _ => rfl⟩
theorem pX12_112 : bs_gf "BalloonStallModel" 112 12 49 ∧ bs_isr (bs_ty 12 49) ∧ bs_fin "BalloonStallModel" 12 49 := ⟨fX12_112.1, Or.inr ⟨_, rfl⟩, fun q h => by have h2 : some _ = some q := h; cases h2; exact ⟨rfl, rfl⟩⟩
theorem bsw_1305 : (Jvm.Cond.fieldLink "BalloonStallModel" (115 : Nat) "BalloonStallModel" "lose" "[I") ∈ bs_al := bs_al_in (bs_t6 _ (List.mem_of_getElem? (i := 61) rfl)) rfl
theorem fX12_115 : bs_gr "BalloonStallModel" 115 12 50 := ⟨⟨by decide, _, rfl, by decide, bsw_1305⟩, fun _ => rfl⟩
theorem pX12_115 : bs_gf "BalloonStallModel" 115 12 50 ∧ bs_isr (bs_ty 12 50) ∧ bs_fin "BalloonStallModel" 12 50 := ⟨fX12_115.1, Or.inr ⟨_, rfl⟩, fun q h => by have h2 : some _ = some q := h; cases h2; exact ⟨rfl, rfl⟩⟩
theorem bsw_1306 : (Jvm.Cond.fieldLink "BalloonStallModel" (411 : Nat) "BalloonStallModel" "lasting" "I") ∈ bs_al := bs_al_in (bs_t6 _ (List.mem_of_getElem? (i := 62) rfl)) rfl
theorem fX12_411 : bs_gi "BalloonStallModel" 411 12 51 := ⟨⟨by decide, _, rfl, by decide, bsw_1306⟩, fun _ => rfl⟩
theorem pX12_411 : bs_gf "BalloonStallModel" 411 12 51 ∧ bs_ty 12 51 = .int ∧ bs_nfin 12 51 := ⟨fX12_411.1, rfl, fun q h => by have h2 : some _ = some q := h; cases h2; rfl⟩
theorem bsw_1307 : (Jvm.Cond.classLink "BalloonStallLaw" (8 : Nat) "BalloonStall") ∈ bs_al := bs_al_in (bs_t1 _ (List.mem_of_getElem? (i := 22) rfl)) rfl
theorem bsw_1308 : (Jvm.Cond.instantiable "BalloonStall" (15 : Nat)) ∈ bs_al := bs_al_in (bs_t1 _ (List.mem_of_getElem? (i := 23) rfl)) rfl
theorem nL_8 : bs_nw "BalloonStallLaw" 8 11 := ⟨by decide, _, rfl, bsw_1307, bsw_1308, bsw_10⟩
theorem aL_8 : Cond.classLink "BalloonStallLaw" 8 "BalloonStall" ∈ bs_al := bsw_1307
theorem bsw_1309 : (Jvm.Cond.classLink "BalloonStall" (9 : Nat) "BalloonStall$Sorts") ∈ bs_al := bs_al_in (bs_t1 _ (List.mem_of_getElem? (i := 30) rfl)) rfl
theorem bsw_1310 : (Jvm.Cond.instantiable "BalloonStall$Sorts" (4 : Nat)) ∈ bs_al := bs_al_in (bs_t1 _ (List.mem_of_getElem? (i := 31) rfl)) rfl
theorem nX11_9 : bs_nw "BalloonStall" 9 8 := ⟨by decide, _, rfl, bsw_1309, bsw_1310, bsw_5⟩
theorem aX11_9 : Cond.classLink "BalloonStall" 9 "BalloonStall$Sorts" ∈ bs_al := bsw_1309
theorem bsw_1311 : (Jvm.Cond.classLink "BalloonStall" (16 : Nat) "BalloonStall$Tape") ∈ bs_al := bs_al_in (bs_t1 _ (List.mem_of_getElem? (i := 58) rfl)) rfl
theorem bsw_1312 : (Jvm.Cond.instantiable "BalloonStall$Tape" (2 : Nat)) ∈ bs_al := bs_al_in (bs_t1 _ (List.mem_of_getElem? (i := 59) rfl)) rfl
theorem nX11_16 : bs_nw "BalloonStall" 16 10 := ⟨by decide, _, rfl, bsw_1311, bsw_1312, bsw_14⟩
theorem aX11_16 : Cond.classLink "BalloonStall" 16 "BalloonStall$Tape" ∈ bs_al := bsw_1311
theorem bsw_1313 : (Jvm.Cond.classLink "BalloonStall" (23 : Nat) "BalloonStall$Figure") ∈ bs_al := bs_al_in (bs_t1 _ (List.mem_of_getElem? (i := 75) rfl)) rfl
theorem bsw_1314 : (Jvm.Cond.instantiable "BalloonStall$Figure" (10 : Nat)) ∈ bs_al := bs_al_in (bs_t1 _ (List.mem_of_getElem? (i := 86) rfl)) rfl
theorem nX11_23 : bs_nw "BalloonStall" 23 1 := ⟨by decide, _, rfl, bsw_1313, bsw_1314, bsw_33⟩
theorem aX11_23 : Cond.classLink "BalloonStall" 23 "BalloonStall$Figure" ∈ bs_al := bsw_1313
theorem bsw_1315 : (Jvm.Cond.classLink "BalloonStall" (29 : Nat) "BalloonStall$Rule") ∈ bs_al := bs_al_in (bs_t1 _ (List.mem_of_getElem? (i := 77) rfl)) rfl
theorem bsw_1316 : (Jvm.Cond.instantiable "BalloonStall$Rule" (2 : Nat)) ∈ bs_al := bs_al_in (bs_t1 _ (List.mem_of_getElem? (i := 198) rfl)) rfl
theorem nX11_29 : bs_nw "BalloonStall" 29 6 := ⟨by decide, _, rfl, bsw_1315, bsw_1316, bsw_38⟩
theorem aX11_29 : Cond.classLink "BalloonStall" 29 "BalloonStall$Rule" ∈ bs_al := bsw_1315
theorem bsw_1317 : (Jvm.Cond.classLink "BalloonStall" (35 : Nat) "BalloonStall$FigureReader") ∈ bs_al := bs_al_in (bs_t1 _ (List.mem_of_getElem? (i := 79) rfl)) rfl
theorem bsw_1318 : (Jvm.Cond.instantiable "BalloonStall$FigureReader" (11 : Nat)) ∈ bs_al := bs_al_in (bs_t1 _ (List.mem_of_getElem? (i := 80) rfl)) rfl
theorem nX11_35 : bs_nw "BalloonStall" 35 2 := ⟨by decide, _, rfl, bsw_1317, bsw_1318, bsw_19⟩
theorem aX11_35 : Cond.classLink "BalloonStall" 35 "BalloonStall$FigureReader" ∈ bs_al := bsw_1317
theorem bsw_1319 : (Jvm.Cond.classLink "BalloonStall$FigureReader" (9 : Nat) "BalloonStall$Figure") ∈ bs_al := bs_al_in (bs_t1 _ (List.mem_of_getElem? (i := 85) rfl)) rfl
theorem nX2_9 : bs_nw "BalloonStall$FigureReader" 9 1 := ⟨by decide, _, rfl, bsw_1319, bsw_1314, bsw_33⟩
theorem aX2_9 : Cond.classLink "BalloonStall$FigureReader" 9 "BalloonStall$Figure" ∈ bs_al := bsw_1319
theorem bsw_1320 : (Jvm.Cond.classLink "BalloonStall" (42 : Nat) "BalloonStall$RuleReader") ∈ bs_al := bs_al_in (bs_t1 _ (List.mem_of_getElem? (i := 191) rfl)) rfl
theorem bsw_1321 : (Jvm.Cond.instantiable "BalloonStall$RuleReader" (11 : Nat)) ∈ bs_al := bs_al_in (bs_t1 _ (List.mem_of_getElem? (i := 192) rfl)) rfl
theorem nX11_42 : bs_nw "BalloonStall" 42 7 := ⟨by decide, _, rfl, bsw_1320, bsw_1321, bsw_24⟩
theorem aX11_42 : Cond.classLink "BalloonStall" 42 "BalloonStall$RuleReader" ∈ bs_al := bsw_1320
theorem bsw_1322 : (Jvm.Cond.classLink "BalloonStall$RuleReader" (9 : Nat) "BalloonStall$Rule") ∈ bs_al := bs_al_in (bs_t1 _ (List.mem_of_getElem? (i := 197) rfl)) rfl
theorem nX7_9 : bs_nw "BalloonStall$RuleReader" 9 6 := ⟨by decide, _, rfl, bsw_1322, bsw_1316, bsw_38⟩
theorem aX7_9 : Cond.classLink "BalloonStall$RuleReader" 9 "BalloonStall$Rule" ∈ bs_al := bsw_1322
theorem bsw_1323 : (Jvm.Cond.classLink "BalloonStall" (49 : Nat) "BalloonStall$Net") ∈ bs_al := bs_al_in (bs_t2 _ (List.mem_of_getElem? (i := 9) rfl)) rfl
theorem bsw_1324 : (Jvm.Cond.instantiable "BalloonStall$Net" (3 : Nat)) ∈ bs_al := bs_al_in (bs_t2 _ (List.mem_of_getElem? (i := 10) rfl)) rfl
theorem nX11_49 : bs_nw "BalloonStall" 49 5 := ⟨by decide, _, rfl, bsw_1323, bsw_1324, bsw_99⟩
theorem aX11_49 : Cond.classLink "BalloonStall" 49 "BalloonStall$Net" ∈ bs_al := bsw_1323
theorem bsw_1325 : (Jvm.Cond.classLink "BalloonStall" (56 : Nat) "BalloonStall$Matcher") ∈ bs_al := bs_al_in (bs_t2 _ (List.mem_of_getElem? (i := 26) rfl)) rfl
theorem bsw_1326 : (Jvm.Cond.instantiable "BalloonStall$Matcher" (10 : Nat)) ∈ bs_al := bs_al_in (bs_t2 _ (List.mem_of_getElem? (i := 27) rfl)) rfl
theorem nX11_56 : bs_nw "BalloonStall" 56 4 := ⟨by decide, _, rfl, bsw_1325, bsw_1326, bsw_116⟩
theorem aX11_56 : Cond.classLink "BalloonStall" 56 "BalloonStall$Matcher" ∈ bs_al := bsw_1325
theorem bsw_1327 : (Jvm.Cond.classLink "BalloonStall" (63 : Nat) "BalloonStall$Maker") ∈ bs_al := bs_al_in (bs_t2 _ (List.mem_of_getElem? (i := 64) rfl)) rfl
theorem bsw_1328 : (Jvm.Cond.instantiable "BalloonStall$Maker" (8 : Nat)) ∈ bs_al := bs_al_in (bs_t2 _ (List.mem_of_getElem? (i := 65) rfl)) rfl
theorem nX11_63 : bs_nw "BalloonStall" 63 3 := ⟨by decide, _, rfl, bsw_1327, bsw_1328, bsw_1⟩
theorem aX11_63 : Cond.classLink "BalloonStall" 63 "BalloonStall$Maker" ∈ bs_al := bsw_1327
theorem bsw_1329 : (Jvm.Cond.classLink "BalloonStall" (70 : Nat) "BalloonStall$Ageing") ∈ bs_al := bs_al_in (bs_t2 _ (List.mem_of_getElem? (i := 99) rfl)) rfl
theorem bsw_1330 : (Jvm.Cond.instantiable "BalloonStall$Ageing" (7 : Nat)) ∈ bs_al := bs_al_in (bs_t2 _ (List.mem_of_getElem? (i := 100) rfl)) rfl
theorem nX11_70 : bs_nw "BalloonStall" 70 0 := ⟨by decide, _, rfl, bsw_1329, bsw_1330, bsw_177⟩
theorem aX11_70 : Cond.classLink "BalloonStall" 70 "BalloonStall$Ageing" ∈ bs_al := bsw_1329
theorem bsw_1331 : (Jvm.Cond.classLink "BalloonStall" (77 : Nat) "BalloonStall$Stall") ∈ bs_al := bs_al_in (bs_t2 _ (List.mem_of_getElem? (i := 128) rfl)) rfl
theorem bsw_1332 : (Jvm.Cond.instantiable "BalloonStall$Stall" (15 : Nat)) ∈ bs_al := bs_al_in (bs_t2 _ (List.mem_of_getElem? (i := 129) rfl)) rfl
theorem nX11_77 : bs_nw "BalloonStall" 77 9 := ⟨by decide, _, rfl, bsw_1331, bsw_1332, bsw_156⟩
theorem aX11_77 : Cond.classLink "BalloonStall" 77 "BalloonStall$Stall" ∈ bs_al := bsw_1331
theorem bsw_1333 : (Jvm.Cond.constant "java/lang/Integer" (265 : Nat) (1431655765 : Int32)) ∈ bs_al := bs_al_in (bs_t4 _ (List.mem_of_getElem? (i := 6) rfl)) rfl
theorem cJ6_265 : Cond.constant "java/lang/Integer" 265 (1431655765 : Int32) ∈ bs_al := bsw_1333
theorem bsw_1334 : (Jvm.Cond.constant "java/lang/Integer" (266 : Nat) (858993459 : Int32)) ∈ bs_al := bs_al_in (bs_t4 _ (List.mem_of_getElem? (i := 7) rfl)) rfl
theorem cJ6_266 : Cond.constant "java/lang/Integer" 266 (858993459 : Int32) ∈ bs_al := bsw_1334
theorem bsw_1335 : (Jvm.Cond.constant "java/lang/Integer" (267 : Nat) (252645135 : Int32)) ∈ bs_al := bs_al_in (bs_t4 _ (List.mem_of_getElem? (i := 8) rfl)) rfl
theorem cJ6_267 : Cond.constant "java/lang/Integer" 267 (252645135 : Int32) ∈ bs_al := bsw_1335
theorem bsw_1336 : (Jvm.Cond.constant "BalloonStall$Matcher" (86 : Nat) (1000000 : Int32)) ∈ bs_al := bs_al_in (bs_t4 _ (List.mem_of_getElem? (i := 141) rfl)) rfl
theorem cX4_86 : Cond.constant "BalloonStall$Matcher" 86 (1000000 : Int32) ∈ bs_al := bsw_1336
theorem bsw_1337 : (Jvm.Cond.constant "java/lang/Integer" (264 : Nat) (65536 : Int32)) ∈ bs_al := bs_al_in (bs_t4 _ (List.mem_of_getElem? (i := 217) rfl)) rfl
theorem cJ6_264 : Cond.constant "java/lang/Integer" 264 (65536 : Int32) ∈ bs_al := bsw_1337
theorem bsw_1338 : (Jvm.Cond.constant "BalloonStall$Net" (91 : Nat) (1000000 : Int32)) ∈ bs_al := bs_al_in (bs_t5 _ (List.mem_of_getElem? (i := 18) rfl)) rfl
theorem cX5_91 : Cond.constant "BalloonStall$Net" 91 (1000000 : Int32) ∈ bs_al := bsw_1338
theorem bsw_1339 : (Jvm.Cond.constantLong "BalloonStall$Stall" (105 : Nat) (6364136223846793005 : Int64)) ∈ bs_al := bs_al_in (bs_t5 _ (List.mem_of_getElem? (i := 72) rfl)) rfl
theorem cX9_105 : Cond.constantLong "BalloonStall$Stall" 105 (6364136223846793005 : Int64) ∈ bs_al := bsw_1339
theorem bsw_1340 : (Jvm.Cond.constantLong "BalloonStall$Stall" (107 : Nat) (1442695040888963407 : Int64)) ∈ bs_al := bs_al_in (bs_t5 _ (List.mem_of_getElem? (i := 73) rfl)) rfl
theorem cX9_107 : Cond.constantLong "BalloonStall$Stall" 107 (1442695040888963407 : Int64) ∈ bs_al := bsw_1340
theorem bsw_1341 : (Jvm.Cond.constantLong "BalloonStall$Stall" (109 : Nat) (100 : Int64)) ∈ bs_al := bs_al_in (bs_t5 _ (List.mem_of_getElem? (i := 74) rfl)) rfl
theorem cX9_109 : Cond.constantLong "BalloonStall$Stall" 109 (100 : Int64) ∈ bs_al := bsw_1341
theorem bsw_1342 : (Jvm.Cond.constantLong "BalloonStall$Rule" (43 : Nat) (-1000000 : Int64)) ∈ bs_al := bs_al_in (bs_t5 _ (List.mem_of_getElem? (i := 124) rfl)) rfl
theorem cX6_43 : Cond.constantLong "BalloonStall$Rule" 43 (-1000000 : Int64) ∈ bs_al := bsw_1342
theorem bsw_1343 : (Jvm.Cond.constantLong "BalloonStall$Rule" (45 : Nat) (1000000 : Int64)) ∈ bs_al := bs_al_in (bs_t5 _ (List.mem_of_getElem? (i := 125) rfl)) rfl
theorem cX6_45 : Cond.constantLong "BalloonStall$Rule" 45 (1000000 : Int64) ∈ bs_al := bsw_1343
theorem bsw_1344 : (Jvm.Cond.classLink "BalloonStallLaw" (13 : Nat) "java/util/NoSuchElementException") ∈ bs_al := bs_al_in (bs_t5 _ (List.mem_of_getElem? (i := 155) rfl)) rfl
theorem bsw_1345 : (Jvm.Cond.classLink "BalloonStall" (175 : Nat) "java/util/NoSuchElementException") ∈ bs_al := bs_al_in (bs_t5 _ (List.mem_of_getElem? (i := 160) rfl)) rfl
theorem bsw_1346 : (Jvm.Cond.classLink "BalloonStallLaw" (24 : Nat) "BalloonStallModel") ∈ bs_al := bs_al_in (bs_t6 _ (List.mem_of_getElem? (i := 5) rfl)) rfl
theorem bsw_1347 : (Jvm.Cond.instantiable "BalloonStallModel" (52 : Nat)) ∈ bs_al := bs_al_in (bs_t6 _ (List.mem_of_getElem? (i := 6) rfl)) rfl
theorem nL_24 : bs_nw "BalloonStallLaw" 24 12 := ⟨by decide, _, rfl, bsw_1346, bsw_1347, bsw_538⟩
theorem aL_24 : Cond.classLink "BalloonStallLaw" 24 "BalloonStallModel" ∈ bs_al := bsw_1346
theorem bsw_1348 : (Jvm.Cond.constantLong "BalloonStallModel" (258 : Nat) (-1000000 : Int64)) ∈ bs_al := bs_al_in (bs_t7 _ (List.mem_of_getElem? (i := 84) rfl)) rfl
theorem cX12_258 : Cond.constantLong "BalloonStallModel" 258 (-1000000 : Int64) ∈ bs_al := bsw_1348
theorem bsw_1349 : (Jvm.Cond.constantLong "BalloonStallModel" (260 : Nat) (1000000 : Int64)) ∈ bs_al := bs_al_in (bs_t7 _ (List.mem_of_getElem? (i := 85) rfl)) rfl
theorem cX12_260 : Cond.constantLong "BalloonStallModel" 260 (1000000 : Int64) ∈ bs_al := bsw_1349
theorem bsw_1350 : (Jvm.Cond.constantLong "BalloonStallModel" (271 : Nat) (2 : Int64)) ∈ bs_al := bs_al_in (bs_t7 _ (List.mem_of_getElem? (i := 88) rfl)) rfl
theorem cX12_271 : Cond.constantLong "BalloonStallModel" 271 (2 : Int64) ∈ bs_al := bsw_1350
theorem bsw_1351 : (Jvm.Cond.constant "BalloonStallModel" (365 : Nat) (1000000 : Int32)) ∈ bs_al := bs_al_in (bs_t7 _ (List.mem_of_getElem? (i := 239) rfl)) rfl
theorem cX12_365 : Cond.constant "BalloonStallModel" 365 (1000000 : Int32) ∈ bs_al := bsw_1351
theorem bsw_1352 : (Jvm.Cond.constantLong "BalloonStallModel" (405 : Nat) (6364136223846793005 : Int64)) ∈ bs_al := bs_al_in (bs_t8 _ (List.mem_of_getElem? (i := 73) rfl)) rfl
theorem cX12_405 : Cond.constantLong "BalloonStallModel" 405 (6364136223846793005 : Int64) ∈ bs_al := bsw_1352
theorem bsw_1353 : (Jvm.Cond.constantLong "BalloonStallModel" (407 : Nat) (1442695040888963407 : Int64)) ∈ bs_al := bs_al_in (bs_t8 _ (List.mem_of_getElem? (i := 74) rfl)) rfl
theorem cX12_407 : Cond.constantLong "BalloonStallModel" 407 (1442695040888963407 : Int64) ∈ bs_al := bsw_1353
theorem bsw_1354 : (Jvm.Cond.constantLong "BalloonStallModel" (409 : Nat) (100 : Int64)) ∈ bs_al := bs_al_in (bs_t8 _ (List.mem_of_getElem? (i := 75) rfl)) rfl
theorem cX12_409 : Cond.constantLong "BalloonStallModel" 409 (100 : Int64) ∈ bs_al := bsw_1354
theorem bsw_1355 : (Jvm.Cond.constantLong "BalloonStallLaw" (154 : Nat) (4294967295 : Int64)) ∈ bs_al := bs_al_in (bs_t8 _ (List.mem_of_getElem? (i := 100) rfl)) rfl
theorem cL_154 : Cond.constantLong "BalloonStallLaw" 154 (4294967295 : Int64) ∈ bs_al := bsw_1355
theorem bsw_1356 : (Jvm.Cond.arrayClass Jvm.ClassFile.FieldType.char) ∈ bs_al := bs_al_in (bs_t1 _ (List.mem_of_getElem? (i := 74) rfl)) rfl
theorem w_arr_char : Cond.arrayClass .char ∈ bs_al := bsw_1356
theorem bsw_1357 : (Jvm.Cond.arrayClass Jvm.ClassFile.FieldType.int) ∈ bs_al := bs_al_in (bs_t1 _ (List.mem_of_getElem? (i := 57) rfl)) rfl
theorem w_arr_int : Cond.arrayClass .int ∈ bs_al := bsw_1357
theorem bsw_1358 : (Jvm.Cond.arrayClass Jvm.ClassFile.FieldType.long) ∈ bs_al := bs_al_in (bs_t2 _ (List.mem_of_getElem? (i := 8) rfl)) rfl
theorem w_arr_long : Cond.arrayClass .long ∈ bs_al := bsw_1358
theorem bsw_1359 : (Jvm.Cond.arrayClass Jvm.ClassFile.FieldType.boolean) ∈ bs_al := bs_al_in (bs_t2 _ (List.mem_of_getElem? (i := 98) rfl)) rfl
theorem w_arr_boolean : Cond.arrayClass .boolean ∈ bs_al := bsw_1359
theorem bsw_1360 : (Jvm.Cond.static ({ cls := "java/lang/System", name := "arraycopy", desc := "(Ljava/lang/Object;ILjava/lang/Object;II)V" } : Jvm.MethodName)) ∈ bs_al := bs_al_in (bs_t3 _ (List.mem_of_getElem? (i := 207) rfl)) rfl
theorem w_acp_static : Cond.static arraycopyName ∈ bs_al := bsw_1360
theorem bsw_1361 : (Jvm.Cond.native ({ cls := "java/lang/System", name := "arraycopy", desc := "(Ljava/lang/Object;ILjava/lang/Object;II)V" } : Jvm.MethodName)) ∈ bs_al := bs_al_in (bs_t3 _ (List.mem_of_getElem? (i := 208) rfl)) rfl
theorem w_acp_native : Cond.native arraycopyName ∈ bs_al := bsw_1361
theorem bsw_1362 : (Jvm.Cond.initialized "java/lang/System") ∈ bs_al := bs_al_in (bs_t1 _ (List.mem_of_getElem? (i := 16) rfl)) rfl
theorem w_acp_ini : Cond.initialized "java/lang/System" ∈ bs_al := bsw_1362
theorem bsw_1363 : (Jvm.Cond.methodLink "BalloonStall$Ageing" (42 : Nat) ({ cls := "java/lang/System", name := "arraycopy", desc := "(Ljava/lang/Object;ILjava/lang/Object;II)V" } : Jvm.MethodName)) ∈ bs_al := bs_al_in (bs_t5 _ (List.mem_of_getElem? (i := 87) rfl)) rfl
theorem lX0_42 : Cond.methodLink "BalloonStall$Ageing" 42 arraycopyName ∈ bs_al := bsw_1363
theorem bsw_1364 : (Jvm.Cond.methodLink "BalloonStall$Figure" (49 : Nat) ({ cls := "java/lang/System", name := "arraycopy", desc := "(Ljava/lang/Object;ILjava/lang/Object;II)V" } : Jvm.MethodName)) ∈ bs_al := bs_al_in (bs_t3 _ (List.mem_of_getElem? (i := 206) rfl)) rfl
theorem lX1_49 : Cond.methodLink "BalloonStall$Figure" 49 arraycopyName ∈ bs_al := bsw_1364
theorem bsw_1365 : (Jvm.Cond.methodLink "BalloonStall$Rule" (15 : Nat) ({ cls := "java/lang/System", name := "arraycopy", desc := "(Ljava/lang/Object;ILjava/lang/Object;II)V" } : Jvm.MethodName)) ∈ bs_al := bs_al_in (bs_t3 _ (List.mem_of_getElem? (i := 217) rfl)) rfl
theorem lX6_15 : Cond.methodLink "BalloonStall$Rule" 15 arraycopyName ∈ bs_al := bsw_1365
theorem bsw_1366 : (Jvm.Cond.methodLink "BalloonStall$Stall" (52 : Nat) ({ cls := "java/lang/System", name := "arraycopy", desc := "(Ljava/lang/Object;ILjava/lang/Object;II)V" } : Jvm.MethodName)) ∈ bs_al := bs_al_in (bs_t5 _ (List.mem_of_getElem? (i := 53) rfl)) rfl
theorem lX9_52 : Cond.methodLink "BalloonStall$Stall" 52 arraycopyName ∈ bs_al := bsw_1366
