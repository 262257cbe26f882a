/-! THE TABLES: what the abstract machine reads (written by a program of mine from the names and the statement's words) -/
def am_ftl : List (List Nat) := [[0, 1, 0, 3, 3, 3, 3, 3, 3, 3, 3, 3], [3, 0, 3, 3, 3, 3, 0, 0, 0, 0], [3, 3, 3, 3, 3, 3, 0, 2, 2], [0, 1, 0, 0, 3, 3, 3], [0, 0, 0, 0, 0, 0], [3, 3, 3, 3, 3, 3, 3, 0, 0, 0, 0, 0, 0, 0], [3, 0, 0, 0, 0, 0, 0, 0, 3, 3, 3, 3, 3, 3, 3, 3, 3, 3, 3, 3, 3, 3, 3, 0, 0, 0, 0, 0, 0, 0, 3, 3, 3, 3, 3, 3, 0, 3, 3, 3, 3, 3, 0, 0, 3, 3, 3, 3, 0, 2, 2, 0, 3, 3, 3, 3, 3, 3, 3, 3, 1, 2, 2, 2, 2, 3, 0]]
def am_ffl : List (List Bool) := [[false, false, false, true, true, true, true, true, true, true, true, true], [true, false, false, true, true, true, false, false, false, false], [true, true, true, true, true, true, false, false, false], [false, false, false, false, true, true, true], [false, false, false, false, false, false], [true, true, true, true, true, false, true, false, false, false, false, false, false, false], [true, false, false, false, false, false, false, false, true, true, true, true, true, true, true, true, true, true, true, true, true, true, true, false, false, false, false, false, false, false, true, true, true, true, true, true, false, true, true, true, true, true, false, false, true, true, true, true, false, false, false, false, true, true, true, true, true, true, true, true, false, false, false, false, false, true, false]]
def am_fty (ci k : Nat) : Nat := (am_ftl.getD ci []).getD k 0
def am_ffin (ci k : Nat) : Bool := (am_ffl.getD ci []).getD k true
def am_nf (ci : Nat) : Nat := (am_ftl.getD ci []).length
def am_ML : List (Nat × ByteArray × Nat × Nat × Nat × Bool × Nat) := [
  (0, cX0_clear, 1, 0, 0, false, 0),
  (0, cX0_isPlace, 2, 1, 2, false, 0),
  (0, cX0_begin, 2, 1, 2, false, 0),
  (0, cX0_add, 5, 3, 0, false, 0),
  (0, cX0_namedBy, 2, 1, 1, false, 0),
  (0, cX0_nameOf, 2, 1, 1, false, 0),
  (0, cX0_belowOf, 2, 1, 1, false, 0),
  (0, cX0_inOrder, 2, 1, 1, false, 0),
  (0, cX0_goal, 2, 1, 1, false, 0),
  (0, cX0_find, 3, 1, 1, false, 0),
  (0, cX0_tie, 5, 1, 1, false, 0),
  (0, cX0_placeOf, 5, 2, 1, false, 0),
  (0, cX0_firstTwice, 2, 0, 1, false, 0),
  (0, cX0_arrange, 7, 0, 0, false, 0),
  (0, cX0_withBelow, 4, 1, 1, false, 0),
  (1, cX1_add, 3, 1, 0, false, 1),
  (1, cX1_read, 3, 1, 1, false, 1),
  (1, cX1_part, 7, 1, 0, false, 1),
  (1, cX1_kindAt, 3, 1, 1, false, 1),
  (1, cX1_putWord, 7, 4, 0, false, 1),
  (1, cX1_turnTo, 2, 1, 0, false, 1),
  (1, cX1_fail, 1, 0, 0, false, 1),
  (1, cX1_take, 2, 1, 0, false, 1),
  (1, cX1_isKept, 1, 1, 2, true, 1),
  (1, cX1_opOf, 1, 1, 1, true, 1),
  (1, cX1_readSum, 4, 1, 0, false, 1),
  (1, cX1_readProduct, 4, 1, 0, false, 1),
  (1, cX1_readPart, 3, 1, 0, false, 1),
  (1, cX1_readCall, 6, 2, 0, false, 1),
  (1, cX1_open, 2, 1, 0, false, 1),
  (2, cX2_setMark, 5, 3, 0, false, 2),
  (2, cX2_at, 3, 2, 3, false, 2),
  (2, cX2_ofRule, 2, 1, 3, false, 2),
  (2, cX2_keep, 2, 0, 0, false, 2),
  (2, cX2_kept, 2, 1, 3, false, 2),
  (2, cX2_settle, 8, 3, 0, false, 2),
  (2, cX2_run, 9, 2, 3, false, 2),
  (2, cX2_ofList, 11, 4, 3, false, 2),
  (2, cX2_sortDown, 7, 2, 0, false, 2),
  (2, cX2_tryMark, 3, 2, 0, false, 2),
  (2, cX2_widen, 3, 1, 0, false, 2),
  (2, cX2_tryEnds, 6, 3, 0, false, 2),
  (2, cX2_tryAll, 8, 3, 0, false, 2),
  (2, cX2_vary, 4, 1, 0, false, 2),
  (2, cX2_leastMark, 8, 4, 1, false, 2),
  (3, cX3_latest, 2, 1, 1, false, 3),
  (3, cX3_isSlot, 2, 1, 2, false, 3),
  (3, cX3_tickOf, 2, 1, 1, false, 3),
  (3, cX3_lastMarked, 2, 0, 1, false, 3),
  (3, cX3_waits, 3, 1, 2, false, 3),
  (3, cX3_takesMore, 2, 1, 2, false, 3),
  (3, cX3_add, 5, 3, 0, false, 3),
  (3, cX3_put, 4, 2, 1, false, 3),
  (3, cX3_hasShown, 2, 1, 2, false, 3),
  (3, cX3_putShown, 3, 2, 1, false, 3),
  (3, cX3_shownMarks, 3, 0, 1, false, 3),
  (3, cX3_isMarked, 1, 0, 2, false, 3),
  (3, cX3_days, 4, 2, 1, false, 3),
  (3, cX3_share, 4, 2, 1, false, 3),
  (3, cX3_worth, 4, 1, 3, false, 3),
  (3, cX3_shownWorth, 5, 1, 3, false, 3),
  (4, cX4_upper, 2, 1, 3, true, 99),
  (4, cX4_lower, 2, 1, 3, true, 99),
  (4, cX4_isNumber, 2, 1, 2, true, 99),
  (4, cX4_whole, 1, 1, 3, true, 99),
  (4, cX4_of, 11, 2, 3, true, 99),
  (4, cX4_plus, 4, 2, 3, true, 99),
  (4, cX4_negated, 2, 1, 3, true, 99),
  (4, cX4_times, 4, 2, 3, true, 99),
  (4, cX4_over, 3, 2, 3, true, 99),
  (4, cX4_onTheWay, 2, 1, 3, true, 99),
  (4, cX4_ended, 2, 1, 3, true, 99),
  (4, cX4_cap, 3, 2, 3, true, 99),
  (4, cX4_pass, 3, 2, 3, true, 99),
  (4, cX4_isLess, 4, 2, 2, true, 99),
  (4, cX4_isAtLeast, 3, 2, 2, true, 99),
  (6, cX6_pupil, 1, 0, 1, false, 5),
  (6, cX6_group, 4, 2, 1, false, 5),
  (6, cX6_work, 7, 4, 1, false, 5),
  (6, cX6_leave, 6, 3, 1, false, 5),
  (6, cX6_excuse, 5, 3, 1, false, 5),
  (6, cX6_tick, 2, 1, 1, false, 5),
  (6, cX6_text, 6, 5, 1, false, 5),
  (6, cX6_rules, 7, 2, 1, false, 5),
  (6, cX6_name, 2, 1, 1, false, 5),
  (6, cX6_hangs, 3, 2, 1, false, 5),
  (6, cX6_need, 5, 3, 1, false, 5),
  (6, cX6_opens, 4, 2, 1, false, 5),
  (6, cX6_hand, 5, 2, 1, false, 5),
  (6, cX6_mark, 6, 3, 1, false, 5),
  (6, cX6_peer, 7, 3, 1, false, 5),
  (6, cX6_show, 7, 4, 1, false, 5),
  (6, cX6_appeal, 7, 3, 1, false, 5),
  (6, cX6_markOf, 6, 3, 1, false, 5),
  (6, cX6_value, 6, 3, 1, false, 5),
  (6, cX6_range, 6, 3, 1, false, 5),
  (6, cX6_least, 8, 4, 1, false, 5),
  (6, cX6_count, 3, 1, 1, false, 5),
  (6, cX6_refuse, 3, 1, 1, false, 5),
  (6, cX6_refuseText, 2, 1, 1, false, 5),
  (6, cX6_isPupil, 2, 1, 2, false, 5),
  (6, cX6_isRule, 2, 1, 2, false, 5),
  (6, cX6_workAt, 2, 1, 4, false, 5),
  (6, cX6_sheetOf, 4, 2, 4, false, 5),
  (6, cX6_bit, 2, 2, 1, true, 5),
  (6, cX6_part, 3, 2, 1, true, 5),
  (6, cX6_under, 8, 2, 1, false, 5),
  (6, cX6_hasRing, 3, 1, 2, false, 5),
  (6, cX6_needsBeyond, 4, 1, 2, false, 5),
  (6, cX6_lessens, 5, 1, 2, false, 5),
  (6, cX6_load, 5, 1, 0, false, 5),
  (6, cX6_isOpen, 3, 2, 2, false, 5),
  (6, cX6_openEnded, 5, 1, 1, false, 5),
  (6, cX6_inGroup, 3, 2, 2, false, 5),
  (6, cX6_handGrouped, 7, 2, 1, false, 5),
  (6, cX6_markGrouped, 9, 3, 1, false, 5),
  (6, cX6_peerOf, 8, 3, 1, false, 5),
  (6, cX6_isPeer, 4, 3, 2, false, 5),
  (7, cX7_refuse, 2, 1, 1, false, 6),
  (7, cX7_refuseFar, 2, 1, 1, false, 6),
  (7, cX7_isIn, 2, 2, 2, true, 6),
  (7, cX7_isPupil, 2, 1, 2, false, 6),
  (7, cX7_isWork, 2, 1, 2, false, 6),
  (7, cX7_isRule, 2, 1, 2, false, 6),
  (7, cX7_spot, 2, 2, 1, true, 6),
  (7, cX7_pupil, 1, 0, 1, false, 6),
  (7, cX7_group, 4, 2, 1, false, 6),
  (7, cX7_work, 5, 4, 1, false, 6),
  (7, cX7_leave, 5, 3, 1, false, 6),
  (7, cX7_excuse, 4, 3, 1, false, 6),
  (7, cX7_tick, 2, 1, 1, false, 6),
  (7, cX7_text, 8, 5, 1, false, 6),
  (7, cX7_isDigit, 1, 1, 2, true, 6),
  (7, cX7_isLetter, 1, 1, 2, true, 6),
  (7, cX7_reads, 3, 0, 0, false, 6),
  (7, cX7_isSign, 2, 1, 2, false, 6),
  (7, cX7_isFine, 1, 0, 2, false, 6),
  (7, cX7_faults, 1, 0, 1, false, 6),
  (7, cX7_must, 2, 1, 0, false, 6),
  (7, cX7_node, 4, 2, 1, false, 6),
  (7, cX7_adds, 3, 2, 0, false, 6),
  (7, cX7_functionOf, 1, 1, 1, true, 6),
  (7, cX7_workOf, 2, 1, 1, true, 6),
  (7, cX7_sum, 5, 1, 1, false, 6),
  (7, cX7_product, 5, 1, 1, false, 6),
  (7, cX7_one, 4, 1, 1, false, 6),
  (7, cX7_list, 5, 3, 1, false, 6),
  (7, cX7_parses, 5, 1, 2, false, 6),
  (7, cX7_ruleOf, 4, 2, 1, false, 6),
  (7, cX7_holes, 7, 0, 1, false, 6),
  (7, cX7_twice, 2, 0, 1, false, 6),
  (7, cX7_findHangs, 5, 1, 0, false, 6),
  (7, cX7_isRing, 3, 0, 2, false, 6),
  (7, cX7_keepsOld, 4, 0, 0, false, 6),
  (7, cX7_isLess, 5, 1, 2, false, 6),
  (7, cX7_refusesText, 2, 1, 1, false, 6),
  (7, cX7_rules, 7, 2, 1, false, 6),
  (7, cX7_name, 2, 1, 1, false, 6),
  (7, cX7_hangs, 3, 2, 1, false, 6),
  (7, cX7_need, 5, 3, 1, false, 6),
  (7, cX7_tells, 11, 2, 0, false, 6),
  (7, cX7_days, 5, 3, 1, false, 6),
  (7, cX7_part100, 4, 3, 3, false, 6),
  (7, cX7_peerMarks, 5, 2, 1, false, 6),
  (7, cX7_isMarked, 3, 2, 2, false, 6),
  (7, cX7_markedIs, 7, 2, 0, false, 6),
  (7, cX7_isOpenEnded, 3, 2, 2, false, 6),
  (7, cX7_begins, 3, 1, 0, false, 6),
  (7, cX7_forgets, 2, 0, 0, false, 6),
  (7, cX7_workIs, 2, 1, 0, false, 6),
  (7, cX7_values, 2, 1, 0, false, 6),
  (7, cX7_valueOf, 2, 1, 0, false, 6),
  (7, cX7_partsOf, 6, 1, 0, false, 6),
  (7, cX7_plus, 5, 2, 0, false, 6),
  (7, cX7_sums, 3, 1, 0, false, 6),
  (7, cX7_multiplies, 3, 1, 0, false, 6),
  (7, cX7_caps, 4, 1, 0, false, 6),
  (7, cX7_picks, 6, 2, 0, false, 6),
  (7, cX7_isOpen, 3, 2, 2, false, 6),
  (7, cX7_opens, 3, 2, 1, false, 6),
  (7, cX7_hands, 6, 4, 0, false, 6),
  (7, cX7_hand, 4, 2, 1, false, 6),
  (7, cX7_handsAll, 5, 2, 1, false, 6),
  (7, cX7_toMark, 5, 2, 1, false, 6),
  (7, cX7_mark, 11, 3, 1, false, 6),
  (7, cX7_peerOf, 7, 3, 1, false, 6),
  (7, cX7_isShown, 3, 2, 2, false, 6),
  (7, cX7_peer, 4, 3, 1, false, 6),
  (7, cX7_show, 6, 4, 1, false, 6),
  (7, cX7_appeal, 7, 3, 1, false, 6),
  (7, cX7_markOf, 6, 3, 1, false, 6),
  (7, cX7_value, 4, 3, 1, false, 6),
  (7, cX7_looks, 2, 1, 0, false, 6),
  (7, cX7_goes, 4, 2, 0, false, 6),
  (7, cX7_range, 5, 3, 1, false, 6),
  (7, cX7_least, 6, 4, 1, false, 6),
  (7, cX7_count, 2, 1, 1, false, 6),
  (8, cJ6_bitCount_0f7a4, 1, 1, 1, true, 99),
  (9, cJ7_fill_53178, 4, 2, 0, true, 99)]
def am_YL : List MethodName := [yX0_clear, yX0_isPlace, yX0_begin, yX0_add, yX0_namedBy, yX0_nameOf, yX0_belowOf, yX0_inOrder, yX0_goal, yX0_find, yX0_tie, yX0_placeOf, yX0_firstTwice, yX0_arrange, yX0_withBelow, yX1_add, yX1_read, yX1_part, yX1_kindAt, yX1_putWord, yX1_turnTo, yX1_fail, yX1_take, yX1_isKept, yX1_opOf, yX1_readSum, yX1_readProduct, yX1_readPart, yX1_readCall, yX1_open, yX2_setMark, yX2_at, yX2_ofRule, yX2_keep, yX2_kept, yX2_settle, yX2_run, yX2_ofList, yX2_sortDown, yX2_tryMark, yX2_widen, yX2_tryEnds, yX2_tryAll, yX2_vary, yX2_leastMark, yX3_latest, yX3_isSlot, yX3_tickOf, yX3_lastMarked, yX3_waits, yX3_takesMore, yX3_add, yX3_put, yX3_hasShown, yX3_putShown, yX3_shownMarks, yX3_isMarked, yX3_days, yX3_share, yX3_worth, yX3_shownWorth, yX4_upper, yX4_lower, yX4_isNumber, yX4_whole, yX4_of, yX4_plus, yX4_negated, yX4_times, yX4_over, yX4_onTheWay, yX4_ended, yX4_cap, yX4_pass, yX4_isLess, yX4_isAtLeast, yX6_pupil, yX6_group, yX6_work, yX6_leave, yX6_excuse, yX6_tick, yX6_text, yX6_rules, yX6_name, yX6_hangs, yX6_need, yX6_opens, yX6_hand, yX6_mark, yX6_peer, yX6_show, yX6_appeal, yX6_markOf, yX6_value, yX6_range, yX6_least, yX6_count, yX6_refuse, yX6_refuseText, yX6_isPupil, yX6_isRule, yX6_workAt, yX6_sheetOf, yX6_bit, yX6_part, yX6_under, yX6_hasRing, yX6_needsBeyond, yX6_lessens, yX6_load, yX6_isOpen, yX6_openEnded, yX6_inGroup, yX6_handGrouped, yX6_markGrouped, yX6_peerOf, yX6_isPeer, yX7_refuse, yX7_refuseFar, yX7_isIn, yX7_isPupil, yX7_isWork, yX7_isRule, yX7_spot, yX7_pupil, yX7_group, yX7_work, yX7_leave, yX7_excuse, yX7_tick, yX7_text, yX7_isDigit, yX7_isLetter, yX7_reads, yX7_isSign, yX7_isFine, yX7_faults, yX7_must, yX7_node, yX7_adds, yX7_functionOf, yX7_workOf, yX7_sum, yX7_product, yX7_one, yX7_list, yX7_parses, yX7_ruleOf, yX7_holes, yX7_twice, yX7_findHangs, yX7_isRing, yX7_keepsOld, yX7_isLess, yX7_refusesText, yX7_rules, yX7_name, yX7_hangs, yX7_need, yX7_tells, yX7_days, yX7_part100, yX7_peerMarks, yX7_isMarked, yX7_markedIs, yX7_isOpenEnded, yX7_begins, yX7_forgets, yX7_workIs, yX7_values, yX7_valueOf, yX7_partsOf, yX7_plus, yX7_sums, yX7_multiplies, yX7_caps, yX7_picks, yX7_isOpen, yX7_opens, yX7_hands, yX7_hand, yX7_handsAll, yX7_toMark, yX7_mark, yX7_peerOf, yX7_isShown, yX7_peer, yX7_show, yX7_appeal, yX7_markOf, yX7_value, yX7_looks, yX7_goes, yX7_range, yX7_least, yX7_count, yJ6_bitCount_0f7a4, yJ7_fill_53178]
def am_RL : List (Option FieldType) := [(none : Option FieldType), (some FieldType.boolean), (some FieldType.boolean), (none : Option FieldType), (some FieldType.int), (some FieldType.int), (some FieldType.int), (some FieldType.int), (some FieldType.int), (some FieldType.int), (some FieldType.int), (some FieldType.int), (some FieldType.int), (none : Option FieldType), (some FieldType.int), (none : Option FieldType), (some FieldType.int), (none : Option FieldType), (some FieldType.int), (none : Option FieldType), (none : Option FieldType), (none : Option FieldType), (none : Option FieldType), (some FieldType.boolean), (some FieldType.int), (none : Option FieldType), (none : Option FieldType), (none : Option FieldType), (none : Option FieldType), (none : Option FieldType), (none : Option FieldType), (some FieldType.long), (some FieldType.long), (none : Option FieldType), (some FieldType.long), (none : Option FieldType), (some FieldType.long), (some FieldType.long), (none : Option FieldType), (none : Option FieldType), (none : Option FieldType), (none : Option FieldType), (none : Option FieldType), (none : Option FieldType), (some FieldType.int), (some FieldType.int), (some FieldType.boolean), (some FieldType.int), (some FieldType.int), (some FieldType.boolean), (some FieldType.boolean), (none : Option FieldType), (some FieldType.int), (some FieldType.boolean), (some FieldType.int), (some FieldType.int), (some FieldType.boolean), (some FieldType.int), (some FieldType.int), (some FieldType.long), (some FieldType.long), (some FieldType.long), (some FieldType.long), (some FieldType.boolean), (some FieldType.long), (some FieldType.long), (some FieldType.long), (some FieldType.long), (some FieldType.long), (some FieldType.long), (some FieldType.long), (some FieldType.long), (some FieldType.long), (some FieldType.long), (some FieldType.boolean), (some FieldType.boolean), (some FieldType.int), (some FieldType.int), (some FieldType.int), (some FieldType.int), (some FieldType.int), (some FieldType.int), (some FieldType.int), (some FieldType.int), (some FieldType.int), (some FieldType.int), (some FieldType.int), (some FieldType.int), (some FieldType.int), (some FieldType.int), (some FieldType.int), (some FieldType.int), (some FieldType.int), (some FieldType.int), (some FieldType.int), (some FieldType.int), (some FieldType.int), (some FieldType.int), (some FieldType.int), (some FieldType.int), (some FieldType.boolean), (some FieldType.boolean), (some (FieldType.object "CourseHouse$Work")), (some (FieldType.object "CourseHouse$Sheet")), (some FieldType.int), (some FieldType.int), (some FieldType.int), (some FieldType.boolean), (some FieldType.boolean), (some FieldType.boolean), (none : Option FieldType), (some FieldType.boolean), (some FieldType.int), (some FieldType.boolean), (some FieldType.int), (some FieldType.int), (some FieldType.int), (some FieldType.boolean), (some FieldType.int), (some FieldType.int), (some FieldType.boolean), (some FieldType.boolean), (some FieldType.boolean), (some FieldType.boolean), (some FieldType.int), (some FieldType.int), (some FieldType.int), (some FieldType.int), (some FieldType.int), (some FieldType.int), (some FieldType.int), (some FieldType.int), (some FieldType.boolean), (some FieldType.boolean), (none : Option FieldType), (some FieldType.boolean), (some FieldType.boolean), (some FieldType.int), (none : Option FieldType), (some FieldType.int), (none : Option FieldType), (some FieldType.int), (some FieldType.int), (some FieldType.int), (some FieldType.int), (some FieldType.int), (some FieldType.int), (some FieldType.boolean), (some FieldType.int), (some FieldType.int), (some FieldType.int), (none : Option FieldType), (some FieldType.boolean), (none : Option FieldType), (some FieldType.boolean), (some FieldType.int), (some FieldType.int), (some FieldType.int), (some FieldType.int), (some FieldType.int), (none : Option FieldType), (some FieldType.int), (some FieldType.long), (some FieldType.int), (some FieldType.boolean), (none : Option FieldType), (some FieldType.boolean), (none : Option FieldType), (none : Option FieldType), (none : Option FieldType), (none : Option FieldType), (none : Option FieldType), (none : Option FieldType), (none : Option FieldType), (none : Option FieldType), (none : Option FieldType), (none : Option FieldType), (none : Option FieldType), (some FieldType.boolean), (some FieldType.int), (none : Option FieldType), (some FieldType.int), (some FieldType.int), (some FieldType.int), (some FieldType.int), (some FieldType.int), (some FieldType.boolean), (some FieldType.int), (some FieldType.int), (some FieldType.int), (some FieldType.int), (some FieldType.int), (none : Option FieldType), (none : Option FieldType), (some FieldType.int), (some FieldType.int), (some FieldType.int), (some FieldType.int), (none : Option FieldType)]
def am_CL : List String := [RX0, RX1, RX2, RX3, RX4, RX5, RX6, RX7, RJ6, RJ7]
abbrev mX0_clear : Nat := 0
abbrev mX0_isPlace : Nat := 1
abbrev mX0_begin : Nat := 2
abbrev mX0_add : Nat := 3
abbrev mX0_namedBy : Nat := 4
abbrev mX0_nameOf : Nat := 5
abbrev mX0_belowOf : Nat := 6
abbrev mX0_inOrder : Nat := 7
abbrev mX0_goal : Nat := 8
abbrev mX0_find : Nat := 9
abbrev mX0_tie : Nat := 10
abbrev mX0_placeOf : Nat := 11
abbrev mX0_firstTwice : Nat := 12
abbrev mX0_arrange : Nat := 13
abbrev mX0_withBelow : Nat := 14
abbrev mX1_add : Nat := 15
abbrev mX1_read : Nat := 16
abbrev mX1_part : Nat := 17
abbrev mX1_kindAt : Nat := 18
abbrev mX1_putWord : Nat := 19
abbrev mX1_turnTo : Nat := 20
abbrev mX1_fail : Nat := 21
abbrev mX1_take : Nat := 22
abbrev mX1_isKept : Nat := 23
abbrev mX1_opOf : Nat := 24
abbrev mX1_readSum : Nat := 25
abbrev mX1_readProduct : Nat := 26
abbrev mX1_readPart : Nat := 27
abbrev mX1_readCall : Nat := 28
abbrev mX1_open : Nat := 29
abbrev mX2_setMark : Nat := 30
abbrev mX2_at : Nat := 31
abbrev mX2_ofRule : Nat := 32
abbrev mX2_keep : Nat := 33
abbrev mX2_kept : Nat := 34
abbrev mX2_settle : Nat := 35
abbrev mX2_run : Nat := 36
abbrev mX2_ofList : Nat := 37
abbrev mX2_sortDown : Nat := 38
abbrev mX2_tryMark : Nat := 39
abbrev mX2_widen : Nat := 40
abbrev mX2_tryEnds : Nat := 41
abbrev mX2_tryAll : Nat := 42
abbrev mX2_vary : Nat := 43
abbrev mX2_leastMark : Nat := 44
abbrev mX3_latest : Nat := 45
abbrev mX3_isSlot : Nat := 46
abbrev mX3_tickOf : Nat := 47
abbrev mX3_lastMarked : Nat := 48
abbrev mX3_waits : Nat := 49
abbrev mX3_takesMore : Nat := 50
abbrev mX3_add : Nat := 51
abbrev mX3_put : Nat := 52
abbrev mX3_hasShown : Nat := 53
abbrev mX3_putShown : Nat := 54
abbrev mX3_shownMarks : Nat := 55
abbrev mX3_isMarked : Nat := 56
abbrev mX3_days : Nat := 57
abbrev mX3_share : Nat := 58
abbrev mX3_worth : Nat := 59
abbrev mX3_shownWorth : Nat := 60
abbrev mX4_upper : Nat := 61
abbrev mX4_lower : Nat := 62
abbrev mX4_isNumber : Nat := 63
abbrev mX4_whole : Nat := 64
abbrev mX4_of : Nat := 65
abbrev mX4_plus : Nat := 66
abbrev mX4_negated : Nat := 67
abbrev mX4_times : Nat := 68
abbrev mX4_over : Nat := 69
abbrev mX4_onTheWay : Nat := 70
abbrev mX4_ended : Nat := 71
abbrev mX4_cap : Nat := 72
abbrev mX4_pass : Nat := 73
abbrev mX4_isLess : Nat := 74
abbrev mX4_isAtLeast : Nat := 75
abbrev mX6_pupil : Nat := 76
abbrev mX6_group : Nat := 77
abbrev mX6_work : Nat := 78
abbrev mX6_leave : Nat := 79
abbrev mX6_excuse : Nat := 80
abbrev mX6_tick : Nat := 81
abbrev mX6_text : Nat := 82
abbrev mX6_rules : Nat := 83
abbrev mX6_name : Nat := 84
abbrev mX6_hangs : Nat := 85
abbrev mX6_need : Nat := 86
abbrev mX6_opens : Nat := 87
abbrev mX6_hand : Nat := 88
abbrev mX6_mark : Nat := 89
abbrev mX6_peer : Nat := 90
abbrev mX6_show : Nat := 91
abbrev mX6_appeal : Nat := 92
abbrev mX6_markOf : Nat := 93
abbrev mX6_value : Nat := 94
abbrev mX6_range : Nat := 95
abbrev mX6_least : Nat := 96
abbrev mX6_count : Nat := 97
abbrev mX6_refuse : Nat := 98
abbrev mX6_refuseText : Nat := 99
abbrev mX6_isPupil : Nat := 100
abbrev mX6_isRule : Nat := 101
abbrev mX6_workAt : Nat := 102
abbrev mX6_sheetOf : Nat := 103
abbrev mX6_bit : Nat := 104
abbrev mX6_part : Nat := 105
abbrev mX6_under : Nat := 106
abbrev mX6_hasRing : Nat := 107
abbrev mX6_needsBeyond : Nat := 108
abbrev mX6_lessens : Nat := 109
abbrev mX6_load : Nat := 110
abbrev mX6_isOpen : Nat := 111
abbrev mX6_openEnded : Nat := 112
abbrev mX6_inGroup : Nat := 113
abbrev mX6_handGrouped : Nat := 114
abbrev mX6_markGrouped : Nat := 115
abbrev mX6_peerOf : Nat := 116
abbrev mX6_isPeer : Nat := 117
abbrev mX7_refuse : Nat := 118
abbrev mX7_refuseFar : Nat := 119
abbrev mX7_isIn : Nat := 120
abbrev mX7_isPupil : Nat := 121
abbrev mX7_isWork : Nat := 122
abbrev mX7_isRule : Nat := 123
abbrev mX7_spot : Nat := 124
abbrev mX7_pupil : Nat := 125
abbrev mX7_group : Nat := 126
abbrev mX7_work : Nat := 127
abbrev mX7_leave : Nat := 128
abbrev mX7_excuse : Nat := 129
abbrev mX7_tick : Nat := 130
abbrev mX7_text : Nat := 131
abbrev mX7_isDigit : Nat := 132
abbrev mX7_isLetter : Nat := 133
abbrev mX7_reads : Nat := 134
abbrev mX7_isSign : Nat := 135
abbrev mX7_isFine : Nat := 136
abbrev mX7_faults : Nat := 137
abbrev mX7_must : Nat := 138
abbrev mX7_node : Nat := 139
abbrev mX7_adds : Nat := 140
abbrev mX7_functionOf : Nat := 141
abbrev mX7_workOf : Nat := 142
abbrev mX7_sum : Nat := 143
abbrev mX7_product : Nat := 144
abbrev mX7_one : Nat := 145
abbrev mX7_list : Nat := 146
abbrev mX7_parses : Nat := 147
abbrev mX7_ruleOf : Nat := 148
abbrev mX7_holes : Nat := 149
abbrev mX7_twice : Nat := 150
abbrev mX7_findHangs : Nat := 151
abbrev mX7_isRing : Nat := 152
abbrev mX7_keepsOld : Nat := 153
abbrev mX7_isLess : Nat := 154
abbrev mX7_refusesText : Nat := 155
abbrev mX7_rules : Nat := 156
abbrev mX7_name : Nat := 157
abbrev mX7_hangs : Nat := 158
abbrev mX7_need : Nat := 159
abbrev mX7_tells : Nat := 160
abbrev mX7_days : Nat := 161
abbrev mX7_part100 : Nat := 162
abbrev mX7_peerMarks : Nat := 163
abbrev mX7_isMarked : Nat := 164
abbrev mX7_markedIs : Nat := 165
abbrev mX7_isOpenEnded : Nat := 166
abbrev mX7_begins : Nat := 167
abbrev mX7_forgets : Nat := 168
abbrev mX7_workIs : Nat := 169
abbrev mX7_values : Nat := 170
abbrev mX7_valueOf : Nat := 171
abbrev mX7_partsOf : Nat := 172
abbrev mX7_plus : Nat := 173
abbrev mX7_sums : Nat := 174
abbrev mX7_multiplies : Nat := 175
abbrev mX7_caps : Nat := 176
abbrev mX7_picks : Nat := 177
abbrev mX7_isOpen : Nat := 178
abbrev mX7_opens : Nat := 179
abbrev mX7_hands : Nat := 180
abbrev mX7_hand : Nat := 181
abbrev mX7_handsAll : Nat := 182
abbrev mX7_toMark : Nat := 183
abbrev mX7_mark : Nat := 184
abbrev mX7_peerOf : Nat := 185
abbrev mX7_isShown : Nat := 186
abbrev mX7_peer : Nat := 187
abbrev mX7_show : Nat := 188
abbrev mX7_appeal : Nat := 189
abbrev mX7_markOf : Nat := 190
abbrev mX7_value : Nat := 191
abbrev mX7_looks : Nat := 192
abbrev mX7_goes : Nat := 193
abbrev mX7_range : Nat := 194
abbrev mX7_least : Nat := 195
abbrev mX7_count : Nat := 196
abbrev mJ6_bitCount_0f7a4 : Nat := 197
abbrev mJ7_fill_53178 : Nat := 198
/-- own class, place in its pool, the field's class, its slot, the word's place -/
def am_FL : List (Nat × Nat × Nat × Nat × Nat) := [(0, 9, 0, 3, 132), (0, 15, 0, 4, 134), (0, 18, 0, 5, 136), (0, 21, 0, 6, 138), (0, 24, 0, 7, 139), (0, 27, 0, 8, 140), (0, 30, 0, 9, 141), (0, 33, 0, 10, 143), (0, 36, 0, 11, 145), (0, 39, 0, 0, 125), (0, 43, 0, 1, 128), (0, 47, 0, 2, 131), (1, 9, 1, 0, 174), (1, 18, 1, 2, 177), (1, 22, 1, 3, 179), (1, 26, 1, 4, 180), (1, 29, 1, 5, 181), (1, 32, 1, 9, 185), (1, 36, 1, 1, 175), (1, 49, 1, 7, 183), (1, 52, 1, 8, 184), (1, 79, 1, 6, 182), (1, 88, 0, 1, 129), (2, 9, 2, 0, 213), (2, 15, 2, 1, 214), (2, 18, 2, 2, 215), (2, 21, 2, 3, 216), (2, 25, 2, 4, 217), (2, 28, 2, 5, 218), (2, 39, 0, 0, 126), (2, 65, 0, 4, 135), (2, 68, 0, 5, 137), (2, 71, 0, 10, 144), (2, 74, 0, 11, 146), (2, 77, 0, 9, 142), (2, 128, 2, 6, 219), (2, 135, 2, 7, 220), (2, 139, 2, 8, 222), (3, 9, 3, 3, 288), (3, 15, 3, 4, 290), (3, 19, 3, 5, 291), (3, 22, 3, 6, 292), (3, 31, 3, 2, 286), (3, 55, 4, 2, 255), (3, 60, 3, 0, 283), (3, 63, 4, 3, 257), (3, 70, 3, 1, 285), (3, 76, 4, 0, 252), (5, 9, 4, 4, 258), (6, 9, 5, 0, 308), (6, 15, 5, 1, 309), (6, 21, 5, 2, 310), (6, 28, 5, 3, 311), (6, 35, 5, 4, 312), (6, 42, 5, 5, 313), (6, 46, 5, 6, 314), (6, 51, 5, 7, 315), (6, 64, 5, 8, 316), (6, 71, 4, 0, 251), (6, 74, 4, 1, 253), (6, 77, 4, 2, 254), (6, 80, 4, 3, 256), (6, 87, 3, 0, 282), (6, 90, 3, 1, 284), (6, 94, 5, 9, 317), (6, 97, 1, 1, 176), (6, 107, 1, 2, 178), (6, 122, 0, 0, 127), (6, 137, 0, 3, 133), (6, 148, 4, 4, 259), (6, 151, 4, 5, 260), (6, 167, 5, 10, 318), (6, 183, 5, 11, 319), (6, 186, 3, 2, 287), (6, 206, 5, 12, 320), (6, 257, 0, 1, 130), (6, 266, 2, 7, 221), (6, 270, 2, 8, 223), (6, 277, 5, 13, 321), (6, 321, 3, 3, 289), (7, 7, 6, 0, 858), (7, 13, 6, 8, 866), (7, 16, 6, 9, 867), (7, 19, 6, 10, 868), (7, 22, 6, 11, 869), (7, 25, 6, 12, 870), (7, 28, 6, 13, 871), (7, 31, 6, 14, 872), (7, 34, 6, 15, 873), (7, 37, 6, 16, 874), (7, 40, 6, 17, 875), (7, 43, 6, 18, 876), (7, 46, 6, 19, 877), (7, 49, 6, 20, 878), (7, 52, 6, 21, 879), (7, 56, 6, 22, 880), (7, 59, 6, 30, 888), (7, 62, 6, 31, 889), (7, 65, 6, 32, 890), (7, 68, 6, 33, 891), (7, 71, 6, 34, 892), (7, 74, 6, 35, 893), (7, 77, 6, 37, 895), (7, 80, 6, 38, 896), (7, 83, 6, 39, 897), (7, 86, 6, 40, 898), (7, 89, 6, 41, 899), (7, 92, 6, 44, 902), (7, 95, 6, 45, 903), (7, 98, 6, 46, 904), (7, 102, 6, 47, 905), (7, 105, 6, 52, 910), (7, 108, 6, 53, 911), (7, 111, 6, 54, 912), (7, 114, 6, 55, 913), (7, 117, 6, 56, 914), (7, 120, 6, 57, 915), (7, 123, 6, 58, 916), (7, 126, 6, 59, 917), (7, 129, 6, 65, 923), (7, 137, 6, 1, 859), (7, 145, 6, 2, 860), (7, 148, 6, 42, 900), (7, 163, 6, 3, 861), (7, 166, 6, 23, 881), (7, 169, 6, 27, 885), (7, 172, 6, 28, 886), (7, 175, 6, 25, 883), (7, 178, 6, 26, 884), (7, 181, 6, 24, 882), (7, 190, 6, 29, 887), (7, 207, 6, 43, 901), (7, 210, 6, 36, 894), (7, 252, 6, 48, 906), (7, 255, 6, 49, 907), (7, 259, 6, 50, 908), (7, 262, 6, 7, 865), (7, 327, 6, 51, 909), (7, 366, 6, 4, 862), (7, 379, 6, 5, 863), (7, 388, 6, 6, 864), (7, 394, 6, 60, 918), (7, 398, 6, 62, 920), (7, 401, 6, 61, 919), (7, 404, 6, 64, 922), (7, 407, 6, 63, 921), (7, 410, 6, 66, 924)]
/-- own class, place in its pool, the method, the word's place, 1: by a nest -/
def am_KL : List (Nat × Nat × Nat × Nat × Nat) := [(0, 50, 1, 462, 0), (0, 54, 6, 522, 0), (0, 58, 11, 482, 0), (0, 62, 9, 486, 0), (0, 65, 14, 517, 0), (0, 68, 104, 521, 1), (1, 39, 17, 408, 0), (1, 43, 0, 420, 0), (1, 46, 20, 424, 0), (1, 55, 23, 428, 0), (1, 59, 2, 434, 0), (1, 62, 21, 438, 0), (1, 65, 22, 442, 0), (1, 68, 25, 446, 0), (1, 71, 18, 412, 0), (1, 75, 19, 416, 0), (1, 82, 24, 431, 0), (1, 85, 26, 450, 0), (1, 92, 3, 458, 0), (1, 96, 27, 454, 0), (1, 99, 28, 466, 0), (1, 103, 29, 470, 0), (2, 35, 31, 593, 0), (2, 45, 7, 577, 0), (2, 50, 6, 582, 0), (2, 53, 104, 583, 1), (2, 57, 36, 584, 0), (2, 61, 1, 588, 0), (2, 80, 64, 590, 0), (2, 84, 66, 597, 0), (2, 88, 67, 608, 0), (2, 92, 68, 614, 0), (2, 95, 69, 621, 0), (2, 99, 71, 624, 0), (2, 102, 72, 627, 0), (2, 105, 73, 634, 0), (2, 108, 37, 637, 0), (2, 112, 38, 641, 0), (2, 124, 74, 645, 0), (2, 131, 63, 834, 0), (2, 142, 8, 818, 0), (2, 145, 35, 824, 0), (2, 149, 32, 829, 0), (2, 152, 40, 830, 0), (2, 156, 39, 825, 0), (2, 159, 43, 819, 0), (2, 163, 198, 823, 0), (2, 169, 75, 847, 0), (3, 25, 198, 279, 0), (3, 34, 45, 711, 0), (3, 38, 46, 715, 0), (3, 42, 49, 707, 0), (3, 45, 48, 719, 0), (3, 49, 55, 542, 0), (3, 52, 47, 554, 0), (3, 66, 57, 550, 0), (3, 79, 60, 538, 0), (3, 83, 58, 546, 0), (3, 94, 65, 559, 0), (4, 17, 61, 600, 0), (4, 21, 62, 603, 0), (4, 24, 65, 607, 0), (4, 28, 63, 611, 0), (4, 34, 70, 618, 0), (4, 37, 75, 630, 0), (4, 41, 64, 633, 0), (6, 55, 98, 355, 0), (6, 59, 100, 363, 0), (6, 67, 102, 372, 0), (6, 83, 103, 380, 0), (6, 100, 15, 396, 0), (6, 104, 16, 404, 0), (6, 108, 99, 474, 0), (6, 111, 10, 478, 0), (6, 114, 12, 490, 0), (6, 118, 107, 494, 0), (6, 125, 108, 509, 0), (6, 128, 13, 513, 0), (6, 131, 109, 526, 0), (6, 134, 101, 674, 0), (6, 140, 106, 498, 0), (6, 144, 104, 506, 0), (6, 154, 111, 690, 0), (6, 158, 50, 703, 0), (6, 161, 114, 723, 0), (6, 164, 51, 735, 0), (6, 170, 49, 743, 0), (6, 173, 115, 744, 0), (6, 177, 45, 753, 0), (6, 180, 52, 749, 0), (6, 189, 116, 758, 0), (6, 193, 117, 766, 0), (6, 197, 53, 770, 0), (6, 200, 54, 774, 0), (6, 203, 48, 782, 0), (6, 209, 59, 534, 0), (6, 213, 105, 787, 0), (6, 217, 56, 731, 0), (6, 221, 57, 793, 0), (6, 226, 110, 530, 0), (6, 229, 8, 694, 0), (6, 233, 35, 573, 0), (6, 237, 32, 661, 0), (6, 241, 63, 790, 0), (6, 249, 112, 804, 0), (6, 252, 197, 808, 0), (6, 260, 42, 814, 0), (6, 263, 41, 835, 0), (6, 273, 44, 843, 0), (6, 280, 61, 791, 0), (6, 284, 62, 792, 0), (6, 287, 4, 502, 0), (6, 290, 33, 652, 0), (6, 293, 5, 656, 0), (6, 296, 9, 660, 0), (6, 299, 34, 665, 0), (6, 302, 74, 669, 0), (6, 306, 30, 568, 0), (6, 310, 75, 698, 0), (6, 314, 113, 727, 0), (6, 318, 47, 748, 0), (7, 133, 118, 1065, 0), (7, 141, 120, 1077, 0), (7, 151, 121, 1073, 0), (7, 156, 122, 1089, 0), (7, 159, 124, 1093, 0), (7, 184, 132, 1120, 0), (7, 187, 133, 1123, 0), (7, 193, 136, 1126, 0), (7, 197, 135, 1144, 0), (7, 200, 134, 1116, 0), (7, 203, 137, 1136, 0), (7, 213, 139, 1152, 0), (7, 216, 144, 1156, 0), (7, 219, 140, 1168, 0), (7, 223, 145, 1160, 0), (7, 226, 143, 1148, 0), (7, 229, 138, 1140, 0), (7, 233, 141, 1130, 0), (7, 236, 146, 1164, 0), (7, 240, 142, 1133, 0), (7, 243, 148, 1180, 0), (7, 246, 167, 1200, 0), (7, 249, 170, 1208, 0), (7, 265, 147, 1112, 0), (7, 268, 155, 1172, 0), (7, 271, 149, 1176, 0), (7, 274, 150, 1184, 0), (7, 277, 151, 1188, 0), (7, 280, 152, 1192, 0), (7, 283, 153, 1196, 0), (7, 286, 154, 1279, 0), (7, 289, 123, 1287, 0), (7, 304, 161, 1247, 0), (7, 311, 163, 1233, 0), (7, 316, 162, 1242, 0), (7, 320, 160, 1216, 0), (7, 324, 164, 1229, 0), (7, 330, 168, 1204, 0), (7, 333, 165, 1237, 0), (7, 336, 171, 1212, 0), (7, 339, 169, 1225, 0), (7, 342, 172, 1254, 0), (7, 345, 174, 1258, 0), (7, 348, 175, 1266, 0), (7, 351, 176, 1270, 0), (7, 354, 177, 1274, 0), (7, 357, 173, 1262, 0), (7, 363, 178, 1303, 0), (7, 369, 180, 1311, 0), (7, 373, 182, 1315, 0), (7, 376, 183, 1323, 0), (7, 382, 186, 1331, 0), (7, 385, 185, 1335, 0), (7, 391, 119, 1355, 0), (7, 413, 192, 1372, 0), (7, 416, 193, 1368, 0), (7, 419, 166, 1364, 0)]
def am_BL : List (Nat × Nat × Nat × Nat) := [(2, 116, 2, 648), (2, 121, 1, 651), (3, 86, 1, 565), (7, 292, 4, 1220), (7, 307, 3, 1251), (7, 314, 1, 1241), (7, 360, 2, 1278)]
def am_IL : List (Nat × Nat × Int × Nat) := [(2, 49, 4194303, 581), (6, 63, 100000, 371), (6, 225, 2000000000, 798), (6, 232, 4194303, 572), (7, 132, 2000000000, 1359), (7, 155, 100000, 1084), (8, 265, 1431655765, 811), (8, 266, 858993459, 812), (8, 267, 252645135, 813)]
def am_JL : List (Nat × Nat × Int × Nat) := [(2, 33, 4294967296, 589), (3, 92, 100, 558), (4, 7, 4294967295, 606), (4, 11, 4294967296, 562), (4, 13, -1000000000, 563), (4, 15, 1000000000, 564), (4, 32, 8589934592, 617), (6, 247, 4294967296, 799), (7, 298, 1000000000, 1223), (7, 300, -1000000000, 1224), (7, 302, 100, 1246)]
/-- each method's words: code, static or instance, selects, initialized -/
def am_WL : List (Nat × Nat × Nat × Nat) := [(423, 421, 422, 92), (465, 463, 464, 92), (437, 435, 436, 92), (461, 459, 460, 92), (505, 503, 504, 92), (659, 657, 658, 92), (525, 523, 524, 92), (580, 578, 579, 92), (697, 695, 696, 92), (489, 487, 488, 92), (481, 479, 480, 92), (485, 484, 16, 92), (493, 491, 492, 92), (516, 514, 515, 92), (520, 519, 20, 92), (399, 397, 398, 91), (407, 405, 406, 91), (411, 410, 4, 91), (415, 414, 5, 91), (419, 418, 6, 91), (427, 426, 7, 91), (441, 440, 8, 91), (445, 444, 9, 91), (430, 429, 0, 91), (433, 432, 0, 91), (449, 448, 10, 91), (453, 452, 11, 91), (457, 456, 12, 91), (469, 468, 13, 91), (473, 472, 14, 91), (571, 569, 570, 93), (596, 594, 595, 93), (664, 662, 663, 93), (655, 653, 654, 93), (668, 666, 667, 93), (576, 574, 575, 93), (587, 586, 24, 93), (640, 639, 25, 93), (644, 643, 26, 93), (828, 827, 36, 93), (833, 832, 37, 93), (838, 836, 837, 93), (817, 815, 816, 93), (822, 821, 35, 93), (846, 844, 845, 93), (714, 712, 713, 95), (718, 716, 717, 95), (557, 555, 556, 95), (722, 720, 721, 95), (710, 708, 709, 95), (706, 704, 705, 95), (738, 736, 737, 95), (752, 750, 751, 95), (773, 771, 772, 95), (777, 775, 776, 95), (545, 543, 544, 95), (734, 732, 733, 95), (553, 551, 552, 95), (549, 547, 548, 95), (537, 535, 536, 95), (541, 540, 23, 95), (602, 601, 0, 98), (605, 604, 0, 98), (613, 612, 0, 98), (592, 591, 0, 98), (561, 560, 0, 98), (599, 598, 0, 98), (610, 609, 0, 98), (616, 615, 0, 98), (623, 622, 0, 98), (620, 619, 0, 98), (626, 625, 0, 98), (629, 628, 0, 98), (636, 635, 0, 98), (647, 646, 0, 98), (632, 631, 0, 98), (354, 352, 353, 90), (362, 360, 361, 90), (370, 368, 369, 90), (379, 377, 378, 90), (387, 385, 386, 90), (391, 389, 390, 90), (395, 393, 394, 90), (403, 401, 402, 90), (673, 671, 672, 90), (681, 679, 680, 90), (685, 683, 684, 90), (689, 687, 688, 90), (702, 700, 701, 90), (742, 740, 741, 90), (757, 755, 756, 90), (765, 763, 764, 90), (781, 779, 780, 90), (786, 784, 785, 90), (797, 795, 796, 90), (803, 801, 802, 90), (842, 840, 841, 90), (851, 849, 850, 90), (358, 357, 0, 90), (477, 476, 15, 90), (366, 365, 1, 90), (677, 676, 27, 90), (375, 374, 2, 90), (383, 382, 3, 90), (508, 507, 0, 90), (789, 788, 0, 90), (501, 500, 18, 90), (497, 496, 17, 90), (512, 511, 19, 90), (529, 528, 21, 90), (533, 532, 22, 90), (693, 692, 28, 90), (807, 806, 34, 90), (730, 729, 30, 90), (726, 725, 29, 90), (747, 746, 31, 90), (761, 760, 32, 90), (769, 768, 33, 90), (1068, 1067, 38, 97), (1358, 1357, 85, 97), (1079, 1078, 0, 97), (1076, 1075, 39, 97), (1092, 1091, 40, 97), (1290, 1289, 78, 97), (1095, 1094, 0, 97), (1064, 1062, 1063, 97), (1072, 1070, 1071, 97), (1083, 1081, 1082, 97), (1088, 1086, 1087, 97), (1099, 1097, 1098, 97), (1103, 1101, 1102, 97), (1107, 1105, 1106, 97), (1122, 1121, 0, 97), (1125, 1124, 0, 97), (1119, 1118, 42, 97), (1147, 1146, 46, 97), (1129, 1128, 43, 97), (1139, 1138, 44, 97), (1143, 1142, 45, 97), (1155, 1154, 48, 97), (1171, 1170, 52, 97), (1132, 1131, 0, 97), (1135, 1134, 0, 97), (1151, 1150, 47, 97), (1159, 1158, 49, 97), (1163, 1162, 50, 97), (1167, 1166, 51, 97), (1115, 1114, 41, 97), (1183, 1182, 55, 97), (1179, 1178, 54, 97), (1187, 1186, 56, 97), (1191, 1190, 57, 97), (1195, 1194, 58, 97), (1199, 1198, 59, 97), (1282, 1281, 77, 97), (1175, 1174, 53, 97), (1111, 1109, 1110, 97), (1286, 1284, 1285, 97), (1294, 1292, 1293, 97), (1298, 1296, 1297, 97), (1219, 1218, 64, 97), (1250, 1249, 70, 97), (1245, 1244, 69, 97), (1236, 1235, 67, 97), (1232, 1231, 66, 97), (1240, 1239, 68, 97), (1367, 1366, 86, 97), (1203, 1202, 60, 97), (1207, 1206, 61, 97), (1228, 1227, 65, 97), (1211, 1210, 62, 97), (1215, 1214, 63, 97), (1257, 1256, 71, 97), (1265, 1264, 73, 97), (1261, 1260, 72, 97), (1269, 1268, 74, 97), (1273, 1272, 75, 97), (1277, 1276, 76, 97), (1306, 1305, 79, 97), (1302, 1300, 1301, 97), (1314, 1313, 80, 97), (1310, 1308, 1309, 97), (1318, 1317, 81, 97), (1326, 1325, 82, 97), (1322, 1320, 1321, 97), (1338, 1337, 84, 97), (1334, 1333, 83, 97), (1330, 1328, 1329, 97), (1342, 1340, 1341, 97), (1346, 1344, 1345, 97), (1350, 1348, 1349, 97), (1354, 1352, 1353, 97), (1375, 1374, 88, 97), (1371, 1370, 87, 97), (1363, 1361, 1362, 97), (1379, 1377, 1378, 97), (1383, 1381, 1382, 97), (810, 809, 0, 100), (281, 280, 0, 96)]
def am_lk {α : Type} (l : List (Nat × Nat × α)) (c i : Nat) : Option α := match l with
  | [] => none
  | (a, b, x) :: t => if a = c ∧ b = i then some x else am_lk t c i
def am_M0 (i : Nat) : Nat × ByteArray × Nat × Nat × Nat × Bool × Nat := am_ML.getD i (0, ByteArray.empty, 0, 0, 0, false, 0)
def am_T0 : (Nat → Nat → Option (Nat × Nat)) × (Nat → Nat → Option Nat) × (Nat → Nat → Option Int) × (Nat → Nat → Option Int) × (Nat → Nat → Nat) := (fun c i => (am_lk am_FL c i).map (fun q => (q.1, q.2.1)), fun c i => (am_lk am_KL c i).map (fun q => q.1), fun c i => (am_lk am_IL c i).map (fun q => q.1), fun c i => (am_lk am_JL c i).map (fun q => q.1), fun c i => ((am_lk am_BL c i).map (fun q => q.1)).getD 0)
theorem tf_0_9 : am_T0.1 0 9 = some (0, 3) := by decide +kernel
theorem tf_0_15 : am_T0.1 0 15 = some (0, 4) := by decide +kernel
theorem tf_0_18 : am_T0.1 0 18 = some (0, 5) := by decide +kernel
theorem tf_0_21 : am_T0.1 0 21 = some (0, 6) := by decide +kernel
theorem tf_0_24 : am_T0.1 0 24 = some (0, 7) := by decide +kernel
theorem tf_0_27 : am_T0.1 0 27 = some (0, 8) := by decide +kernel
theorem tf_0_30 : am_T0.1 0 30 = some (0, 9) := by decide +kernel
theorem tf_0_33 : am_T0.1 0 33 = some (0, 10) := by decide +kernel
theorem tf_0_36 : am_T0.1 0 36 = some (0, 11) := by decide +kernel
theorem tf_0_39 : am_T0.1 0 39 = some (0, 0) := by decide +kernel
theorem tf_0_43 : am_T0.1 0 43 = some (0, 1) := by decide +kernel
theorem tf_0_47 : am_T0.1 0 47 = some (0, 2) := by decide +kernel
theorem tf_1_9 : am_T0.1 1 9 = some (1, 0) := by decide +kernel
theorem tf_1_18 : am_T0.1 1 18 = some (1, 2) := by decide +kernel
theorem tf_1_22 : am_T0.1 1 22 = some (1, 3) := by decide +kernel
theorem tf_1_26 : am_T0.1 1 26 = some (1, 4) := by decide +kernel
theorem tf_1_29 : am_T0.1 1 29 = some (1, 5) := by decide +kernel
theorem tf_1_32 : am_T0.1 1 32 = some (1, 9) := by decide +kernel
theorem tf_1_36 : am_T0.1 1 36 = some (1, 1) := by decide +kernel
theorem tf_1_49 : am_T0.1 1 49 = some (1, 7) := by decide +kernel
theorem tf_1_52 : am_T0.1 1 52 = some (1, 8) := by decide +kernel
theorem tf_1_79 : am_T0.1 1 79 = some (1, 6) := by decide +kernel
theorem tf_1_88 : am_T0.1 1 88 = some (0, 1) := by decide +kernel
theorem tf_2_9 : am_T0.1 2 9 = some (2, 0) := by decide +kernel
theorem tf_2_15 : am_T0.1 2 15 = some (2, 1) := by decide +kernel
theorem tf_2_18 : am_T0.1 2 18 = some (2, 2) := by decide +kernel
theorem tf_2_21 : am_T0.1 2 21 = some (2, 3) := by decide +kernel
theorem tf_2_25 : am_T0.1 2 25 = some (2, 4) := by decide +kernel
theorem tf_2_28 : am_T0.1 2 28 = some (2, 5) := by decide +kernel
theorem tf_2_39 : am_T0.1 2 39 = some (0, 0) := by decide +kernel
theorem tf_2_65 : am_T0.1 2 65 = some (0, 4) := by decide +kernel
theorem tf_2_68 : am_T0.1 2 68 = some (0, 5) := by decide +kernel
theorem tf_2_71 : am_T0.1 2 71 = some (0, 10) := by decide +kernel
theorem tf_2_74 : am_T0.1 2 74 = some (0, 11) := by decide +kernel
theorem tf_2_77 : am_T0.1 2 77 = some (0, 9) := by decide +kernel
theorem tf_2_128 : am_T0.1 2 128 = some (2, 6) := by decide +kernel
theorem tf_2_135 : am_T0.1 2 135 = some (2, 7) := by decide +kernel
theorem tf_2_139 : am_T0.1 2 139 = some (2, 8) := by decide +kernel
theorem tf_3_9 : am_T0.1 3 9 = some (3, 3) := by decide +kernel
theorem tf_3_15 : am_T0.1 3 15 = some (3, 4) := by decide +kernel
theorem tf_3_19 : am_T0.1 3 19 = some (3, 5) := by decide +kernel
theorem tf_3_22 : am_T0.1 3 22 = some (3, 6) := by decide +kernel
theorem tf_3_31 : am_T0.1 3 31 = some (3, 2) := by decide +kernel
theorem tf_3_55 : am_T0.1 3 55 = some (4, 2) := by decide +kernel
theorem tf_3_60 : am_T0.1 3 60 = some (3, 0) := by decide +kernel
theorem tf_3_63 : am_T0.1 3 63 = some (4, 3) := by decide +kernel
theorem tf_3_70 : am_T0.1 3 70 = some (3, 1) := by decide +kernel
theorem tf_3_76 : am_T0.1 3 76 = some (4, 0) := by decide +kernel
theorem tf_5_9 : am_T0.1 5 9 = some (4, 4) := by decide +kernel
theorem tf_6_9 : am_T0.1 6 9 = some (5, 0) := by decide +kernel
theorem tf_6_15 : am_T0.1 6 15 = some (5, 1) := by decide +kernel
theorem tf_6_21 : am_T0.1 6 21 = some (5, 2) := by decide +kernel
theorem tf_6_28 : am_T0.1 6 28 = some (5, 3) := by decide +kernel
theorem tf_6_35 : am_T0.1 6 35 = some (5, 4) := by decide +kernel
theorem tf_6_42 : am_T0.1 6 42 = some (5, 5) := by decide +kernel
theorem tf_6_46 : am_T0.1 6 46 = some (5, 6) := by decide +kernel
theorem tf_6_51 : am_T0.1 6 51 = some (5, 7) := by decide +kernel
theorem tf_6_64 : am_T0.1 6 64 = some (5, 8) := by decide +kernel
theorem tf_6_71 : am_T0.1 6 71 = some (4, 0) := by decide +kernel
theorem tf_6_74 : am_T0.1 6 74 = some (4, 1) := by decide +kernel
theorem tf_6_77 : am_T0.1 6 77 = some (4, 2) := by decide +kernel
theorem tf_6_80 : am_T0.1 6 80 = some (4, 3) := by decide +kernel
theorem tf_6_87 : am_T0.1 6 87 = some (3, 0) := by decide +kernel
theorem tf_6_90 : am_T0.1 6 90 = some (3, 1) := by decide +kernel
theorem tf_6_94 : am_T0.1 6 94 = some (5, 9) := by decide +kernel
theorem tf_6_97 : am_T0.1 6 97 = some (1, 1) := by decide +kernel
theorem tf_6_107 : am_T0.1 6 107 = some (1, 2) := by decide +kernel
theorem tf_6_122 : am_T0.1 6 122 = some (0, 0) := by decide +kernel
theorem tf_6_137 : am_T0.1 6 137 = some (0, 3) := by decide +kernel
theorem tf_6_148 : am_T0.1 6 148 = some (4, 4) := by decide +kernel
theorem tf_6_151 : am_T0.1 6 151 = some (4, 5) := by decide +kernel
theorem tf_6_167 : am_T0.1 6 167 = some (5, 10) := by decide +kernel
theorem tf_6_183 : am_T0.1 6 183 = some (5, 11) := by decide +kernel
theorem tf_6_186 : am_T0.1 6 186 = some (3, 2) := by decide +kernel
theorem tf_6_206 : am_T0.1 6 206 = some (5, 12) := by decide +kernel
theorem tf_6_257 : am_T0.1 6 257 = some (0, 1) := by decide +kernel
theorem tf_6_266 : am_T0.1 6 266 = some (2, 7) := by decide +kernel
theorem tf_6_270 : am_T0.1 6 270 = some (2, 8) := by decide +kernel
theorem tf_6_277 : am_T0.1 6 277 = some (5, 13) := by decide +kernel
theorem tf_6_321 : am_T0.1 6 321 = some (3, 3) := by decide +kernel
theorem tf_7_7 : am_T0.1 7 7 = some (6, 0) := by decide +kernel
theorem tf_7_13 : am_T0.1 7 13 = some (6, 8) := by decide +kernel
theorem tf_7_16 : am_T0.1 7 16 = some (6, 9) := by decide +kernel
theorem tf_7_19 : am_T0.1 7 19 = some (6, 10) := by decide +kernel
theorem tf_7_22 : am_T0.1 7 22 = some (6, 11) := by decide +kernel
theorem tf_7_25 : am_T0.1 7 25 = some (6, 12) := by decide +kernel
theorem tf_7_28 : am_T0.1 7 28 = some (6, 13) := by decide +kernel
theorem tf_7_31 : am_T0.1 7 31 = some (6, 14) := by decide +kernel
theorem tf_7_34 : am_T0.1 7 34 = some (6, 15) := by decide +kernel
theorem tf_7_37 : am_T0.1 7 37 = some (6, 16) := by decide +kernel
theorem tf_7_40 : am_T0.1 7 40 = some (6, 17) := by decide +kernel
theorem tf_7_43 : am_T0.1 7 43 = some (6, 18) := by decide +kernel
theorem tf_7_46 : am_T0.1 7 46 = some (6, 19) := by decide +kernel
theorem tf_7_49 : am_T0.1 7 49 = some (6, 20) := by decide +kernel
theorem tf_7_52 : am_T0.1 7 52 = some (6, 21) := by decide +kernel
theorem tf_7_56 : am_T0.1 7 56 = some (6, 22) := by decide +kernel
theorem tf_7_59 : am_T0.1 7 59 = some (6, 30) := by decide +kernel
theorem tf_7_62 : am_T0.1 7 62 = some (6, 31) := by decide +kernel
theorem tf_7_65 : am_T0.1 7 65 = some (6, 32) := by decide +kernel
theorem tf_7_68 : am_T0.1 7 68 = some (6, 33) := by decide +kernel
theorem tf_7_71 : am_T0.1 7 71 = some (6, 34) := by decide +kernel
theorem tf_7_74 : am_T0.1 7 74 = some (6, 35) := by decide +kernel
theorem tf_7_77 : am_T0.1 7 77 = some (6, 37) := by decide +kernel
theorem tf_7_80 : am_T0.1 7 80 = some (6, 38) := by decide +kernel
theorem tf_7_83 : am_T0.1 7 83 = some (6, 39) := by decide +kernel
theorem tf_7_86 : am_T0.1 7 86 = some (6, 40) := by decide +kernel
theorem tf_7_89 : am_T0.1 7 89 = some (6, 41) := by decide +kernel
theorem tf_7_92 : am_T0.1 7 92 = some (6, 44) := by decide +kernel
theorem tf_7_95 : am_T0.1 7 95 = some (6, 45) := by decide +kernel
theorem tf_7_98 : am_T0.1 7 98 = some (6, 46) := by decide +kernel
theorem tf_7_102 : am_T0.1 7 102 = some (6, 47) := by decide +kernel
theorem tf_7_105 : am_T0.1 7 105 = some (6, 52) := by decide +kernel
theorem tf_7_108 : am_T0.1 7 108 = some (6, 53) := by decide +kernel
theorem tf_7_111 : am_T0.1 7 111 = some (6, 54) := by decide +kernel
theorem tf_7_114 : am_T0.1 7 114 = some (6, 55) := by decide +kernel
theorem tf_7_117 : am_T0.1 7 117 = some (6, 56) := by decide +kernel
theorem tf_7_120 : am_T0.1 7 120 = some (6, 57) := by decide +kernel
theorem tf_7_123 : am_T0.1 7 123 = some (6, 58) := by decide +kernel
theorem tf_7_126 : am_T0.1 7 126 = some (6, 59) := by decide +kernel
theorem tf_7_129 : am_T0.1 7 129 = some (6, 65) := by decide +kernel
theorem tf_7_137 : am_T0.1 7 137 = some (6, 1) := by decide +kernel
theorem tf_7_145 : am_T0.1 7 145 = some (6, 2) := by decide +kernel
theorem tf_7_148 : am_T0.1 7 148 = some (6, 42) := by decide +kernel
theorem tf_7_163 : am_T0.1 7 163 = some (6, 3) := by decide +kernel
theorem tf_7_166 : am_T0.1 7 166 = some (6, 23) := by decide +kernel
theorem tf_7_169 : am_T0.1 7 169 = some (6, 27) := by decide +kernel
theorem tf_7_172 : am_T0.1 7 172 = some (6, 28) := by decide +kernel
theorem tf_7_175 : am_T0.1 7 175 = some (6, 25) := by decide +kernel
theorem tf_7_178 : am_T0.1 7 178 = some (6, 26) := by decide +kernel
theorem tf_7_181 : am_T0.1 7 181 = some (6, 24) := by decide +kernel
theorem tf_7_190 : am_T0.1 7 190 = some (6, 29) := by decide +kernel
theorem tf_7_207 : am_T0.1 7 207 = some (6, 43) := by decide +kernel
theorem tf_7_210 : am_T0.1 7 210 = some (6, 36) := by decide +kernel
theorem tf_7_252 : am_T0.1 7 252 = some (6, 48) := by decide +kernel
theorem tf_7_255 : am_T0.1 7 255 = some (6, 49) := by decide +kernel
theorem tf_7_259 : am_T0.1 7 259 = some (6, 50) := by decide +kernel
theorem tf_7_262 : am_T0.1 7 262 = some (6, 7) := by decide +kernel
theorem tf_7_327 : am_T0.1 7 327 = some (6, 51) := by decide +kernel
theorem tf_7_366 : am_T0.1 7 366 = some (6, 4) := by decide +kernel
theorem tf_7_379 : am_T0.1 7 379 = some (6, 5) := by decide +kernel
theorem tf_7_388 : am_T0.1 7 388 = some (6, 6) := by decide +kernel
theorem tf_7_394 : am_T0.1 7 394 = some (6, 60) := by decide +kernel
theorem tf_7_398 : am_T0.1 7 398 = some (6, 62) := by decide +kernel
theorem tf_7_401 : am_T0.1 7 401 = some (6, 61) := by decide +kernel
theorem tf_7_404 : am_T0.1 7 404 = some (6, 64) := by decide +kernel
theorem tf_7_407 : am_T0.1 7 407 = some (6, 63) := by decide +kernel
theorem tf_7_410 : am_T0.1 7 410 = some (6, 66) := by decide +kernel
theorem tm_0_50 : am_T0.2.1 0 50 = some 1 := by decide +kernel
theorem tm_0_54 : am_T0.2.1 0 54 = some 6 := by decide +kernel
theorem tm_0_58 : am_T0.2.1 0 58 = some 11 := by decide +kernel
theorem tm_0_62 : am_T0.2.1 0 62 = some 9 := by decide +kernel
theorem tm_0_65 : am_T0.2.1 0 65 = some 14 := by decide +kernel
theorem tm_0_68 : am_T0.2.1 0 68 = some 104 := by decide +kernel
theorem tm_1_39 : am_T0.2.1 1 39 = some 17 := by decide +kernel
theorem tm_1_43 : am_T0.2.1 1 43 = some 0 := by decide +kernel
theorem tm_1_46 : am_T0.2.1 1 46 = some 20 := by decide +kernel
theorem tm_1_55 : am_T0.2.1 1 55 = some 23 := by decide +kernel
theorem tm_1_59 : am_T0.2.1 1 59 = some 2 := by decide +kernel
theorem tm_1_62 : am_T0.2.1 1 62 = some 21 := by decide +kernel
theorem tm_1_65 : am_T0.2.1 1 65 = some 22 := by decide +kernel
theorem tm_1_68 : am_T0.2.1 1 68 = some 25 := by decide +kernel
theorem tm_1_71 : am_T0.2.1 1 71 = some 18 := by decide +kernel
theorem tm_1_75 : am_T0.2.1 1 75 = some 19 := by decide +kernel
theorem tm_1_82 : am_T0.2.1 1 82 = some 24 := by decide +kernel
theorem tm_1_85 : am_T0.2.1 1 85 = some 26 := by decide +kernel
theorem tm_1_92 : am_T0.2.1 1 92 = some 3 := by decide +kernel
theorem tm_1_96 : am_T0.2.1 1 96 = some 27 := by decide +kernel
theorem tm_1_99 : am_T0.2.1 1 99 = some 28 := by decide +kernel
theorem tm_1_103 : am_T0.2.1 1 103 = some 29 := by decide +kernel
theorem tm_2_35 : am_T0.2.1 2 35 = some 31 := by decide +kernel
theorem tm_2_45 : am_T0.2.1 2 45 = some 7 := by decide +kernel
theorem tm_2_50 : am_T0.2.1 2 50 = some 6 := by decide +kernel
theorem tm_2_53 : am_T0.2.1 2 53 = some 104 := by decide +kernel
theorem tm_2_57 : am_T0.2.1 2 57 = some 36 := by decide +kernel
theorem tm_2_61 : am_T0.2.1 2 61 = some 1 := by decide +kernel
theorem tm_2_80 : am_T0.2.1 2 80 = some 64 := by decide +kernel
theorem tm_2_84 : am_T0.2.1 2 84 = some 66 := by decide +kernel
theorem tm_2_88 : am_T0.2.1 2 88 = some 67 := by decide +kernel
theorem tm_2_92 : am_T0.2.1 2 92 = some 68 := by decide +kernel
theorem tm_2_95 : am_T0.2.1 2 95 = some 69 := by decide +kernel
theorem tm_2_99 : am_T0.2.1 2 99 = some 71 := by decide +kernel
theorem tm_2_102 : am_T0.2.1 2 102 = some 72 := by decide +kernel
theorem tm_2_105 : am_T0.2.1 2 105 = some 73 := by decide +kernel
theorem tm_2_108 : am_T0.2.1 2 108 = some 37 := by decide +kernel
theorem tm_2_112 : am_T0.2.1 2 112 = some 38 := by decide +kernel
theorem tm_2_124 : am_T0.2.1 2 124 = some 74 := by decide +kernel
theorem tm_2_131 : am_T0.2.1 2 131 = some 63 := by decide +kernel
theorem tm_2_142 : am_T0.2.1 2 142 = some 8 := by decide +kernel
theorem tm_2_145 : am_T0.2.1 2 145 = some 35 := by decide +kernel
theorem tm_2_149 : am_T0.2.1 2 149 = some 32 := by decide +kernel
theorem tm_2_152 : am_T0.2.1 2 152 = some 40 := by decide +kernel
theorem tm_2_156 : am_T0.2.1 2 156 = some 39 := by decide +kernel
theorem tm_2_159 : am_T0.2.1 2 159 = some 43 := by decide +kernel
theorem tm_2_163 : am_T0.2.1 2 163 = some 198 := by decide +kernel
theorem tm_2_169 : am_T0.2.1 2 169 = some 75 := by decide +kernel
theorem tm_3_25 : am_T0.2.1 3 25 = some 198 := by decide +kernel
theorem tm_3_34 : am_T0.2.1 3 34 = some 45 := by decide +kernel
theorem tm_3_38 : am_T0.2.1 3 38 = some 46 := by decide +kernel
theorem tm_3_42 : am_T0.2.1 3 42 = some 49 := by decide +kernel
theorem tm_3_45 : am_T0.2.1 3 45 = some 48 := by decide +kernel
theorem tm_3_49 : am_T0.2.1 3 49 = some 55 := by decide +kernel
theorem tm_3_52 : am_T0.2.1 3 52 = some 47 := by decide +kernel
theorem tm_3_66 : am_T0.2.1 3 66 = some 57 := by decide +kernel
theorem tm_3_79 : am_T0.2.1 3 79 = some 60 := by decide +kernel
theorem tm_3_83 : am_T0.2.1 3 83 = some 58 := by decide +kernel
theorem tm_3_94 : am_T0.2.1 3 94 = some 65 := by decide +kernel
theorem tm_4_17 : am_T0.2.1 4 17 = some 61 := by decide +kernel
theorem tm_4_21 : am_T0.2.1 4 21 = some 62 := by decide +kernel
theorem tm_4_24 : am_T0.2.1 4 24 = some 65 := by decide +kernel
theorem tm_4_28 : am_T0.2.1 4 28 = some 63 := by decide +kernel
theorem tm_4_34 : am_T0.2.1 4 34 = some 70 := by decide +kernel
theorem tm_4_37 : am_T0.2.1 4 37 = some 75 := by decide +kernel
theorem tm_4_41 : am_T0.2.1 4 41 = some 64 := by decide +kernel
theorem tm_6_55 : am_T0.2.1 6 55 = some 98 := by decide +kernel
theorem tm_6_59 : am_T0.2.1 6 59 = some 100 := by decide +kernel
theorem tm_6_67 : am_T0.2.1 6 67 = some 102 := by decide +kernel
theorem tm_6_83 : am_T0.2.1 6 83 = some 103 := by decide +kernel
theorem tm_6_100 : am_T0.2.1 6 100 = some 15 := by decide +kernel
theorem tm_6_104 : am_T0.2.1 6 104 = some 16 := by decide +kernel
theorem tm_6_108 : am_T0.2.1 6 108 = some 99 := by decide +kernel
theorem tm_6_111 : am_T0.2.1 6 111 = some 10 := by decide +kernel
theorem tm_6_114 : am_T0.2.1 6 114 = some 12 := by decide +kernel
theorem tm_6_118 : am_T0.2.1 6 118 = some 107 := by decide +kernel
theorem tm_6_125 : am_T0.2.1 6 125 = some 108 := by decide +kernel
theorem tm_6_128 : am_T0.2.1 6 128 = some 13 := by decide +kernel
theorem tm_6_131 : am_T0.2.1 6 131 = some 109 := by decide +kernel
theorem tm_6_134 : am_T0.2.1 6 134 = some 101 := by decide +kernel
theorem tm_6_140 : am_T0.2.1 6 140 = some 106 := by decide +kernel
theorem tm_6_144 : am_T0.2.1 6 144 = some 104 := by decide +kernel
theorem tm_6_154 : am_T0.2.1 6 154 = some 111 := by decide +kernel
theorem tm_6_158 : am_T0.2.1 6 158 = some 50 := by decide +kernel
theorem tm_6_161 : am_T0.2.1 6 161 = some 114 := by decide +kernel
theorem tm_6_164 : am_T0.2.1 6 164 = some 51 := by decide +kernel
theorem tm_6_170 : am_T0.2.1 6 170 = some 49 := by decide +kernel
theorem tm_6_173 : am_T0.2.1 6 173 = some 115 := by decide +kernel
theorem tm_6_177 : am_T0.2.1 6 177 = some 45 := by decide +kernel
theorem tm_6_180 : am_T0.2.1 6 180 = some 52 := by decide +kernel
theorem tm_6_189 : am_T0.2.1 6 189 = some 116 := by decide +kernel
theorem tm_6_193 : am_T0.2.1 6 193 = some 117 := by decide +kernel
theorem tm_6_197 : am_T0.2.1 6 197 = some 53 := by decide +kernel
theorem tm_6_200 : am_T0.2.1 6 200 = some 54 := by decide +kernel
theorem tm_6_203 : am_T0.2.1 6 203 = some 48 := by decide +kernel
theorem tm_6_209 : am_T0.2.1 6 209 = some 59 := by decide +kernel
theorem tm_6_213 : am_T0.2.1 6 213 = some 105 := by decide +kernel
theorem tm_6_217 : am_T0.2.1 6 217 = some 56 := by decide +kernel
theorem tm_6_221 : am_T0.2.1 6 221 = some 57 := by decide +kernel
theorem tm_6_226 : am_T0.2.1 6 226 = some 110 := by decide +kernel
theorem tm_6_229 : am_T0.2.1 6 229 = some 8 := by decide +kernel
theorem tm_6_233 : am_T0.2.1 6 233 = some 35 := by decide +kernel
theorem tm_6_237 : am_T0.2.1 6 237 = some 32 := by decide +kernel
theorem tm_6_241 : am_T0.2.1 6 241 = some 63 := by decide +kernel
theorem tm_6_249 : am_T0.2.1 6 249 = some 112 := by decide +kernel
theorem tm_6_252 : am_T0.2.1 6 252 = some 197 := by decide +kernel
theorem tm_6_260 : am_T0.2.1 6 260 = some 42 := by decide +kernel
theorem tm_6_263 : am_T0.2.1 6 263 = some 41 := by decide +kernel
theorem tm_6_273 : am_T0.2.1 6 273 = some 44 := by decide +kernel
theorem tm_6_280 : am_T0.2.1 6 280 = some 61 := by decide +kernel
theorem tm_6_284 : am_T0.2.1 6 284 = some 62 := by decide +kernel
theorem tm_6_287 : am_T0.2.1 6 287 = some 4 := by decide +kernel
theorem tm_6_290 : am_T0.2.1 6 290 = some 33 := by decide +kernel
theorem tm_6_293 : am_T0.2.1 6 293 = some 5 := by decide +kernel
theorem tm_6_296 : am_T0.2.1 6 296 = some 9 := by decide +kernel
theorem tm_6_299 : am_T0.2.1 6 299 = some 34 := by decide +kernel
theorem tm_6_302 : am_T0.2.1 6 302 = some 74 := by decide +kernel
theorem tm_6_306 : am_T0.2.1 6 306 = some 30 := by decide +kernel
theorem tm_6_310 : am_T0.2.1 6 310 = some 75 := by decide +kernel
theorem tm_6_314 : am_T0.2.1 6 314 = some 113 := by decide +kernel
theorem tm_6_318 : am_T0.2.1 6 318 = some 47 := by decide +kernel
theorem tm_7_133 : am_T0.2.1 7 133 = some 118 := by decide +kernel
theorem tm_7_141 : am_T0.2.1 7 141 = some 120 := by decide +kernel
theorem tm_7_151 : am_T0.2.1 7 151 = some 121 := by decide +kernel
theorem tm_7_156 : am_T0.2.1 7 156 = some 122 := by decide +kernel
theorem tm_7_159 : am_T0.2.1 7 159 = some 124 := by decide +kernel
theorem tm_7_184 : am_T0.2.1 7 184 = some 132 := by decide +kernel
theorem tm_7_187 : am_T0.2.1 7 187 = some 133 := by decide +kernel
theorem tm_7_193 : am_T0.2.1 7 193 = some 136 := by decide +kernel
theorem tm_7_197 : am_T0.2.1 7 197 = some 135 := by decide +kernel
theorem tm_7_200 : am_T0.2.1 7 200 = some 134 := by decide +kernel
theorem tm_7_203 : am_T0.2.1 7 203 = some 137 := by decide +kernel
theorem tm_7_213 : am_T0.2.1 7 213 = some 139 := by decide +kernel
theorem tm_7_216 : am_T0.2.1 7 216 = some 144 := by decide +kernel
theorem tm_7_219 : am_T0.2.1 7 219 = some 140 := by decide +kernel
theorem tm_7_223 : am_T0.2.1 7 223 = some 145 := by decide +kernel
theorem tm_7_226 : am_T0.2.1 7 226 = some 143 := by decide +kernel
theorem tm_7_229 : am_T0.2.1 7 229 = some 138 := by decide +kernel
theorem tm_7_233 : am_T0.2.1 7 233 = some 141 := by decide +kernel
theorem tm_7_236 : am_T0.2.1 7 236 = some 146 := by decide +kernel
theorem tm_7_240 : am_T0.2.1 7 240 = some 142 := by decide +kernel
theorem tm_7_243 : am_T0.2.1 7 243 = some 148 := by decide +kernel
theorem tm_7_246 : am_T0.2.1 7 246 = some 167 := by decide +kernel
theorem tm_7_249 : am_T0.2.1 7 249 = some 170 := by decide +kernel
theorem tm_7_265 : am_T0.2.1 7 265 = some 147 := by decide +kernel
theorem tm_7_268 : am_T0.2.1 7 268 = some 155 := by decide +kernel
theorem tm_7_271 : am_T0.2.1 7 271 = some 149 := by decide +kernel
theorem tm_7_274 : am_T0.2.1 7 274 = some 150 := by decide +kernel
theorem tm_7_277 : am_T0.2.1 7 277 = some 151 := by decide +kernel
theorem tm_7_280 : am_T0.2.1 7 280 = some 152 := by decide +kernel
theorem tm_7_283 : am_T0.2.1 7 283 = some 153 := by decide +kernel
theorem tm_7_286 : am_T0.2.1 7 286 = some 154 := by decide +kernel
theorem tm_7_289 : am_T0.2.1 7 289 = some 123 := by decide +kernel
theorem tm_7_304 : am_T0.2.1 7 304 = some 161 := by decide +kernel
theorem tm_7_311 : am_T0.2.1 7 311 = some 163 := by decide +kernel
theorem tm_7_316 : am_T0.2.1 7 316 = some 162 := by decide +kernel
theorem tm_7_320 : am_T0.2.1 7 320 = some 160 := by decide +kernel
theorem tm_7_324 : am_T0.2.1 7 324 = some 164 := by decide +kernel
theorem tm_7_330 : am_T0.2.1 7 330 = some 168 := by decide +kernel
theorem tm_7_333 : am_T0.2.1 7 333 = some 165 := by decide +kernel
theorem tm_7_336 : am_T0.2.1 7 336 = some 171 := by decide +kernel
theorem tm_7_339 : am_T0.2.1 7 339 = some 169 := by decide +kernel
theorem tm_7_342 : am_T0.2.1 7 342 = some 172 := by decide +kernel
theorem tm_7_345 : am_T0.2.1 7 345 = some 174 := by decide +kernel
theorem tm_7_348 : am_T0.2.1 7 348 = some 175 := by decide +kernel
theorem tm_7_351 : am_T0.2.1 7 351 = some 176 := by decide +kernel
theorem tm_7_354 : am_T0.2.1 7 354 = some 177 := by decide +kernel
theorem tm_7_357 : am_T0.2.1 7 357 = some 173 := by decide +kernel
theorem tm_7_363 : am_T0.2.1 7 363 = some 178 := by decide +kernel
theorem tm_7_369 : am_T0.2.1 7 369 = some 180 := by decide +kernel
theorem tm_7_373 : am_T0.2.1 7 373 = some 182 := by decide +kernel
theorem tm_7_376 : am_T0.2.1 7 376 = some 183 := by decide +kernel
theorem tm_7_382 : am_T0.2.1 7 382 = some 186 := by decide +kernel
theorem tm_7_385 : am_T0.2.1 7 385 = some 185 := by decide +kernel
theorem tm_7_391 : am_T0.2.1 7 391 = some 119 := by decide +kernel
theorem tm_7_413 : am_T0.2.1 7 413 = some 192 := by decide +kernel
theorem tm_7_416 : am_T0.2.1 7 416 = some 193 := by decide +kernel
theorem tm_7_419 : am_T0.2.1 7 419 = some 166 := by decide +kernel
theorem tb_2_116 : am_T0.2.2.2.2 2 116 = 2 := by decide +kernel
theorem tb_2_121 : am_T0.2.2.2.2 2 121 = 1 := by decide +kernel
theorem tb_3_86 : am_T0.2.2.2.2 3 86 = 1 := by decide +kernel
theorem tb_7_292 : am_T0.2.2.2.2 7 292 = 4 := by decide +kernel
theorem tb_7_307 : am_T0.2.2.2.2 7 307 = 3 := by decide +kernel
theorem tb_7_314 : am_T0.2.2.2.2 7 314 = 1 := by decide +kernel
theorem tb_7_360 : am_T0.2.2.2.2 7 360 = 2 := by decide +kernel
theorem ti_2_49 : am_T0.2.2.1 2 49 = some (4194303) := by decide +kernel
theorem ti_6_63 : am_T0.2.2.1 6 63 = some (100000) := by decide +kernel
theorem ti_6_225 : am_T0.2.2.1 6 225 = some (2000000000) := by decide +kernel
theorem ti_6_232 : am_T0.2.2.1 6 232 = some (4194303) := by decide +kernel
theorem ti_7_132 : am_T0.2.2.1 7 132 = some (2000000000) := by decide +kernel
theorem ti_7_155 : am_T0.2.2.1 7 155 = some (100000) := by decide +kernel
theorem ti_8_265 : am_T0.2.2.1 8 265 = some (1431655765) := by decide +kernel
theorem ti_8_266 : am_T0.2.2.1 8 266 = some (858993459) := by decide +kernel
theorem ti_8_267 : am_T0.2.2.1 8 267 = some (252645135) := by decide +kernel
theorem tj_2_33 : am_T0.2.2.2.1 2 33 = some (4294967296) := by decide +kernel
theorem tj_3_92 : am_T0.2.2.2.1 3 92 = some (100) := by decide +kernel
theorem tj_4_7 : am_T0.2.2.2.1 4 7 = some (4294967295) := by decide +kernel
theorem tj_4_11 : am_T0.2.2.2.1 4 11 = some (4294967296) := by decide +kernel
theorem tj_4_13 : am_T0.2.2.2.1 4 13 = some (-1000000000) := by decide +kernel
theorem tj_4_15 : am_T0.2.2.2.1 4 15 = some (1000000000) := by decide +kernel
theorem tj_4_32 : am_T0.2.2.2.1 4 32 = some (8589934592) := by decide +kernel
theorem tj_6_247 : am_T0.2.2.2.1 6 247 = some (4294967296) := by decide +kernel
theorem tj_7_298 : am_T0.2.2.2.1 7 298 = some (1000000000) := by decide +kernel
theorem tj_7_300 : am_T0.2.2.2.1 7 300 = some (-1000000000) := by decide +kernel
theorem tj_7_302 : am_T0.2.2.2.1 7 302 = some (100) := by decide +kernel
