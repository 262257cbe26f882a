/-! THE TABLES: what the abstract machine reads (written by a program of mine from the names and the statement's words) -/
def am_ftl : List (List Nat) := [[0, 1, 0, 3, 3, 3, 3, 3, 3, 3, 3, 3], [3, 0, 3, 3, 3, 3, 0, 0, 0, 0], [3, 3, 3, 3, 3, 3, 0, 2, 2], [0, 1, 0, 0, 3, 3, 3], [0, 0, 0, 0, 0, 0], [3, 3, 3, 3, 3, 3, 3, 0, 0, 0, 0, 0, 0, 0], [3, 0, 0, 0, 0, 0, 0, 0, 3, 3, 3, 3, 3, 3, 3, 3, 3, 3, 3, 3, 3, 3, 3, 0, 0, 0, 0, 0, 0, 0, 3, 3, 3, 3, 3, 3, 0, 3, 3, 3, 3, 3, 0, 0, 3, 3, 3, 3, 0, 2, 2, 0, 3, 3, 3, 3, 3, 3, 3, 3, 1, 2, 2, 2, 2, 3, 0]]
def am_ffl : List (List Bool) := [[false, false, false, true, true, true, true, true, true, true, true, true], [true, false, false, true, true, true, false, false, false, false], [true, true, true, true, true, true, false, false, false], [false, false, false, false, true, true, true], [false, false, false, false, false, false], [true, true, true, true, true, false, true, false, false, false, false, false, false, false], [true, false, false, false, false, false, false, false, true, true, true, true, true, true, true, true, true, true, true, true, true, true, true, false, false, false, false, false, false, false, true, true, true, true, true, true, false, true, true, true, true, true, false, false, true, true, true, true, false, false, false, false, true, true, true, true, true, true, true, true, false, false, false, false, false, true, false]]
def am_fty (ci k : Nat) : Nat := (am_ftl.getD ci []).getD k 0
def am_ffin (ci k : Nat) : Bool := (am_ffl.getD ci []).getD k true
def am_nf (ci : Nat) : Nat := (am_ftl.getD ci []).length
def am_ML : List (Nat × ByteArray × Nat × Nat × Nat × Bool × Nat) := [
  (0, cX0_clear, 1, 0, 0, false, 0),
  (0, cX0_isPlace, 2, 1, 2, false, 0),
  (0, cX0_begin, 2, 1, 2, false, 0),
  (0, cX0_add, 5, 3, 0, false, 0),
  (0, cX0_namedBy, 2, 1, 1, false, 0),
  (0, cX0_nameOf, 2, 1, 1, false, 0),
  (0, cX0_belowOf, 2, 1, 1, false, 0),
  (0, cX0_inOrder, 2, 1, 1, false, 0),
  (0, cX0_goal, 2, 1, 1, false, 0),
  (0, cX0_find, 3, 1, 1, false, 0),
  (0, cX0_tie, 5, 1, 1, false, 0),
  (0, cX0_placeOf, 5, 2, 1, false, 0),
  (0, cX0_firstTwice, 2, 0, 1, false, 0),
  (0, cX0_arrange, 7, 0, 0, false, 0),
  (0, cX0_withBelow, 4, 1, 1, false, 0),
  (1, cX1_add, 3, 1, 0, false, 1),
  (1, cX1_read, 3, 1, 1, false, 1),
  (1, cX1_part, 7, 1, 0, false, 1),
  (1, cX1_kindAt, 3, 1, 1, false, 1),
  (1, cX1_putWord, 7, 4, 0, false, 1),
  (1, cX1_turnTo, 2, 1, 0, false, 1),
  (1, cX1_fail, 1, 0, 0, false, 1),
  (1, cX1_take, 2, 1, 0, false, 1),
  (1, cX1_isKept, 1, 1, 2, true, 1),
  (1, cX1_opOf, 1, 1, 1, true, 1),
  (1, cX1_readSum, 4, 1, 0, false, 1),
  (1, cX1_readProduct, 4, 1, 0, false, 1),
  (1, cX1_readPart, 3, 1, 0, false, 1),
  (1, cX1_readCall, 6, 2, 0, false, 1),
  (1, cX1_open, 2, 1, 0, false, 1),
  (2, cX2_setMark, 5, 3, 0, false, 2),
  (2, cX2_at, 3, 2, 3, false, 2),
  (2, cX2_ofRule, 2, 1, 3, false, 2),
  (2, cX2_keep, 2, 0, 0, false, 2),
  (2, cX2_kept, 2, 1, 3, false, 2),
  (2, cX2_settle, 8, 3, 0, false, 2),
  (2, cX2_run, 9, 2, 3, false, 2),
  (2, cX2_ofList, 11, 4, 3, false, 2),
  (2, cX2_sortDown, 7, 2, 0, false, 2),
  (2, cX2_tryMark, 3, 2, 0, false, 2),
  (2, cX2_widen, 3, 1, 0, false, 2),
  (2, cX2_tryEnds, 6, 3, 0, false, 2),
  (2, cX2_tryAll, 8, 3, 0, false, 2),
  (2, cX2_vary, 4, 1, 0, false, 2),
  (2, cX2_leastMark, 8, 4, 1, false, 2),
  (3, cX3_latest, 2, 1, 1, false, 3),
  (3, cX3_isSlot, 2, 1, 2, false, 3),
  (3, cX3_tickOf, 2, 1, 1, false, 3),
  (3, cX3_lastMarked, 2, 0, 1, false, 3),
  (3, cX3_waits, 3, 1, 2, false, 3),
  (3, cX3_takesMore, 2, 1, 2, false, 3),
  (3, cX3_add, 5, 3, 0, false, 3),
  (3, cX3_put, 4, 2, 1, false, 3),
  (3, cX3_hasShown, 2, 1, 2, false, 3),
  (3, cX3_putShown, 3, 2, 1, false, 3),
  (3, cX3_shownMarks, 3, 0, 1, false, 3),
  (3, cX3_isMarked, 1, 0, 2, false, 3),
  (3, cX3_days, 4, 2, 1, false, 3),
  (3, cX3_share, 4, 2, 1, false, 3),
  (3, cX3_worth, 4, 1, 3, false, 3),
  (3, cX3_shownWorth, 5, 1, 3, false, 3),
  (4, cX4_upper, 2, 1, 3, true, 99),
  (4, cX4_lower, 2, 1, 3, true, 99),
  (4, cX4_isNumber, 2, 1, 2, true, 99),
  (4, cX4_whole, 1, 1, 3, true, 99),
  (4, cX4_of, 11, 2, 3, true, 99),
  (4, cX4_plus, 4, 2, 3, true, 99),
  (4, cX4_negated, 2, 1, 3, true, 99),
  (4, cX4_times, 4, 2, 3, true, 99),
  (4, cX4_over, 3, 2, 3, true, 99),
  (4, cX4_cap, 3, 2, 3, true, 99),
  (4, cX4_pass, 3, 2, 3, true, 99),
  (4, cX4_isLess, 4, 2, 2, true, 99),
  (4, cX4_isAtLeast, 3, 2, 2, true, 99),
  (6, cX6_pupil, 1, 0, 1, false, 5),
  (6, cX6_group, 4, 2, 1, false, 5),
  (6, cX6_work, 7, 4, 1, false, 5),
  (6, cX6_leave, 6, 3, 1, false, 5),
  (6, cX6_excuse, 5, 3, 1, false, 5),
  (6, cX6_tick, 2, 1, 1, false, 5),
  (6, cX6_text, 6, 5, 1, false, 5),
  (6, cX6_rules, 7, 2, 1, false, 5),
  (6, cX6_name, 2, 1, 1, false, 5),
  (6, cX6_hangs, 3, 2, 1, false, 5),
  (6, cX6_need, 5, 3, 1, false, 5),
  (6, cX6_opens, 4, 2, 1, false, 5),
  (6, cX6_hand, 5, 2, 1, false, 5),
  (6, cX6_mark, 6, 3, 1, false, 5),
  (6, cX6_peer, 7, 3, 1, false, 5),
  (6, cX6_show, 7, 4, 1, false, 5),
  (6, cX6_appeal, 7, 3, 1, false, 5),
  (6, cX6_markOf, 6, 3, 1, false, 5),
  (6, cX6_value, 6, 3, 1, false, 5),
  (6, cX6_range, 6, 3, 1, false, 5),
  (6, cX6_least, 8, 4, 1, false, 5),
  (6, cX6_count, 3, 1, 1, false, 5),
  (6, cX6_refuse, 3, 1, 1, false, 5),
  (6, cX6_refuseText, 2, 1, 1, false, 5),
  (6, cX6_isPupil, 2, 1, 2, false, 5),
  (6, cX6_isRule, 2, 1, 2, false, 5),
  (6, cX6_workAt, 2, 1, 4, false, 5),
  (6, cX6_sheetOf, 4, 2, 4, false, 5),
  (6, cX6_bit, 2, 2, 1, true, 5),
  (6, cX6_part, 3, 2, 1, true, 5),
  (6, cX6_under, 8, 2, 1, false, 5),
  (6, cX6_hasRing, 3, 1, 2, false, 5),
  (6, cX6_needsBeyond, 4, 1, 2, false, 5),
  (6, cX6_lessens, 5, 1, 2, false, 5),
  (6, cX6_load, 5, 1, 0, false, 5),
  (6, cX6_isOpen, 3, 2, 2, false, 5),
  (6, cX6_openEnded, 5, 1, 1, false, 5),
  (6, cX6_inGroup, 3, 2, 2, false, 5),
  (6, cX6_handGrouped, 7, 2, 1, false, 5),
  (6, cX6_markGrouped, 9, 3, 1, false, 5),
  (6, cX6_peerOf, 8, 3, 1, false, 5),
  (6, cX6_isPeer, 4, 3, 2, false, 5),
  (7, cX7_refuse, 2, 1, 1, false, 6),
  (7, cX7_refuseFar, 2, 1, 1, false, 6),
  (7, cX7_isIn, 2, 2, 2, true, 6),
  (7, cX7_isPupil, 2, 1, 2, false, 6),
  (7, cX7_isWork, 2, 1, 2, false, 6),
  (7, cX7_isRule, 2, 1, 2, false, 6),
  (7, cX7_spot, 2, 2, 1, true, 6),
  (7, cX7_pupil, 1, 0, 1, false, 6),
  (7, cX7_group, 4, 2, 1, false, 6),
  (7, cX7_work, 5, 4, 1, false, 6),
  (7, cX7_leave, 5, 3, 1, false, 6),
  (7, cX7_excuse, 4, 3, 1, false, 6),
  (7, cX7_tick, 2, 1, 1, false, 6),
  (7, cX7_text, 8, 5, 1, false, 6),
  (7, cX7_isDigit, 1, 1, 2, true, 6),
  (7, cX7_isLetter, 1, 1, 2, true, 6),
  (7, cX7_reads, 3, 0, 0, false, 6),
  (7, cX7_isSign, 2, 1, 2, false, 6),
  (7, cX7_isFine, 1, 0, 2, false, 6),
  (7, cX7_faults, 1, 0, 1, false, 6),
  (7, cX7_must, 2, 1, 0, false, 6),
  (7, cX7_node, 4, 2, 1, false, 6),
  (7, cX7_adds, 3, 2, 0, false, 6),
  (7, cX7_functionOf, 1, 1, 1, true, 6),
  (7, cX7_workOf, 2, 1, 1, true, 6),
  (7, cX7_sum, 5, 1, 1, false, 6),
  (7, cX7_product, 5, 1, 1, false, 6),
  (7, cX7_one, 4, 1, 1, false, 6),
  (7, cX7_list, 5, 3, 1, false, 6),
  (7, cX7_parses, 5, 1, 2, false, 6),
  (7, cX7_ruleOf, 4, 2, 1, false, 6),
  (7, cX7_holes, 7, 0, 1, false, 6),
  (7, cX7_twice, 2, 0, 1, false, 6),
  (7, cX7_findHangs, 5, 1, 0, false, 6),
  (7, cX7_isRing, 3, 0, 2, false, 6),
  (7, cX7_keepsOld, 4, 0, 0, false, 6),
  (7, cX7_isLess, 5, 1, 2, false, 6),
  (7, cX7_refusesText, 2, 1, 1, false, 6),
  (7, cX7_rules, 7, 2, 1, false, 6),
  (7, cX7_name, 2, 1, 1, false, 6),
  (7, cX7_hangs, 3, 2, 1, false, 6),
  (7, cX7_need, 5, 3, 1, false, 6),
  (7, cX7_tells, 11, 2, 0, false, 6),
  (7, cX7_days, 5, 3, 1, false, 6),
  (7, cX7_part100, 4, 3, 3, false, 6),
  (7, cX7_peerMarks, 5, 2, 1, false, 6),
  (7, cX7_isMarked, 3, 2, 2, false, 6),
  (7, cX7_markedIs, 7, 2, 0, false, 6),
  (7, cX7_isOpenEnded, 3, 2, 2, false, 6),
  (7, cX7_begins, 3, 1, 0, false, 6),
  (7, cX7_forgets, 2, 0, 0, false, 6),
  (7, cX7_workIs, 2, 1, 0, false, 6),
  (7, cX7_values, 2, 1, 0, false, 6),
  (7, cX7_valueOf, 2, 1, 0, false, 6),
  (7, cX7_partsOf, 6, 1, 0, false, 6),
  (7, cX7_plus, 5, 2, 0, false, 6),
  (7, cX7_sums, 3, 1, 0, false, 6),
  (7, cX7_multiplies, 3, 1, 0, false, 6),
  (7, cX7_caps, 4, 1, 0, false, 6),
  (7, cX7_picks, 6, 2, 0, false, 6),
  (7, cX7_isOpen, 3, 2, 2, false, 6),
  (7, cX7_opens, 3, 2, 1, false, 6),
  (7, cX7_hands, 6, 4, 0, false, 6),
  (7, cX7_hand, 4, 2, 1, false, 6),
  (7, cX7_handsAll, 5, 2, 1, false, 6),
  (7, cX7_toMark, 5, 2, 1, false, 6),
  (7, cX7_mark, 11, 3, 1, false, 6),
  (7, cX7_peerOf, 7, 3, 1, false, 6),
  (7, cX7_isShown, 3, 2, 2, false, 6),
  (7, cX7_peer, 4, 3, 1, false, 6),
  (7, cX7_show, 6, 4, 1, false, 6),
  (7, cX7_appeal, 7, 3, 1, false, 6),
  (7, cX7_markOf, 6, 3, 1, false, 6),
  (7, cX7_value, 4, 3, 1, false, 6),
  (7, cX7_looks, 2, 1, 0, false, 6),
  (7, cX7_goes, 4, 2, 0, false, 6),
  (7, cX7_range, 5, 3, 1, false, 6),
  (7, cX7_least, 6, 4, 1, false, 6),
  (7, cX7_count, 2, 1, 1, false, 6),
  (8, cJ6_bitCount_0f7a4, 1, 1, 1, true, 99),
  (9, cJ7_fill_53178, 4, 2, 0, true, 99)]
def am_YL : List MethodName := [yX0_clear, yX0_isPlace, yX0_begin, yX0_add, yX0_namedBy, yX0_nameOf, yX0_belowOf, yX0_inOrder, yX0_goal, yX0_find, yX0_tie, yX0_placeOf, yX0_firstTwice, yX0_arrange, yX0_withBelow, yX1_add, yX1_read, yX1_part, yX1_kindAt, yX1_putWord, yX1_turnTo, yX1_fail, yX1_take, yX1_isKept, yX1_opOf, yX1_readSum, yX1_readProduct, yX1_readPart, yX1_readCall, yX1_open, yX2_setMark, yX2_at, yX2_ofRule, yX2_keep, yX2_kept, yX2_settle, yX2_run, yX2_ofList, yX2_sortDown, yX2_tryMark, yX2_widen, yX2_tryEnds, yX2_tryAll, yX2_vary, yX2_leastMark, yX3_latest, yX3_isSlot, yX3_tickOf, yX3_lastMarked, yX3_waits, yX3_takesMore, yX3_add, yX3_put, yX3_hasShown, yX3_putShown, yX3_shownMarks, yX3_isMarked, yX3_days, yX3_share, yX3_worth, yX3_shownWorth, yX4_upper, yX4_lower, yX4_isNumber, yX4_whole, yX4_of, yX4_plus, yX4_negated, yX4_times, yX4_over, yX4_cap, yX4_pass, yX4_isLess, yX4_isAtLeast, yX6_pupil, yX6_group, yX6_work, yX6_leave, yX6_excuse, yX6_tick, yX6_text, yX6_rules, yX6_name, yX6_hangs, yX6_need, yX6_opens, yX6_hand, yX6_mark, yX6_peer, yX6_show, yX6_appeal, yX6_markOf, yX6_value, yX6_range, yX6_least, yX6_count, yX6_refuse, yX6_refuseText, yX6_isPupil, yX6_isRule, yX6_workAt, yX6_sheetOf, yX6_bit, yX6_part, yX6_under, yX6_hasRing, yX6_needsBeyond, yX6_lessens, yX6_load, yX6_isOpen, yX6_openEnded, yX6_inGroup, yX6_handGrouped, yX6_markGrouped, yX6_peerOf, yX6_isPeer, yX7_refuse, yX7_refuseFar, yX7_isIn, yX7_isPupil, yX7_isWork, yX7_isRule, yX7_spot, yX7_pupil, yX7_group, yX7_work, yX7_leave, yX7_excuse, yX7_tick, yX7_text, yX7_isDigit, yX7_isLetter, yX7_reads, yX7_isSign, yX7_isFine, yX7_faults, yX7_must, yX7_node, yX7_adds, yX7_functionOf, yX7_workOf, yX7_sum, yX7_product, yX7_one, yX7_list, yX7_parses, yX7_ruleOf, yX7_holes, yX7_twice, yX7_findHangs, yX7_isRing, yX7_keepsOld, yX7_isLess, yX7_refusesText, yX7_rules, yX7_name, yX7_hangs, yX7_need, yX7_tells, yX7_days, yX7_part100, yX7_peerMarks, yX7_isMarked, yX7_markedIs, yX7_isOpenEnded, yX7_begins, yX7_forgets, yX7_workIs, yX7_values, yX7_valueOf, yX7_partsOf, yX7_plus, yX7_sums, yX7_multiplies, yX7_caps, yX7_picks, yX7_isOpen, yX7_opens, yX7_hands, yX7_hand, yX7_handsAll, yX7_toMark, yX7_mark, yX7_peerOf, yX7_isShown, yX7_peer, yX7_show, yX7_appeal, yX7_markOf, yX7_value, yX7_looks, yX7_goes, yX7_range, yX7_least, yX7_count, yJ6_bitCount_0f7a4, yJ7_fill_53178]
def am_RL : List (Option FieldType) := [(none : Option FieldType), (some FieldType.boolean), (some FieldType.boolean), (none : Option FieldType), (some FieldType.int), (some FieldType.int), (some FieldType.int), (some FieldType.int), (some FieldType.int), (some FieldType.int), (some FieldType.int), (some FieldType.int), (some FieldType.int), (none : Option FieldType), (some FieldType.int), (none : Option FieldType), (some FieldType.int), (none : Option FieldType), (some FieldType.int), (none : Option FieldType), (none : Option FieldType), (none : Option FieldType), (none : Option FieldType), (some FieldType.boolean), (some FieldType.int), (none : Option FieldType), (none : Option FieldType), (none : Option FieldType), (none : Option FieldType), (none : Option FieldType), (none : Option FieldType), (some FieldType.long), (some FieldType.long), (none : Option FieldType), (some FieldType.long), (none : Option FieldType), (some FieldType.long), (some FieldType.long), (none : Option FieldType), (none : Option FieldType), (none : Option FieldType), (none : Option FieldType), (none : Option FieldType), (none : Option FieldType), (some FieldType.int), (some FieldType.int), (some FieldType.boolean), (some FieldType.int), (some FieldType.int), (some FieldType.boolean), (some FieldType.boolean), (none : Option FieldType), (some FieldType.int), (some FieldType.boolean), (some FieldType.int), (some FieldType.int), (some FieldType.boolean), (some FieldType.int), (some FieldType.int), (some FieldType.long), (some FieldType.long), (some FieldType.long), (some FieldType.long), (some FieldType.boolean), (some FieldType.long), (some FieldType.long), (some FieldType.long), (some FieldType.long), (some FieldType.long), (some FieldType.long), (some FieldType.long), (some FieldType.long), (some FieldType.boolean), (some FieldType.boolean), (some FieldType.int), (some FieldType.int), (some FieldType.int), (some FieldType.int), (some FieldType.int), (some FieldType.int), (some FieldType.int), (some FieldType.int), (some FieldType.int), (some FieldType.int), (some FieldType.int), (some FieldType.int), (some FieldType.int), (some FieldType.int), (some FieldType.int), (some FieldType.int), (some FieldType.int), (some FieldType.int), (some FieldType.int), (some FieldType.int), (some FieldType.int), (some FieldType.int), (some FieldType.int), (some FieldType.int), (some FieldType.boolean), (some FieldType.boolean), (some (FieldType.object "CourseHouse$Work")), (some (FieldType.object "CourseHouse$Sheet")), (some FieldType.int), (some FieldType.int), (some FieldType.int), (some FieldType.boolean), (some FieldType.boolean), (some FieldType.boolean), (none : Option FieldType), (some FieldType.boolean), (some FieldType.int), (some FieldType.boolean), (some FieldType.int), (some FieldType.int), (some FieldType.int), (some FieldType.boolean), (some FieldType.int), (some FieldType.int), (some FieldType.boolean), (some FieldType.boolean), (some FieldType.boolean), (some FieldType.boolean), (some FieldType.int), (some FieldType.int), (some FieldType.int), (some FieldType.int), (some FieldType.int), (some FieldType.int), (some FieldType.int), (some FieldType.int), (some FieldType.boolean), (some FieldType.boolean), (none : Option FieldType), (some FieldType.boolean), (some FieldType.boolean), (some FieldType.int), (none : Option FieldType), (some FieldType.int), (none : Option FieldType), (some FieldType.int), (some FieldType.int), (some FieldType.int), (some FieldType.int), (some FieldType.int), (some FieldType.int), (some FieldType.boolean), (some FieldType.int), (some FieldType.int), (some FieldType.int), (none : Option FieldType), (some FieldType.boolean), (none : Option FieldType), (some FieldType.boolean), (some FieldType.int), (some FieldType.int), (some FieldType.int), (some FieldType.int), (some FieldType.int), (none : Option FieldType), (some FieldType.int), (some FieldType.long), (some FieldType.int), (some FieldType.boolean), (none : Option FieldType), (some FieldType.boolean), (none : Option FieldType), (none : Option FieldType), (none : Option FieldType), (none : Option FieldType), (none : Option FieldType), (none : Option FieldType), (none : Option FieldType), (none : Option FieldType), (none : Option FieldType), (none : Option FieldType), (none : Option FieldType), (some FieldType.boolean), (some FieldType.int), (none : Option FieldType), (some FieldType.int), (some FieldType.int), (some FieldType.int), (some FieldType.int), (some FieldType.int), (some FieldType.boolean), (some FieldType.int), (some FieldType.int), (some FieldType.int), (some FieldType.int), (some FieldType.int), (none : Option FieldType), (none : Option FieldType), (some FieldType.int), (some FieldType.int), (some FieldType.int), (some FieldType.int), (none : Option FieldType)]
def am_CL : List String := [RX0, RX1, RX2, RX3, RX4, RX5, RX6, RX7, RJ6, RJ7]
abbrev mX0_clear : Nat := 0
abbrev mX0_isPlace : Nat := 1
abbrev mX0_begin : Nat := 2
abbrev mX0_add : Nat := 3
abbrev mX0_namedBy : Nat := 4
abbrev mX0_nameOf : Nat := 5
abbrev mX0_belowOf : Nat := 6
abbrev mX0_inOrder : Nat := 7
abbrev mX0_goal : Nat := 8
abbrev mX0_find : Nat := 9
abbrev mX0_tie : Nat := 10
abbrev mX0_placeOf : Nat := 11
abbrev mX0_firstTwice : Nat := 12
abbrev mX0_arrange : Nat := 13
abbrev mX0_withBelow : Nat := 14
abbrev mX1_add : Nat := 15
abbrev mX1_read : Nat := 16
abbrev mX1_part : Nat := 17
abbrev mX1_kindAt : Nat := 18
abbrev mX1_putWord : Nat := 19
abbrev mX1_turnTo : Nat := 20
abbrev mX1_fail : Nat := 21
abbrev mX1_take : Nat := 22
abbrev mX1_isKept : Nat := 23
abbrev mX1_opOf : Nat := 24
abbrev mX1_readSum : Nat := 25
abbrev mX1_readProduct : Nat := 26
abbrev mX1_readPart : Nat := 27
abbrev mX1_readCall : Nat := 28
abbrev mX1_open : Nat := 29
abbrev mX2_setMark : Nat := 30
abbrev mX2_at : Nat := 31
abbrev mX2_ofRule : Nat := 32
abbrev mX2_keep : Nat := 33
abbrev mX2_kept : Nat := 34
abbrev mX2_settle : Nat := 35
abbrev mX2_run : Nat := 36
abbrev mX2_ofList : Nat := 37
abbrev mX2_sortDown : Nat := 38
abbrev mX2_tryMark : Nat := 39
abbrev mX2_widen : Nat := 40
abbrev mX2_tryEnds : Nat := 41
abbrev mX2_tryAll : Nat := 42
abbrev mX2_vary : Nat := 43
abbrev mX2_leastMark : Nat := 44
abbrev mX3_latest : Nat := 45
abbrev mX3_isSlot : Nat := 46
abbrev mX3_tickOf : Nat := 47
abbrev mX3_lastMarked : Nat := 48
abbrev mX3_waits : Nat := 49
abbrev mX3_takesMore : Nat := 50
abbrev mX3_add : Nat := 51
abbrev mX3_put : Nat := 52
abbrev mX3_hasShown : Nat := 53
abbrev mX3_putShown : Nat := 54
abbrev mX3_shownMarks : Nat := 55
abbrev mX3_isMarked : Nat := 56
abbrev mX3_days : Nat := 57
abbrev mX3_share : Nat := 58
abbrev mX3_worth : Nat := 59
abbrev mX3_shownWorth : Nat := 60
abbrev mX4_upper : Nat := 61
abbrev mX4_lower : Nat := 62
abbrev mX4_isNumber : Nat := 63
abbrev mX4_whole : Nat := 64
abbrev mX4_of : Nat := 65
abbrev mX4_plus : Nat := 66
abbrev mX4_negated : Nat := 67
abbrev mX4_times : Nat := 68
abbrev mX4_over : Nat := 69
abbrev mX4_cap : Nat := 70
abbrev mX4_pass : Nat := 71
abbrev mX4_isLess : Nat := 72
abbrev mX4_isAtLeast : Nat := 73
abbrev mX6_pupil : Nat := 74
abbrev mX6_group : Nat := 75
abbrev mX6_work : Nat := 76
abbrev mX6_leave : Nat := 77
abbrev mX6_excuse : Nat := 78
abbrev mX6_tick : Nat := 79
abbrev mX6_text : Nat := 80
abbrev mX6_rules : Nat := 81
abbrev mX6_name : Nat := 82
abbrev mX6_hangs : Nat := 83
abbrev mX6_need : Nat := 84
abbrev mX6_opens : Nat := 85
abbrev mX6_hand : Nat := 86
abbrev mX6_mark : Nat := 87
abbrev mX6_peer : Nat := 88
abbrev mX6_show : Nat := 89
abbrev mX6_appeal : Nat := 90
abbrev mX6_markOf : Nat := 91
abbrev mX6_value : Nat := 92
abbrev mX6_range : Nat := 93
abbrev mX6_least : Nat := 94
abbrev mX6_count : Nat := 95
abbrev mX6_refuse : Nat := 96
abbrev mX6_refuseText : Nat := 97
abbrev mX6_isPupil : Nat := 98
abbrev mX6_isRule : Nat := 99
abbrev mX6_workAt : Nat := 100
abbrev mX6_sheetOf : Nat := 101
abbrev mX6_bit : Nat := 102
abbrev mX6_part : Nat := 103
abbrev mX6_under : Nat := 104
abbrev mX6_hasRing : Nat := 105
abbrev mX6_needsBeyond : Nat := 106
abbrev mX6_lessens : Nat := 107
abbrev mX6_load : Nat := 108
abbrev mX6_isOpen : Nat := 109
abbrev mX6_openEnded : Nat := 110
abbrev mX6_inGroup : Nat := 111
abbrev mX6_handGrouped : Nat := 112
abbrev mX6_markGrouped : Nat := 113
abbrev mX6_peerOf : Nat := 114
abbrev mX6_isPeer : Nat := 115
abbrev mX7_refuse : Nat := 116
abbrev mX7_refuseFar : Nat := 117
abbrev mX7_isIn : Nat := 118
abbrev mX7_isPupil : Nat := 119
abbrev mX7_isWork : Nat := 120
abbrev mX7_isRule : Nat := 121
abbrev mX7_spot : Nat := 122
abbrev mX7_pupil : Nat := 123
abbrev mX7_group : Nat := 124
abbrev mX7_work : Nat := 125
abbrev mX7_leave : Nat := 126
abbrev mX7_excuse : Nat := 127
abbrev mX7_tick : Nat := 128
abbrev mX7_text : Nat := 129
abbrev mX7_isDigit : Nat := 130
abbrev mX7_isLetter : Nat := 131
abbrev mX7_reads : Nat := 132
abbrev mX7_isSign : Nat := 133
abbrev mX7_isFine : Nat := 134
abbrev mX7_faults : Nat := 135
abbrev mX7_must : Nat := 136
abbrev mX7_node : Nat := 137
abbrev mX7_adds : Nat := 138
abbrev mX7_functionOf : Nat := 139
abbrev mX7_workOf : Nat := 140
abbrev mX7_sum : Nat := 141
abbrev mX7_product : Nat := 142
abbrev mX7_one : Nat := 143
abbrev mX7_list : Nat := 144
abbrev mX7_parses : Nat := 145
abbrev mX7_ruleOf : Nat := 146
abbrev mX7_holes : Nat := 147
abbrev mX7_twice : Nat := 148
abbrev mX7_findHangs : Nat := 149
abbrev mX7_isRing : Nat := 150
abbrev mX7_keepsOld : Nat := 151
abbrev mX7_isLess : Nat := 152
abbrev mX7_refusesText : Nat := 153
abbrev mX7_rules : Nat := 154
abbrev mX7_name : Nat := 155
abbrev mX7_hangs : Nat := 156
abbrev mX7_need : Nat := 157
abbrev mX7_tells : Nat := 158
abbrev mX7_days : Nat := 159
abbrev mX7_part100 : Nat := 160
abbrev mX7_peerMarks : Nat := 161
abbrev mX7_isMarked : Nat := 162
abbrev mX7_markedIs : Nat := 163
abbrev mX7_isOpenEnded : Nat := 164
abbrev mX7_begins : Nat := 165
abbrev mX7_forgets : Nat := 166
abbrev mX7_workIs : Nat := 167
abbrev mX7_values : Nat := 168
abbrev mX7_valueOf : Nat := 169
abbrev mX7_partsOf : Nat := 170
abbrev mX7_plus : Nat := 171
abbrev mX7_sums : Nat := 172
abbrev mX7_multiplies : Nat := 173
abbrev mX7_caps : Nat := 174
abbrev mX7_picks : Nat := 175
abbrev mX7_isOpen : Nat := 176
abbrev mX7_opens : Nat := 177
abbrev mX7_hands : Nat := 178
abbrev mX7_hand : Nat := 179
abbrev mX7_handsAll : Nat := 180
abbrev mX7_toMark : Nat := 181
abbrev mX7_mark : Nat := 182
abbrev mX7_peerOf : Nat := 183
abbrev mX7_isShown : Nat := 184
abbrev mX7_peer : Nat := 185
abbrev mX7_show : Nat := 186
abbrev mX7_appeal : Nat := 187
abbrev mX7_markOf : Nat := 188
abbrev mX7_value : Nat := 189
abbrev mX7_looks : Nat := 190
abbrev mX7_goes : Nat := 191
abbrev mX7_range : Nat := 192
abbrev mX7_least : Nat := 193
abbrev mX7_count : Nat := 194
abbrev mJ6_bitCount_0f7a4 : Nat := 195
abbrev mJ7_fill_53178 : Nat := 196
/-- own class, place in its pool, the field's class, its slot, the word's place -/
def am_FL : List (Nat × Nat × Nat × Nat × Nat) := [(0, 9, 0, 3, 132), (0, 15, 0, 4, 134), (0, 18, 0, 5, 136), (0, 21, 0, 6, 138), (0, 24, 0, 7, 139), (0, 27, 0, 8, 140), (0, 30, 0, 9, 141), (0, 33, 0, 10, 143), (0, 36, 0, 11, 145), (0, 39, 0, 0, 125), (0, 43, 0, 1, 128), (0, 47, 0, 2, 131), (1, 9, 1, 0, 174), (1, 18, 1, 2, 177), (1, 22, 1, 3, 179), (1, 26, 1, 4, 180), (1, 29, 1, 5, 181), (1, 32, 1, 9, 185), (1, 36, 1, 1, 175), (1, 49, 1, 7, 183), (1, 52, 1, 8, 184), (1, 79, 1, 6, 182), (1, 88, 0, 1, 129), (2, 9, 2, 0, 213), (2, 15, 2, 1, 214), (2, 18, 2, 2, 215), (2, 21, 2, 3, 216), (2, 25, 2, 4, 217), (2, 28, 2, 5, 218), (2, 39, 0, 0, 126), (2, 65, 0, 4, 135), (2, 68, 0, 5, 137), (2, 71, 0, 10, 144), (2, 74, 0, 11, 146), (2, 77, 0, 9, 142), (2, 125, 2, 6, 219), (2, 132, 2, 7, 220), (2, 136, 2, 8, 222), (3, 9, 3, 3, 288), (3, 15, 3, 4, 290), (3, 19, 3, 5, 291), (3, 22, 3, 6, 292), (3, 31, 3, 2, 286), (3, 55, 4, 2, 255), (3, 60, 3, 0, 283), (3, 63, 4, 3, 257), (3, 70, 3, 1, 285), (3, 76, 4, 0, 252), (5, 9, 4, 4, 258), (6, 9, 5, 0, 308), (6, 15, 5, 1, 309), (6, 21, 5, 2, 310), (6, 28, 5, 3, 311), (6, 35, 5, 4, 312), (6, 42, 5, 5, 313), (6, 46, 5, 6, 314), (6, 51, 5, 7, 315), (6, 64, 5, 8, 316), (6, 71, 4, 0, 251), (6, 74, 4, 1, 253), (6, 77, 4, 2, 254), (6, 80, 4, 3, 256), (6, 87, 3, 0, 282), (6, 90, 3, 1, 284), (6, 94, 5, 9, 317), (6, 97, 1, 1, 176), (6, 107, 1, 2, 178), (6, 122, 0, 0, 127), (6, 137, 0, 3, 133), (6, 148, 4, 4, 259), (6, 151, 4, 5, 260), (6, 167, 5, 10, 318), (6, 183, 5, 11, 319), (6, 186, 3, 2, 287), (6, 206, 5, 12, 320), (6, 257, 0, 1, 130), (6, 266, 2, 7, 221), (6, 270, 2, 8, 223), (6, 277, 5, 13, 321), (6, 321, 3, 3, 289), (7, 7, 6, 0, 851), (7, 13, 6, 8, 859), (7, 16, 6, 9, 860), (7, 19, 6, 10, 861), (7, 22, 6, 11, 862), (7, 25, 6, 12, 863), (7, 28, 6, 13, 864), (7, 31, 6, 14, 865), (7, 34, 6, 15, 866), (7, 37, 6, 16, 867), (7, 40, 6, 17, 868), (7, 43, 6, 18, 869), (7, 46, 6, 19, 870), (7, 49, 6, 20, 871), (7, 52, 6, 21, 872), (7, 56, 6, 22, 873), (7, 59, 6, 30, 881), (7, 62, 6, 31, 882), (7, 65, 6, 32, 883), (7, 68, 6, 33, 884), (7, 71, 6, 34, 885), (7, 74, 6, 35, 886), (7, 77, 6, 37, 888), (7, 80, 6, 38, 889), (7, 83, 6, 39, 890), (7, 86, 6, 40, 891), (7, 89, 6, 41, 892), (7, 92, 6, 44, 895), (7, 95, 6, 45, 896), (7, 98, 6, 46, 897), (7, 102, 6, 47, 898), (7, 105, 6, 52, 903), (7, 108, 6, 53, 904), (7, 111, 6, 54, 905), (7, 114, 6, 55, 906), (7, 117, 6, 56, 907), (7, 120, 6, 57, 908), (7, 123, 6, 58, 909), (7, 126, 6, 59, 910), (7, 129, 6, 65, 916), (7, 137, 6, 1, 852), (7, 145, 6, 2, 853), (7, 148, 6, 42, 893), (7, 163, 6, 3, 854), (7, 166, 6, 23, 874), (7, 169, 6, 27, 878), (7, 172, 6, 28, 879), (7, 175, 6, 25, 876), (7, 178, 6, 26, 877), (7, 181, 6, 24, 875), (7, 190, 6, 29, 880), (7, 207, 6, 43, 894), (7, 210, 6, 36, 887), (7, 252, 6, 48, 899), (7, 255, 6, 49, 900), (7, 259, 6, 50, 901), (7, 262, 6, 7, 858), (7, 327, 6, 51, 902), (7, 366, 6, 4, 855), (7, 379, 6, 5, 856), (7, 388, 6, 6, 857), (7, 394, 6, 60, 911), (7, 398, 6, 62, 913), (7, 401, 6, 61, 912), (7, 404, 6, 64, 915), (7, 407, 6, 63, 914), (7, 410, 6, 66, 917)]
/-- own class, place in its pool, the method, the word's place, 1: by a nest -/
def am_KL : List (Nat × Nat × Nat × Nat × Nat) := [(0, 50, 1, 462, 0), (0, 54, 6, 522, 0), (0, 58, 11, 482, 0), (0, 62, 9, 486, 0), (0, 65, 14, 517, 0), (0, 68, 102, 521, 1), (1, 39, 17, 408, 0), (1, 43, 0, 420, 0), (1, 46, 20, 424, 0), (1, 55, 23, 428, 0), (1, 59, 2, 434, 0), (1, 62, 21, 438, 0), (1, 65, 22, 442, 0), (1, 68, 25, 446, 0), (1, 71, 18, 412, 0), (1, 75, 19, 416, 0), (1, 82, 24, 431, 0), (1, 85, 26, 450, 0), (1, 92, 3, 458, 0), (1, 96, 27, 454, 0), (1, 99, 28, 466, 0), (1, 103, 29, 470, 0), (2, 35, 31, 593, 0), (2, 45, 7, 577, 0), (2, 50, 6, 582, 0), (2, 53, 102, 583, 1), (2, 57, 36, 584, 0), (2, 61, 1, 588, 0), (2, 80, 64, 590, 0), (2, 84, 66, 597, 0), (2, 88, 67, 608, 0), (2, 92, 68, 614, 0), (2, 95, 69, 617, 0), (2, 99, 70, 620, 0), (2, 102, 71, 627, 0), (2, 105, 37, 630, 0), (2, 109, 38, 634, 0), (2, 121, 72, 638, 0), (2, 128, 63, 827, 0), (2, 139, 8, 811, 0), (2, 142, 35, 817, 0), (2, 146, 32, 822, 0), (2, 149, 40, 823, 0), (2, 153, 39, 818, 0), (2, 156, 43, 812, 0), (2, 160, 196, 816, 0), (2, 166, 73, 840, 0), (3, 25, 196, 279, 0), (3, 34, 45, 704, 0), (3, 38, 46, 708, 0), (3, 42, 49, 700, 0), (3, 45, 48, 712, 0), (3, 49, 55, 542, 0), (3, 52, 47, 554, 0), (3, 66, 57, 550, 0), (3, 79, 60, 538, 0), (3, 83, 58, 546, 0), (3, 94, 65, 559, 0), (4, 17, 61, 600, 0), (4, 21, 62, 603, 0), (4, 24, 65, 607, 0), (4, 28, 63, 611, 0), (4, 32, 73, 623, 0), (4, 36, 64, 626, 0), (6, 55, 96, 355, 0), (6, 59, 98, 363, 0), (6, 67, 100, 372, 0), (6, 83, 101, 380, 0), (6, 100, 15, 396, 0), (6, 104, 16, 404, 0), (6, 108, 97, 474, 0), (6, 111, 10, 478, 0), (6, 114, 12, 490, 0), (6, 118, 105, 494, 0), (6, 125, 106, 509, 0), (6, 128, 13, 513, 0), (6, 131, 107, 526, 0), (6, 134, 99, 667, 0), (6, 140, 104, 498, 0), (6, 144, 102, 506, 0), (6, 154, 109, 683, 0), (6, 158, 50, 696, 0), (6, 161, 112, 716, 0), (6, 164, 51, 728, 0), (6, 170, 49, 736, 0), (6, 173, 113, 737, 0), (6, 177, 45, 746, 0), (6, 180, 52, 742, 0), (6, 189, 114, 751, 0), (6, 193, 115, 759, 0), (6, 197, 53, 763, 0), (6, 200, 54, 767, 0), (6, 203, 48, 775, 0), (6, 209, 59, 534, 0), (6, 213, 103, 780, 0), (6, 217, 56, 724, 0), (6, 221, 57, 786, 0), (6, 226, 108, 530, 0), (6, 229, 8, 687, 0), (6, 233, 35, 573, 0), (6, 237, 32, 654, 0), (6, 241, 63, 783, 0), (6, 249, 110, 797, 0), (6, 252, 195, 801, 0), (6, 260, 42, 807, 0), (6, 263, 41, 828, 0), (6, 273, 44, 836, 0), (6, 280, 61, 784, 0), (6, 284, 62, 785, 0), (6, 287, 4, 502, 0), (6, 290, 33, 645, 0), (6, 293, 5, 649, 0), (6, 296, 9, 653, 0), (6, 299, 34, 658, 0), (6, 302, 72, 662, 0), (6, 306, 30, 568, 0), (6, 310, 73, 691, 0), (6, 314, 111, 720, 0), (6, 318, 47, 741, 0), (7, 133, 116, 1058, 0), (7, 141, 118, 1070, 0), (7, 151, 119, 1066, 0), (7, 156, 120, 1082, 0), (7, 159, 122, 1086, 0), (7, 184, 130, 1113, 0), (7, 187, 131, 1116, 0), (7, 193, 134, 1119, 0), (7, 197, 133, 1137, 0), (7, 200, 132, 1109, 0), (7, 203, 135, 1129, 0), (7, 213, 137, 1145, 0), (7, 216, 142, 1149, 0), (7, 219, 138, 1161, 0), (7, 223, 143, 1153, 0), (7, 226, 141, 1141, 0), (7, 229, 136, 1133, 0), (7, 233, 139, 1123, 0), (7, 236, 144, 1157, 0), (7, 240, 140, 1126, 0), (7, 243, 146, 1173, 0), (7, 246, 165, 1193, 0), (7, 249, 168, 1201, 0), (7, 265, 145, 1105, 0), (7, 268, 153, 1165, 0), (7, 271, 147, 1169, 0), (7, 274, 148, 1177, 0), (7, 277, 149, 1181, 0), (7, 280, 150, 1185, 0), (7, 283, 151, 1189, 0), (7, 286, 152, 1272, 0), (7, 289, 121, 1280, 0), (7, 304, 159, 1240, 0), (7, 311, 161, 1226, 0), (7, 316, 160, 1235, 0), (7, 320, 158, 1209, 0), (7, 324, 162, 1222, 0), (7, 330, 166, 1197, 0), (7, 333, 163, 1230, 0), (7, 336, 169, 1205, 0), (7, 339, 167, 1218, 0), (7, 342, 170, 1247, 0), (7, 345, 172, 1251, 0), (7, 348, 173, 1259, 0), (7, 351, 174, 1263, 0), (7, 354, 175, 1267, 0), (7, 357, 171, 1255, 0), (7, 363, 176, 1296, 0), (7, 369, 178, 1304, 0), (7, 373, 180, 1308, 0), (7, 376, 181, 1316, 0), (7, 382, 184, 1324, 0), (7, 385, 183, 1328, 0), (7, 391, 117, 1348, 0), (7, 413, 190, 1365, 0), (7, 416, 191, 1361, 0), (7, 419, 164, 1357, 0)]
def am_BL : List (Nat × Nat × Nat × Nat) := [(2, 113, 2, 641), (2, 118, 1, 644), (3, 86, 1, 565), (7, 292, 4, 1213), (7, 307, 3, 1244), (7, 314, 1, 1234), (7, 360, 2, 1271)]
def am_IL : List (Nat × Nat × Int × Nat) := [(2, 49, 4194303, 581), (6, 63, 100000, 371), (6, 225, 2000000000, 791), (6, 232, 4194303, 572), (7, 132, 2000000000, 1352), (7, 155, 100000, 1077), (8, 265, 1431655765, 804), (8, 266, 858993459, 805), (8, 267, 252645135, 806)]
def am_JL : List (Nat × Nat × Int × Nat) := [(2, 33, 4294967296, 589), (3, 92, 100, 558), (4, 7, 4294967295, 606), (4, 11, 4294967296, 562), (4, 13, -1000000000, 563), (4, 15, 1000000000, 564), (6, 247, 4294967296, 792), (7, 298, 1000000000, 1216), (7, 300, -1000000000, 1217), (7, 302, 100, 1239)]
/-- each method's words: code, static or instance, selects, initialized -/
def am_WL : List (Nat × Nat × Nat × Nat) := [(423, 421, 422, 92), (465, 463, 464, 92), (437, 435, 436, 92), (461, 459, 460, 92), (505, 503, 504, 92), (652, 650, 651, 92), (525, 523, 524, 92), (580, 578, 579, 92), (690, 688, 689, 92), (489, 487, 488, 92), (481, 479, 480, 92), (485, 484, 16, 92), (493, 491, 492, 92), (516, 514, 515, 92), (520, 519, 20, 92), (399, 397, 398, 91), (407, 405, 406, 91), (411, 410, 4, 91), (415, 414, 5, 91), (419, 418, 6, 91), (427, 426, 7, 91), (441, 440, 8, 91), (445, 444, 9, 91), (430, 429, 0, 91), (433, 432, 0, 91), (449, 448, 10, 91), (453, 452, 11, 91), (457, 456, 12, 91), (469, 468, 13, 91), (473, 472, 14, 91), (571, 569, 570, 93), (596, 594, 595, 93), (657, 655, 656, 93), (648, 646, 647, 93), (661, 659, 660, 93), (576, 574, 575, 93), (587, 586, 24, 93), (633, 632, 25, 93), (637, 636, 26, 93), (821, 820, 36, 93), (826, 825, 37, 93), (831, 829, 830, 93), (810, 808, 809, 93), (815, 814, 35, 93), (839, 837, 838, 93), (707, 705, 706, 95), (711, 709, 710, 95), (557, 555, 556, 95), (715, 713, 714, 95), (703, 701, 702, 95), (699, 697, 698, 95), (731, 729, 730, 95), (745, 743, 744, 95), (766, 764, 765, 95), (770, 768, 769, 95), (545, 543, 544, 95), (727, 725, 726, 95), (553, 551, 552, 95), (549, 547, 548, 95), (537, 535, 536, 95), (541, 540, 23, 95), (602, 601, 0, 98), (605, 604, 0, 98), (613, 612, 0, 98), (592, 591, 0, 98), (561, 560, 0, 98), (599, 598, 0, 98), (610, 609, 0, 98), (616, 615, 0, 98), (619, 618, 0, 98), (622, 621, 0, 98), (629, 628, 0, 98), (640, 639, 0, 98), (625, 624, 0, 98), (354, 352, 353, 90), (362, 360, 361, 90), (370, 368, 369, 90), (379, 377, 378, 90), (387, 385, 386, 90), (391, 389, 390, 90), (395, 393, 394, 90), (403, 401, 402, 90), (666, 664, 665, 90), (674, 672, 673, 90), (678, 676, 677, 90), (682, 680, 681, 90), (695, 693, 694, 90), (735, 733, 734, 90), (750, 748, 749, 90), (758, 756, 757, 90), (774, 772, 773, 90), (779, 777, 778, 90), (790, 788, 789, 90), (796, 794, 795, 90), (835, 833, 834, 90), (844, 842, 843, 90), (358, 357, 0, 90), (477, 476, 15, 90), (366, 365, 1, 90), (670, 669, 27, 90), (375, 374, 2, 90), (383, 382, 3, 90), (508, 507, 0, 90), (782, 781, 0, 90), (501, 500, 18, 90), (497, 496, 17, 90), (512, 511, 19, 90), (529, 528, 21, 90), (533, 532, 22, 90), (686, 685, 28, 90), (800, 799, 34, 90), (723, 722, 30, 90), (719, 718, 29, 90), (740, 739, 31, 90), (754, 753, 32, 90), (762, 761, 33, 90), (1061, 1060, 38, 97), (1351, 1350, 85, 97), (1072, 1071, 0, 97), (1069, 1068, 39, 97), (1085, 1084, 40, 97), (1283, 1282, 78, 97), (1088, 1087, 0, 97), (1057, 1055, 1056, 97), (1065, 1063, 1064, 97), (1076, 1074, 1075, 97), (1081, 1079, 1080, 97), (1092, 1090, 1091, 97), (1096, 1094, 1095, 97), (1100, 1098, 1099, 97), (1115, 1114, 0, 97), (1118, 1117, 0, 97), (1112, 1111, 42, 97), (1140, 1139, 46, 97), (1122, 1121, 43, 97), (1132, 1131, 44, 97), (1136, 1135, 45, 97), (1148, 1147, 48, 97), (1164, 1163, 52, 97), (1125, 1124, 0, 97), (1128, 1127, 0, 97), (1144, 1143, 47, 97), (1152, 1151, 49, 97), (1156, 1155, 50, 97), (1160, 1159, 51, 97), (1108, 1107, 41, 97), (1176, 1175, 55, 97), (1172, 1171, 54, 97), (1180, 1179, 56, 97), (1184, 1183, 57, 97), (1188, 1187, 58, 97), (1192, 1191, 59, 97), (1275, 1274, 77, 97), (1168, 1167, 53, 97), (1104, 1102, 1103, 97), (1279, 1277, 1278, 97), (1287, 1285, 1286, 97), (1291, 1289, 1290, 97), (1212, 1211, 64, 97), (1243, 1242, 70, 97), (1238, 1237, 69, 97), (1229, 1228, 67, 97), (1225, 1224, 66, 97), (1233, 1232, 68, 97), (1360, 1359, 86, 97), (1196, 1195, 60, 97), (1200, 1199, 61, 97), (1221, 1220, 65, 97), (1204, 1203, 62, 97), (1208, 1207, 63, 97), (1250, 1249, 71, 97), (1258, 1257, 73, 97), (1254, 1253, 72, 97), (1262, 1261, 74, 97), (1266, 1265, 75, 97), (1270, 1269, 76, 97), (1299, 1298, 79, 97), (1295, 1293, 1294, 97), (1307, 1306, 80, 97), (1303, 1301, 1302, 97), (1311, 1310, 81, 97), (1319, 1318, 82, 97), (1315, 1313, 1314, 97), (1331, 1330, 84, 97), (1327, 1326, 83, 97), (1323, 1321, 1322, 97), (1335, 1333, 1334, 97), (1339, 1337, 1338, 97), (1343, 1341, 1342, 97), (1347, 1345, 1346, 97), (1368, 1367, 88, 97), (1364, 1363, 87, 97), (1356, 1354, 1355, 97), (1372, 1370, 1371, 97), (1376, 1374, 1375, 97), (803, 802, 0, 100), (281, 280, 0, 96)]
def am_lk {α : Type} (l : List (Nat × Nat × α)) (c i : Nat) : Option α := match l with
  | [] => none
  | (a, b, x) :: t => if a = c ∧ b = i then some x else am_lk t c i
def am_M0 (i : Nat) : Nat × ByteArray × Nat × Nat × Nat × Bool × Nat := am_ML.getD i (0, ByteArray.empty, 0, 0, 0, false, 0)
def am_T0 : (Nat → Nat → Option (Nat × Nat)) × (Nat → Nat → Option Nat) × (Nat → Nat → Option Int) × (Nat → Nat → Option Int) × (Nat → Nat → Nat) := (fun c i => (am_lk am_FL c i).map (fun q => (q.1, q.2.1)), fun c i => (am_lk am_KL c i).map (fun q => q.1), fun c i => (am_lk am_IL c i).map (fun q => q.1), fun c i => (am_lk am_JL c i).map (fun q => q.1), fun c i => ((am_lk am_BL c i).map (fun q => q.1)).getD 0)
theorem tf_0_9 : am_T0.1 0 9 = some (0, 3) := by decide +kernel
theorem tf_0_15 : am_T0.1 0 15 = some (0, 4) := by decide +kernel
theorem tf_0_18 : am_T0.1 0 18 = some (0, 5) := by decide +kernel
theorem tf_0_21 : am_T0.1 0 21 = some (0, 6) := by decide +kernel
theorem tf_0_24 : am_T0.1 0 24 = some (0, 7) := by decide +kernel
theorem tf_0_27 : am_T0.1 0 27 = some (0, 8) := by decide +kernel
theorem tf_0_30 : am_T0.1 0 30 = some (0, 9) := by decide +kernel
theorem tf_0_33 : am_T0.1 0 33 = some (0, 10) := by decide +kernel
theorem tf_0_36 : am_T0.1 0 36 = some (0, 11) := by decide +kernel
theorem tf_0_39 : am_T0.1 0 39 = some (0, 0) := by decide +kernel
theorem tf_0_43 : am_T0.1 0 43 = some (0, 1) := by decide +kernel
theorem tf_0_47 : am_T0.1 0 47 = some (0, 2) := by decide +kernel
theorem tf_1_9 : am_T0.1 1 9 = some (1, 0) := by decide +kernel
theorem tf_1_18 : am_T0.1 1 18 = some (1, 2) := by decide +kernel
theorem tf_1_22 : am_T0.1 1 22 = some (1, 3) := by decide +kernel
theorem tf_1_26 : am_T0.1 1 26 = some (1, 4) := by decide +kernel
theorem tf_1_29 : am_T0.1 1 29 = some (1, 5) := by decide +kernel
theorem tf_1_32 : am_T0.1 1 32 = some (1, 9) := by decide +kernel
theorem tf_1_36 : am_T0.1 1 36 = some (1, 1) := by decide +kernel
theorem tf_1_49 : am_T0.1 1 49 = some (1, 7) := by decide +kernel
theorem tf_1_52 : am_T0.1 1 52 = some (1, 8) := by decide +kernel
theorem tf_1_79 : am_T0.1 1 79 = some (1, 6) := by decide +kernel
theorem tf_1_88 : am_T0.1 1 88 = some (0, 1) := by decide +kernel
theorem tf_2_9 : am_T0.1 2 9 = some (2, 0) := by decide +kernel
theorem tf_2_15 : am_T0.1 2 15 = some (2, 1) := by decide +kernel
theorem tf_2_18 : am_T0.1 2 18 = some (2, 2) := by decide +kernel
theorem tf_2_21 : am_T0.1 2 21 = some (2, 3) := by decide +kernel
theorem tf_2_25 : am_T0.1 2 25 = some (2, 4) := by decide +kernel
theorem tf_2_28 : am_T0.1 2 28 = some (2, 5) := by decide +kernel
theorem tf_2_39 : am_T0.1 2 39 = some (0, 0) := by decide +kernel
theorem tf_2_65 : am_T0.1 2 65 = some (0, 4) := by decide +kernel
theorem tf_2_68 : am_T0.1 2 68 = some (0, 5) := by decide +kernel
theorem tf_2_71 : am_T0.1 2 71 = some (0, 10) := by decide +kernel
theorem tf_2_74 : am_T0.1 2 74 = some (0, 11) := by decide +kernel
theorem tf_2_77 : am_T0.1 2 77 = some (0, 9) := by decide +kernel
theorem tf_2_125 : am_T0.1 2 125 = some (2, 6) := by decide +kernel
theorem tf_2_132 : am_T0.1 2 132 = some (2, 7) := by decide +kernel
theorem tf_2_136 : am_T0.1 2 136 = some (2, 8) := by decide +kernel
theorem tf_3_9 : am_T0.1 3 9 = some (3, 3) := by decide +kernel
theorem tf_3_15 : am_T0.1 3 15 = some (3, 4) := by decide +kernel
theorem tf_3_19 : am_T0.1 3 19 = some (3, 5) := by decide +kernel
theorem tf_3_22 : am_T0.1 3 22 = some (3, 6) := by decide +kernel
theorem tf_3_31 : am_T0.1 3 31 = some (3, 2) := by decide +kernel
theorem tf_3_55 : am_T0.1 3 55 = some (4, 2) := by decide +kernel
theorem tf_3_60 : am_T0.1 3 60 = some (3, 0) := by decide +kernel
theorem tf_3_63 : am_T0.1 3 63 = some (4, 3) := by decide +kernel
theorem tf_3_70 : am_T0.1 3 70 = some (3, 1) := by decide +kernel
theorem tf_3_76 : am_T0.1 3 76 = some (4, 0) := by decide +kernel
theorem tf_5_9 : am_T0.1 5 9 = some (4, 4) := by decide +kernel
theorem tf_6_9 : am_T0.1 6 9 = some (5, 0) := by decide +kernel
theorem tf_6_15 : am_T0.1 6 15 = some (5, 1) := by decide +kernel
theorem tf_6_21 : am_T0.1 6 21 = some (5, 2) := by decide +kernel
theorem tf_6_28 : am_T0.1 6 28 = some (5, 3) := by decide +kernel
theorem tf_6_35 : am_T0.1 6 35 = some (5, 4) := by decide +kernel
theorem tf_6_42 : am_T0.1 6 42 = some (5, 5) := by decide +kernel
theorem tf_6_46 : am_T0.1 6 46 = some (5, 6) := by decide +kernel
theorem tf_6_51 : am_T0.1 6 51 = some (5, 7) := by decide +kernel
theorem tf_6_64 : am_T0.1 6 64 = some (5, 8) := by decide +kernel
theorem tf_6_71 : am_T0.1 6 71 = some (4, 0) := by decide +kernel
theorem tf_6_74 : am_T0.1 6 74 = some (4, 1) := by decide +kernel
theorem tf_6_77 : am_T0.1 6 77 = some (4, 2) := by decide +kernel
theorem tf_6_80 : am_T0.1 6 80 = some (4, 3) := by decide +kernel
theorem tf_6_87 : am_T0.1 6 87 = some (3, 0) := by decide +kernel
theorem tf_6_90 : am_T0.1 6 90 = some (3, 1) := by decide +kernel
theorem tf_6_94 : am_T0.1 6 94 = some (5, 9) := by decide +kernel
theorem tf_6_97 : am_T0.1 6 97 = some (1, 1) := by decide +kernel
theorem tf_6_107 : am_T0.1 6 107 = some (1, 2) := by decide +kernel
theorem tf_6_122 : am_T0.1 6 122 = some (0, 0) := by decide +kernel
theorem tf_6_137 : am_T0.1 6 137 = some (0, 3) := by decide +kernel
theorem tf_6_148 : am_T0.1 6 148 = some (4, 4) := by decide +kernel
theorem tf_6_151 : am_T0.1 6 151 = some (4, 5) := by decide +kernel
theorem tf_6_167 : am_T0.1 6 167 = some (5, 10) := by decide +kernel
theorem tf_6_183 : am_T0.1 6 183 = some (5, 11) := by decide +kernel
theorem tf_6_186 : am_T0.1 6 186 = some (3, 2) := by decide +kernel
theorem tf_6_206 : am_T0.1 6 206 = some (5, 12) := by decide +kernel
theorem tf_6_257 : am_T0.1 6 257 = some (0, 1) := by decide +kernel
theorem tf_6_266 : am_T0.1 6 266 = some (2, 7) := by decide +kernel
theorem tf_6_270 : am_T0.1 6 270 = some (2, 8) := by decide +kernel
theorem tf_6_277 : am_T0.1 6 277 = some (5, 13) := by decide +kernel
theorem tf_6_321 : am_T0.1 6 321 = some (3, 3) := by decide +kernel
theorem tf_7_7 : am_T0.1 7 7 = some (6, 0) := by decide +kernel
theorem tf_7_13 : am_T0.1 7 13 = some (6, 8) := by decide +kernel
theorem tf_7_16 : am_T0.1 7 16 = some (6, 9) := by decide +kernel
theorem tf_7_19 : am_T0.1 7 19 = some (6, 10) := by decide +kernel
theorem tf_7_22 : am_T0.1 7 22 = some (6, 11) := by decide +kernel
theorem tf_7_25 : am_T0.1 7 25 = some (6, 12) := by decide +kernel
theorem tf_7_28 : am_T0.1 7 28 = some (6, 13) := by decide +kernel
theorem tf_7_31 : am_T0.1 7 31 = some (6, 14) := by decide +kernel
theorem tf_7_34 : am_T0.1 7 34 = some (6, 15) := by decide +kernel
theorem tf_7_37 : am_T0.1 7 37 = some (6, 16) := by decide +kernel
theorem tf_7_40 : am_T0.1 7 40 = some (6, 17) := by decide +kernel
theorem tf_7_43 : am_T0.1 7 43 = some (6, 18) := by decide +kernel
theorem tf_7_46 : am_T0.1 7 46 = some (6, 19) := by decide +kernel
theorem tf_7_49 : am_T0.1 7 49 = some (6, 20) := by decide +kernel
theorem tf_7_52 : am_T0.1 7 52 = some (6, 21) := by decide +kernel
theorem tf_7_56 : am_T0.1 7 56 = some (6, 22) := by decide +kernel
theorem tf_7_59 : am_T0.1 7 59 = some (6, 30) := by decide +kernel
theorem tf_7_62 : am_T0.1 7 62 = some (6, 31) := by decide +kernel
theorem tf_7_65 : am_T0.1 7 65 = some (6, 32) := by decide +kernel
theorem tf_7_68 : am_T0.1 7 68 = some (6, 33) := by decide +kernel
theorem tf_7_71 : am_T0.1 7 71 = some (6, 34) := by decide +kernel
theorem tf_7_74 : am_T0.1 7 74 = some (6, 35) := by decide +kernel
theorem tf_7_77 : am_T0.1 7 77 = some (6, 37) := by decide +kernel
theorem tf_7_80 : am_T0.1 7 80 = some (6, 38) := by decide +kernel
theorem tf_7_83 : am_T0.1 7 83 = some (6, 39) := by decide +kernel
theorem tf_7_86 : am_T0.1 7 86 = some (6, 40) := by decide +kernel
theorem tf_7_89 : am_T0.1 7 89 = some (6, 41) := by decide +kernel
theorem tf_7_92 : am_T0.1 7 92 = some (6, 44) := by decide +kernel
theorem tf_7_95 : am_T0.1 7 95 = some (6, 45) := by decide +kernel
theorem tf_7_98 : am_T0.1 7 98 = some (6, 46) := by decide +kernel
theorem tf_7_102 : am_T0.1 7 102 = some (6, 47) := by decide +kernel
theorem tf_7_105 : am_T0.1 7 105 = some (6, 52) := by decide +kernel
theorem tf_7_108 : am_T0.1 7 108 = some (6, 53) := by decide +kernel
theorem tf_7_111 : am_T0.1 7 111 = some (6, 54) := by decide +kernel
theorem tf_7_114 : am_T0.1 7 114 = some (6, 55) := by decide +kernel
theorem tf_7_117 : am_T0.1 7 117 = some (6, 56) := by decide +kernel
theorem tf_7_120 : am_T0.1 7 120 = some (6, 57) := by decide +kernel
theorem tf_7_123 : am_T0.1 7 123 = some (6, 58) := by decide +kernel
theorem tf_7_126 : am_T0.1 7 126 = some (6, 59) := by decide +kernel
theorem tf_7_129 : am_T0.1 7 129 = some (6, 65) := by decide +kernel
theorem tf_7_137 : am_T0.1 7 137 = some (6, 1) := by decide +kernel
theorem tf_7_145 : am_T0.1 7 145 = some (6, 2) := by decide +kernel
theorem tf_7_148 : am_T0.1 7 148 = some (6, 42) := by decide +kernel
theorem tf_7_163 : am_T0.1 7 163 = some (6, 3) := by decide +kernel
theorem tf_7_166 : am_T0.1 7 166 = some (6, 23) := by decide +kernel
theorem tf_7_169 : am_T0.1 7 169 = some (6, 27) := by decide +kernel
theorem tf_7_172 : am_T0.1 7 172 = some (6, 28) := by decide +kernel
theorem tf_7_175 : am_T0.1 7 175 = some (6, 25) := by decide +kernel
theorem tf_7_178 : am_T0.1 7 178 = some (6, 26) := by decide +kernel
theorem tf_7_181 : am_T0.1 7 181 = some (6, 24) := by decide +kernel
theorem tf_7_190 : am_T0.1 7 190 = some (6, 29) := by decide +kernel
theorem tf_7_207 : am_T0.1 7 207 = some (6, 43) := by decide +kernel
theorem tf_7_210 : am_T0.1 7 210 = some (6, 36) := by decide +kernel
theorem tf_7_252 : am_T0.1 7 252 = some (6, 48) := by decide +kernel
theorem tf_7_255 : am_T0.1 7 255 = some (6, 49) := by decide +kernel
theorem tf_7_259 : am_T0.1 7 259 = some (6, 50) := by decide +kernel
theorem tf_7_262 : am_T0.1 7 262 = some (6, 7) := by decide +kernel
theorem tf_7_327 : am_T0.1 7 327 = some (6, 51) := by decide +kernel
theorem tf_7_366 : am_T0.1 7 366 = some (6, 4) := by decide +kernel
theorem tf_7_379 : am_T0.1 7 379 = some (6, 5) := by decide +kernel
theorem tf_7_388 : am_T0.1 7 388 = some (6, 6) := by decide +kernel
theorem tf_7_394 : am_T0.1 7 394 = some (6, 60) := by decide +kernel
theorem tf_7_398 : am_T0.1 7 398 = some (6, 62) := by decide +kernel
theorem tf_7_401 : am_T0.1 7 401 = some (6, 61) := by decide +kernel
theorem tf_7_404 : am_T0.1 7 404 = some (6, 64) := by decide +kernel
theorem tf_7_407 : am_T0.1 7 407 = some (6, 63) := by decide +kernel
theorem tf_7_410 : am_T0.1 7 410 = some (6, 66) := by decide +kernel
theorem tm_0_50 : am_T0.2.1 0 50 = some 1 := by decide +kernel
theorem tm_0_54 : am_T0.2.1 0 54 = some 6 := by decide +kernel
theorem tm_0_58 : am_T0.2.1 0 58 = some 11 := by decide +kernel
theorem tm_0_62 : am_T0.2.1 0 62 = some 9 := by decide +kernel
theorem tm_0_65 : am_T0.2.1 0 65 = some 14 := by decide +kernel
theorem tm_0_68 : am_T0.2.1 0 68 = some 102 := by decide +kernel
theorem tm_1_39 : am_T0.2.1 1 39 = some 17 := by decide +kernel
theorem tm_1_43 : am_T0.2.1 1 43 = some 0 := by decide +kernel
theorem tm_1_46 : am_T0.2.1 1 46 = some 20 := by decide +kernel
theorem tm_1_55 : am_T0.2.1 1 55 = some 23 := by decide +kernel
theorem tm_1_59 : am_T0.2.1 1 59 = some 2 := by decide +kernel
theorem tm_1_62 : am_T0.2.1 1 62 = some 21 := by decide +kernel
theorem tm_1_65 : am_T0.2.1 1 65 = some 22 := by decide +kernel
theorem tm_1_68 : am_T0.2.1 1 68 = some 25 := by decide +kernel
theorem tm_1_71 : am_T0.2.1 1 71 = some 18 := by decide +kernel
theorem tm_1_75 : am_T0.2.1 1 75 = some 19 := by decide +kernel
theorem tm_1_82 : am_T0.2.1 1 82 = some 24 := by decide +kernel
theorem tm_1_85 : am_T0.2.1 1 85 = some 26 := by decide +kernel
theorem tm_1_92 : am_T0.2.1 1 92 = some 3 := by decide +kernel
theorem tm_1_96 : am_T0.2.1 1 96 = some 27 := by decide +kernel
theorem tm_1_99 : am_T0.2.1 1 99 = some 28 := by decide +kernel
theorem tm_1_103 : am_T0.2.1 1 103 = some 29 := by decide +kernel
theorem tm_2_35 : am_T0.2.1 2 35 = some 31 := by decide +kernel
theorem tm_2_45 : am_T0.2.1 2 45 = some 7 := by decide +kernel
theorem tm_2_50 : am_T0.2.1 2 50 = some 6 := by decide +kernel
theorem tm_2_53 : am_T0.2.1 2 53 = some 102 := by decide +kernel
theorem tm_2_57 : am_T0.2.1 2 57 = some 36 := by decide +kernel
theorem tm_2_61 : am_T0.2.1 2 61 = some 1 := by decide +kernel
theorem tm_2_80 : am_T0.2.1 2 80 = some 64 := by decide +kernel
theorem tm_2_84 : am_T0.2.1 2 84 = some 66 := by decide +kernel
theorem tm_2_88 : am_T0.2.1 2 88 = some 67 := by decide +kernel
theorem tm_2_92 : am_T0.2.1 2 92 = some 68 := by decide +kernel
theorem tm_2_95 : am_T0.2.1 2 95 = some 69 := by decide +kernel
theorem tm_2_99 : am_T0.2.1 2 99 = some 70 := by decide +kernel
theorem tm_2_102 : am_T0.2.1 2 102 = some 71 := by decide +kernel
theorem tm_2_105 : am_T0.2.1 2 105 = some 37 := by decide +kernel
theorem tm_2_109 : am_T0.2.1 2 109 = some 38 := by decide +kernel
theorem tm_2_121 : am_T0.2.1 2 121 = some 72 := by decide +kernel
theorem tm_2_128 : am_T0.2.1 2 128 = some 63 := by decide +kernel
theorem tm_2_139 : am_T0.2.1 2 139 = some 8 := by decide +kernel
theorem tm_2_142 : am_T0.2.1 2 142 = some 35 := by decide +kernel
theorem tm_2_146 : am_T0.2.1 2 146 = some 32 := by decide +kernel
theorem tm_2_149 : am_T0.2.1 2 149 = some 40 := by decide +kernel
theorem tm_2_153 : am_T0.2.1 2 153 = some 39 := by decide +kernel
theorem tm_2_156 : am_T0.2.1 2 156 = some 43 := by decide +kernel
theorem tm_2_160 : am_T0.2.1 2 160 = some 196 := by decide +kernel
theorem tm_2_166 : am_T0.2.1 2 166 = some 73 := by decide +kernel
theorem tm_3_25 : am_T0.2.1 3 25 = some 196 := by decide +kernel
theorem tm_3_34 : am_T0.2.1 3 34 = some 45 := by decide +kernel
theorem tm_3_38 : am_T0.2.1 3 38 = some 46 := by decide +kernel
theorem tm_3_42 : am_T0.2.1 3 42 = some 49 := by decide +kernel
theorem tm_3_45 : am_T0.2.1 3 45 = some 48 := by decide +kernel
theorem tm_3_49 : am_T0.2.1 3 49 = some 55 := by decide +kernel
theorem tm_3_52 : am_T0.2.1 3 52 = some 47 := by decide +kernel
theorem tm_3_66 : am_T0.2.1 3 66 = some 57 := by decide +kernel
theorem tm_3_79 : am_T0.2.1 3 79 = some 60 := by decide +kernel
theorem tm_3_83 : am_T0.2.1 3 83 = some 58 := by decide +kernel
theorem tm_3_94 : am_T0.2.1 3 94 = some 65 := by decide +kernel
theorem tm_4_17 : am_T0.2.1 4 17 = some 61 := by decide +kernel
theorem tm_4_21 : am_T0.2.1 4 21 = some 62 := by decide +kernel
theorem tm_4_24 : am_T0.2.1 4 24 = some 65 := by decide +kernel
theorem tm_4_28 : am_T0.2.1 4 28 = some 63 := by decide +kernel
theorem tm_4_32 : am_T0.2.1 4 32 = some 73 := by decide +kernel
theorem tm_4_36 : am_T0.2.1 4 36 = some 64 := by decide +kernel
theorem tm_6_55 : am_T0.2.1 6 55 = some 96 := by decide +kernel
theorem tm_6_59 : am_T0.2.1 6 59 = some 98 := by decide +kernel
theorem tm_6_67 : am_T0.2.1 6 67 = some 100 := by decide +kernel
theorem tm_6_83 : am_T0.2.1 6 83 = some 101 := by decide +kernel
theorem tm_6_100 : am_T0.2.1 6 100 = some 15 := by decide +kernel
theorem tm_6_104 : am_T0.2.1 6 104 = some 16 := by decide +kernel
theorem tm_6_108 : am_T0.2.1 6 108 = some 97 := by decide +kernel
theorem tm_6_111 : am_T0.2.1 6 111 = some 10 := by decide +kernel
theorem tm_6_114 : am_T0.2.1 6 114 = some 12 := by decide +kernel
theorem tm_6_118 : am_T0.2.1 6 118 = some 105 := by decide +kernel
theorem tm_6_125 : am_T0.2.1 6 125 = some 106 := by decide +kernel
theorem tm_6_128 : am_T0.2.1 6 128 = some 13 := by decide +kernel
theorem tm_6_131 : am_T0.2.1 6 131 = some 107 := by decide +kernel
theorem tm_6_134 : am_T0.2.1 6 134 = some 99 := by decide +kernel
theorem tm_6_140 : am_T0.2.1 6 140 = some 104 := by decide +kernel
theorem tm_6_144 : am_T0.2.1 6 144 = some 102 := by decide +kernel
theorem tm_6_154 : am_T0.2.1 6 154 = some 109 := by decide +kernel
theorem tm_6_158 : am_T0.2.1 6 158 = some 50 := by decide +kernel
theorem tm_6_161 : am_T0.2.1 6 161 = some 112 := by decide +kernel
theorem tm_6_164 : am_T0.2.1 6 164 = some 51 := by decide +kernel
theorem tm_6_170 : am_T0.2.1 6 170 = some 49 := by decide +kernel
theorem tm_6_173 : am_T0.2.1 6 173 = some 113 := by decide +kernel
theorem tm_6_177 : am_T0.2.1 6 177 = some 45 := by decide +kernel
theorem tm_6_180 : am_T0.2.1 6 180 = some 52 := by decide +kernel
theorem tm_6_189 : am_T0.2.1 6 189 = some 114 := by decide +kernel
theorem tm_6_193 : am_T0.2.1 6 193 = some 115 := by decide +kernel
theorem tm_6_197 : am_T0.2.1 6 197 = some 53 := by decide +kernel
theorem tm_6_200 : am_T0.2.1 6 200 = some 54 := by decide +kernel
theorem tm_6_203 : am_T0.2.1 6 203 = some 48 := by decide +kernel
theorem tm_6_209 : am_T0.2.1 6 209 = some 59 := by decide +kernel
theorem tm_6_213 : am_T0.2.1 6 213 = some 103 := by decide +kernel
theorem tm_6_217 : am_T0.2.1 6 217 = some 56 := by decide +kernel
theorem tm_6_221 : am_T0.2.1 6 221 = some 57 := by decide +kernel
theorem tm_6_226 : am_T0.2.1 6 226 = some 108 := by decide +kernel
theorem tm_6_229 : am_T0.2.1 6 229 = some 8 := by decide +kernel
theorem tm_6_233 : am_T0.2.1 6 233 = some 35 := by decide +kernel
theorem tm_6_237 : am_T0.2.1 6 237 = some 32 := by decide +kernel
theorem tm_6_241 : am_T0.2.1 6 241 = some 63 := by decide +kernel
theorem tm_6_249 : am_T0.2.1 6 249 = some 110 := by decide +kernel
theorem tm_6_252 : am_T0.2.1 6 252 = some 195 := by decide +kernel
theorem tm_6_260 : am_T0.2.1 6 260 = some 42 := by decide +kernel
theorem tm_6_263 : am_T0.2.1 6 263 = some 41 := by decide +kernel
theorem tm_6_273 : am_T0.2.1 6 273 = some 44 := by decide +kernel
theorem tm_6_280 : am_T0.2.1 6 280 = some 61 := by decide +kernel
theorem tm_6_284 : am_T0.2.1 6 284 = some 62 := by decide +kernel
theorem tm_6_287 : am_T0.2.1 6 287 = some 4 := by decide +kernel
theorem tm_6_290 : am_T0.2.1 6 290 = some 33 := by decide +kernel
theorem tm_6_293 : am_T0.2.1 6 293 = some 5 := by decide +kernel
theorem tm_6_296 : am_T0.2.1 6 296 = some 9 := by decide +kernel
theorem tm_6_299 : am_T0.2.1 6 299 = some 34 := by decide +kernel
theorem tm_6_302 : am_T0.2.1 6 302 = some 72 := by decide +kernel
theorem tm_6_306 : am_T0.2.1 6 306 = some 30 := by decide +kernel
theorem tm_6_310 : am_T0.2.1 6 310 = some 73 := by decide +kernel
theorem tm_6_314 : am_T0.2.1 6 314 = some 111 := by decide +kernel
theorem tm_6_318 : am_T0.2.1 6 318 = some 47 := by decide +kernel
theorem tm_7_133 : am_T0.2.1 7 133 = some 116 := by decide +kernel
theorem tm_7_141 : am_T0.2.1 7 141 = some 118 := by decide +kernel
theorem tm_7_151 : am_T0.2.1 7 151 = some 119 := by decide +kernel
theorem tm_7_156 : am_T0.2.1 7 156 = some 120 := by decide +kernel
theorem tm_7_159 : am_T0.2.1 7 159 = some 122 := by decide +kernel
theorem tm_7_184 : am_T0.2.1 7 184 = some 130 := by decide +kernel
theorem tm_7_187 : am_T0.2.1 7 187 = some 131 := by decide +kernel
theorem tm_7_193 : am_T0.2.1 7 193 = some 134 := by decide +kernel
theorem tm_7_197 : am_T0.2.1 7 197 = some 133 := by decide +kernel
theorem tm_7_200 : am_T0.2.1 7 200 = some 132 := by decide +kernel
theorem tm_7_203 : am_T0.2.1 7 203 = some 135 := by decide +kernel
theorem tm_7_213 : am_T0.2.1 7 213 = some 137 := by decide +kernel
theorem tm_7_216 : am_T0.2.1 7 216 = some 142 := by decide +kernel
theorem tm_7_219 : am_T0.2.1 7 219 = some 138 := by decide +kernel
theorem tm_7_223 : am_T0.2.1 7 223 = some 143 := by decide +kernel
theorem tm_7_226 : am_T0.2.1 7 226 = some 141 := by decide +kernel
theorem tm_7_229 : am_T0.2.1 7 229 = some 136 := by decide +kernel
theorem tm_7_233 : am_T0.2.1 7 233 = some 139 := by decide +kernel
theorem tm_7_236 : am_T0.2.1 7 236 = some 144 := by decide +kernel
theorem tm_7_240 : am_T0.2.1 7 240 = some 140 := by decide +kernel
theorem tm_7_243 : am_T0.2.1 7 243 = some 146 := by decide +kernel
theorem tm_7_246 : am_T0.2.1 7 246 = some 165 := by decide +kernel
theorem tm_7_249 : am_T0.2.1 7 249 = some 168 := by decide +kernel
theorem tm_7_265 : am_T0.2.1 7 265 = some 145 := by decide +kernel
theorem tm_7_268 : am_T0.2.1 7 268 = some 153 := by decide +kernel
theorem tm_7_271 : am_T0.2.1 7 271 = some 147 := by decide +kernel
theorem tm_7_274 : am_T0.2.1 7 274 = some 148 := by decide +kernel
theorem tm_7_277 : am_T0.2.1 7 277 = some 149 := by decide +kernel
theorem tm_7_280 : am_T0.2.1 7 280 = some 150 := by decide +kernel
theorem tm_7_283 : am_T0.2.1 7 283 = some 151 := by decide +kernel
theorem tm_7_286 : am_T0.2.1 7 286 = some 152 := by decide +kernel
theorem tm_7_289 : am_T0.2.1 7 289 = some 121 := by decide +kernel
theorem tm_7_304 : am_T0.2.1 7 304 = some 159 := by decide +kernel
theorem tm_7_311 : am_T0.2.1 7 311 = some 161 := by decide +kernel
theorem tm_7_316 : am_T0.2.1 7 316 = some 160 := by decide +kernel
theorem tm_7_320 : am_T0.2.1 7 320 = some 158 := by decide +kernel
theorem tm_7_324 : am_T0.2.1 7 324 = some 162 := by decide +kernel
theorem tm_7_330 : am_T0.2.1 7 330 = some 166 := by decide +kernel
theorem tm_7_333 : am_T0.2.1 7 333 = some 163 := by decide +kernel
theorem tm_7_336 : am_T0.2.1 7 336 = some 169 := by decide +kernel
theorem tm_7_339 : am_T0.2.1 7 339 = some 167 := by decide +kernel
theorem tm_7_342 : am_T0.2.1 7 342 = some 170 := by decide +kernel
theorem tm_7_345 : am_T0.2.1 7 345 = some 172 := by decide +kernel
theorem tm_7_348 : am_T0.2.1 7 348 = some 173 := by decide +kernel
theorem tm_7_351 : am_T0.2.1 7 351 = some 174 := by decide +kernel
theorem tm_7_354 : am_T0.2.1 7 354 = some 175 := by decide +kernel
theorem tm_7_357 : am_T0.2.1 7 357 = some 171 := by decide +kernel
theorem tm_7_363 : am_T0.2.1 7 363 = some 176 := by decide +kernel
theorem tm_7_369 : am_T0.2.1 7 369 = some 178 := by decide +kernel
theorem tm_7_373 : am_T0.2.1 7 373 = some 180 := by decide +kernel
theorem tm_7_376 : am_T0.2.1 7 376 = some 181 := by decide +kernel
theorem tm_7_382 : am_T0.2.1 7 382 = some 184 := by decide +kernel
theorem tm_7_385 : am_T0.2.1 7 385 = some 183 := by decide +kernel
theorem tm_7_391 : am_T0.2.1 7 391 = some 117 := by decide +kernel
theorem tm_7_413 : am_T0.2.1 7 413 = some 190 := by decide +kernel
theorem tm_7_416 : am_T0.2.1 7 416 = some 191 := by decide +kernel
theorem tm_7_419 : am_T0.2.1 7 419 = some 164 := by decide +kernel
theorem tb_2_113 : am_T0.2.2.2.2 2 113 = 2 := by decide +kernel
theorem tb_2_118 : am_T0.2.2.2.2 2 118 = 1 := by decide +kernel
theorem tb_3_86 : am_T0.2.2.2.2 3 86 = 1 := by decide +kernel
theorem tb_7_292 : am_T0.2.2.2.2 7 292 = 4 := by decide +kernel
theorem tb_7_307 : am_T0.2.2.2.2 7 307 = 3 := by decide +kernel
theorem tb_7_314 : am_T0.2.2.2.2 7 314 = 1 := by decide +kernel
theorem tb_7_360 : am_T0.2.2.2.2 7 360 = 2 := by decide +kernel
theorem ti_2_49 : am_T0.2.2.1 2 49 = some (4194303) := by decide +kernel
theorem ti_6_63 : am_T0.2.2.1 6 63 = some (100000) := by decide +kernel
theorem ti_6_225 : am_T0.2.2.1 6 225 = some (2000000000) := by decide +kernel
theorem ti_6_232 : am_T0.2.2.1 6 232 = some (4194303) := by decide +kernel
theorem ti_7_132 : am_T0.2.2.1 7 132 = some (2000000000) := by decide +kernel
theorem ti_7_155 : am_T0.2.2.1 7 155 = some (100000) := by decide +kernel
theorem ti_8_265 : am_T0.2.2.1 8 265 = some (1431655765) := by decide +kernel
theorem ti_8_266 : am_T0.2.2.1 8 266 = some (858993459) := by decide +kernel
theorem ti_8_267 : am_T0.2.2.1 8 267 = some (252645135) := by decide +kernel
theorem tj_2_33 : am_T0.2.2.2.1 2 33 = some (4294967296) := by decide +kernel
theorem tj_3_92 : am_T0.2.2.2.1 3 92 = some (100) := by decide +kernel
theorem tj_4_7 : am_T0.2.2.2.1 4 7 = some (4294967295) := by decide +kernel
theorem tj_4_11 : am_T0.2.2.2.1 4 11 = some (4294967296) := by decide +kernel
theorem tj_4_13 : am_T0.2.2.2.1 4 13 = some (-1000000000) := by decide +kernel
theorem tj_4_15 : am_T0.2.2.2.1 4 15 = some (1000000000) := by decide +kernel
theorem tj_6_247 : am_T0.2.2.2.1 6 247 = some (4294967296) := by decide +kernel
theorem tj_7_298 : am_T0.2.2.2.1 7 298 = some (1000000000) := by decide +kernel
theorem tj_7_300 : am_T0.2.2.2.1 7 300 = some (-1000000000) := by decide +kernel
theorem tj_7_302 : am_T0.2.2.2.1 7 302 = some (100) := by decide +kernel
