/-! ===== what the abstract machine has to do with the real one ===== -/
def snNT : List (List MethodName) := [[yL_law, yX0_init, yX0_value, yX0_action, yX0_worth, yX0_waveWorth, yX0_boardingWorth, yX0_unseeing, yX1_init, yX1_sum, yX1_follow, yX1_turnTo, yX1_search, yX1_begin, yX1_branch, yX1_gather],
  [yX1_advance, yX1_arrive, yX1_miss, yX1_end, yX2_init, yX2_fall, yX2_placeAt, yX2_actionAt, yX2_play, yX2_step, yX2_told, yX3_init, yX3_part, yX3_set, yX3_divisor, yX3_findLeaving],
  [yX3_findOver, yX3_findSeen, yX4_init, yX4_parse, yX4_clause, yX4_condition, yX4_leap, yX4_piece, yX4_expression, yX4_factor, yX4_number, yX4_isTimes, yX4_isDigit, yX4_next, yX4_take, yX4_fail],
  [yX5_init, yX5_guess, yX5_multiply, yX5_comparedWith, yX6_init, yX6_read, yX6_fillWaiting, yX6_stepsOf, yX7_init, yX7_stepCount, yX7_ask, yX7_bounded, yX7_tell, yX7_ruled, yX7_behind, yX7_tenthsSeen],
  [yX7_mayGo, yX7_tenthsGone, yX8_init, yX8_copyFrom, yX8_draw, yX8_setLine, yX8_hasLine, yX8_oftenOf, yX8_setRunner, yX8_runnerYards, yX8_waitWorth, yX8_tryCount, yX8_addTry, yX9_init, yX9_read, yX9_isDigit],
  [yX9_lay, yX9_accept, yX10_init, yX10_clear, yX10_has, yX10_open, yX10_turnToCondition, yX10_close, yX10_add, yX10_leapHere, yX10_run, yX10_reckoned, yX11_init, yX11_steps, yX11_feed, yX11_street],
  [yX11_queue, yX11_law, yX11_rule, yX11_may, yX11_after, yX11_best, yX11_by, yX11_point, yX11_more, yX11_corner, yX11_blind, yX11_near, yX11_leaves, yX11_over, yX11_hadSeen, yX11_line],
  [yX11_which, yX11_runner, yX11_wait, yX11_three, yX11_drawn, yX11_log, yX11_wrong, yX11_tries, yX11_book, yX11_fits, yX11_seed, yX11_keep, yX11_undo, yX11_check, yX11_count, yX11_append],
  [yX11_numberOnTape, yX11_forget, yX11_toldRule, yX11_loss, yX11_noneGains, yX11_gain, yX11_within, yX11_isState, yX11_isMove, yX11_placeOf, yX11_yardsAt, yX11_breathAt, yX11_isSeenAt, yX11_roundedUp, yX11_hundreds, yX11_tens],
  [yX11_faultOf, yX11_item, yX11_put, yX11_longItem, yX11_putLong, yX12_init, yX12_in, yX12_min, yX12_max, yX12_has, yX12_hundreds, yX12_gcd, yX12_through, yX12_types, yX12_feed, yX12_steps],
  [yX12_kindFor, yX12_readsPiece, yX12_street, yX12_boardsFor, yX12_queue, yX12_kindWith, yX12_waitingAt, yX12_here, yX12_isDigit, yX12_wrongAt, yX12_takes, yX12_readsNumber, yX12_notes, yX12_opens, yX12_waitTop, yX12_factOf],
  [yX12_sumSign, yX12_closesSums, yX12_readsFactor, yX12_hasOpenSum, yX12_readsSum, yX12_endsPiece, yX12_lands, yX12_jumps, yX12_readsCompared, yX12_readsCondition, yX12_isClause, yX12_readsClause, yX12_reads, yX12_law, yX12_isRule, yX12_isTold],
  [yX12_rule, yX12_reckon, yX12_comesTo, yX12_byLaw, yX12_stateOf, yX12_yardsIn, yX12_breathIn, yX12_seenIn, yX12_ranIn, yX12_isState, yX12_isAction, yX12_told, yX12_feels, yX12_asks, yX12_worth, yX12_costs],
  [yX12_mayBe, yX12_behind, yX12_seenBy, yX12_asSeen, yX12_goesBy, yX12_may, yX12_after, yX12_marks, yX12_spreads, yX12_valueBy, yX12_solvesAt, yX12_solves, yX12_asTold, yX12_best, yX12_point, yX12_more],
  [yX12_ruled, yX12_actionNow, yX12_misses, yX12_catches, yX12_goes, yX12_goesThrough, yX12_by, yX12_near, yX12_actionBy, yX12_readsRow, yX12_blind, yX12_cornerHere, yX12_cornerGone, yX12_cornerBy, yX12_corner, yX12_leavesIn],
  [yX12_leaves, yX12_over, yX12_hadSeen, yX12_line, yX12_canBe, yX12_which, yX12_runner, yX12_waitsBy, yX12_wait, yX12_gainOf, yX12_three, yX12_draws, yX12_tries0, yX12_drawn, yX12_log, yX12_wrongIn],
  [yX12_wrong, yX12_tries, yX12_book, yX12_multiplies, yX12_products, yX12_fits, yX12_seed, yX12_copies, yX12_keep, yX12_undo, yX12_tapeNumber, yX12_check, yX12_count, yJ11_isValidCodePoint_9a6ad, yJ11_highSurrogate_5068e, yJ11_lowSurrogate_5068e],
  [yJ6_compare_7cf53, yJ6_bitCount_0f7a4, yJ9_max_7cf53, yJ9_min_7cf53, yJ0_length_8abf5, yJ0_indexOf_0f7a4, yJ0_indexOf_7cf53, yJ0_coder_7d493, yJ0_isLatin1_aae02, yJ0_checkBoundsBeginEnd_23922, yJ1_canEncode_9a6ad, yJ1_indexOf_4cfef, yJ1_indexOfChar_4cfef, yJ2_getChar_3b067, yJ2_length_9d52b, yJ2_indexOf_4cfef],
  [yJ2_indexOfChar_4cfef, yJ2_indexOfCharUnsafe_4cfef, yJ2_indexOfSupplementary_4cfef, yJ2_checkBoundsBeginEnd_d044e, yJ3_checkFromToIndex_8c36e]]
def snBT : List (List ByteArray) := [[cL_law, cX0_init, cX0_value, cX0_action, cX0_worth, cX0_waveWorth, cX0_boardingWorth, cX0_unseeing, cX1_init, cX1_sum, cX1_follow, cX1_turnTo, cX1_search, cX1_begin, cX1_branch, cX1_gather],
  [cX1_advance, cX1_arrive, cX1_miss, cX1_end, cX2_init, cX2_fall, cX2_placeAt, cX2_actionAt, cX2_play, cX2_step, cX2_told, cX3_init, cX3_part, cX3_set, cX3_divisor, cX3_findLeaving],
  [cX3_findOver, cX3_findSeen, cX4_init, cX4_parse, cX4_clause, cX4_condition, cX4_leap, cX4_piece, cX4_expression, cX4_factor, cX4_number, cX4_isTimes, cX4_isDigit, cX4_next, cX4_take, cX4_fail],
  [cX5_init, cX5_guess, cX5_multiply, cX5_comparedWith, cX6_init, cX6_read, cX6_fillWaiting, cX6_stepsOf, cX7_init, cX7_stepCount, cX7_ask, cX7_bounded, cX7_tell, cX7_ruled, cX7_behind, cX7_tenthsSeen],
  [cX7_mayGo, cX7_tenthsGone, cX8_init, cX8_copyFrom, cX8_draw, cX8_setLine, cX8_hasLine, cX8_oftenOf, cX8_setRunner, cX8_runnerYards, cX8_waitWorth, cX8_tryCount, cX8_addTry, cX9_init, cX9_read, cX9_isDigit],
  [cX9_lay, cX9_accept, cX10_init, cX10_clear, cX10_has, cX10_open, cX10_turnToCondition, cX10_close, cX10_add, cX10_leapHere, cX10_run, cX10_reckoned, cX11_init, cX11_steps, cX11_feed, cX11_street],
  [cX11_queue, cX11_law, cX11_rule, cX11_may, cX11_after, cX11_best, cX11_by, cX11_point, cX11_more, cX11_corner, cX11_blind, cX11_near, cX11_leaves, cX11_over, cX11_hadSeen, cX11_line],
  [cX11_which, cX11_runner, cX11_wait, cX11_three, cX11_drawn, cX11_log, cX11_wrong, cX11_tries, cX11_book, cX11_fits, cX11_seed, cX11_keep, cX11_undo, cX11_check, cX11_count, cX11_append],
  [cX11_numberOnTape, cX11_forget, cX11_toldRule, cX11_loss, cX11_noneGains, cX11_gain, cX11_within, cX11_isState, cX11_isMove, cX11_placeOf, cX11_yardsAt, cX11_breathAt, cX11_isSeenAt, cX11_roundedUp, cX11_hundreds, cX11_tens],
  [cX11_faultOf, cX11_item, cX11_put, cX11_longItem, cX11_putLong, cX12_init, cX12_in, cX12_min, cX12_max, cX12_has, cX12_hundreds, cX12_gcd, cX12_through, cX12_types, cX12_feed, cX12_steps],
  [cX12_kindFor, cX12_readsPiece, cX12_street, cX12_boardsFor, cX12_queue, cX12_kindWith, cX12_waitingAt, cX12_here, cX12_isDigit, cX12_wrongAt, cX12_takes, cX12_readsNumber, cX12_notes, cX12_opens, cX12_waitTop, cX12_factOf],
  [cX12_sumSign, cX12_closesSums, cX12_readsFactor, cX12_hasOpenSum, cX12_readsSum, cX12_endsPiece, cX12_lands, cX12_jumps, cX12_readsCompared, cX12_readsCondition, cX12_isClause, cX12_readsClause, cX12_reads, cX12_law, cX12_isRule, cX12_isTold],
  [cX12_rule, cX12_reckon, cX12_comesTo, cX12_byLaw, cX12_stateOf, cX12_yardsIn, cX12_breathIn, cX12_seenIn, cX12_ranIn, cX12_isState, cX12_isAction, cX12_told, cX12_feels, cX12_asks, cX12_worth, cX12_costs],
  [cX12_mayBe, cX12_behind, cX12_seenBy, cX12_asSeen, cX12_goesBy, cX12_may, cX12_after, cX12_marks, cX12_spreads, cX12_valueBy, cX12_solvesAt, cX12_solves, cX12_asTold, cX12_best, cX12_point, cX12_more],
  [cX12_ruled, cX12_actionNow, cX12_misses, cX12_catches, cX12_goes, cX12_goesThrough, cX12_by, cX12_near, cX12_actionBy, cX12_readsRow, cX12_blind, cX12_cornerHere, cX12_cornerGone, cX12_cornerBy, cX12_corner, cX12_leavesIn],
  [cX12_leaves, cX12_over, cX12_hadSeen, cX12_line, cX12_canBe, cX12_which, cX12_runner, cX12_waitsBy, cX12_wait, cX12_gainOf, cX12_three, cX12_draws, cX12_tries0, cX12_drawn, cX12_log, cX12_wrongIn],
  [cX12_wrong, cX12_tries, cX12_book, cX12_multiplies, cX12_products, cX12_fits, cX12_seed, cX12_copies, cX12_keep, cX12_undo, cX12_tapeNumber, cX12_check, cX12_count, cJ11_isValidCodePoint_9a6ad, cJ11_highSurrogate_5068e, cJ11_lowSurrogate_5068e],
  [cJ6_compare_7cf53, cJ6_bitCount_0f7a4, cJ9_max_7cf53, cJ9_min_7cf53, cJ0_length_8abf5, cJ0_indexOf_0f7a4, cJ0_indexOf_7cf53, cJ0_coder_7d493, cJ0_isLatin1_aae02, cJ0_checkBoundsBeginEnd_23922, cJ1_canEncode_9a6ad, cJ1_indexOf_4cfef, cJ1_indexOfChar_4cfef, cJ2_getChar_3b067, cJ2_length_9d52b, cJ2_indexOf_4cfef],
  [cJ2_indexOfChar_4cfef, cJ2_indexOfCharUnsafe_4cfef, cJ2_indexOfSupplementary_4cfef, cJ2_checkBoundsBeginEnd_d044e, cJ3_checkFromToIndex_8c36e]]
def snRT : List (List (Option FieldType)) := [[(some .boolean), none, (some .long), (some .int), (some .long), (some .long), (some .long), (some .long), none, (some .long), none, (some .boolean), none, none, none, none],
  [none, none, none, none, none, none, (some .int), (some .int), none, (some .int), (some .int), none, (some .long), none, (some .long), none],
  [none, (some .int), none, (some .int), none, none, (some .int), none, none, none, none, (some .boolean), (some .boolean), (some .int), none, none],
  [none, none, none, (some .int), none, (some .int), none, (some .int), none, (some .int), (some .int), (some .int), none, (some .int), (some .int), (some .int)],
  [(some .boolean), (some .int), none, none, (some .int), none, (some .boolean), (some .int), none, (some .int), (some .int), (some .int), none, none, (some .int), (some .boolean)],
  [none, (some .int), none, none, (some .boolean), none, none, none, none, none, (some .int), (some .int), none, (some .boolean), (some .int), (some .int)],
  [(some .int), (some .int), (some .int), (some .int), (some .int), (some .long), (some .long), (some .int), (some .long), (some .long), (some .long), (some .long), (some .long), (some .long), (some .long), (some .boolean)],
  [(some .int), (some .boolean), (some .int), (some .int), (some .int), (some .int), (some .long), (some .int), (some .int), (some .int), (some .boolean), (some .int), (some .boolean), (some .int), (some .int), none],
  [(some .int), none, (some (.object "RunForIt$Text")), (some .long), (some .boolean), (some .int), (some .boolean), (some .boolean), (some .boolean), (some .int), (some .int), (some .int), (some .boolean), (some .int), (some .long), (some .long)],
  [(some .int), (some .int), none, (some .long), none, none, (some .boolean), (some .int), (some .int), (some .boolean), (some .long), (some .long), (some .long), none, (some .int), (some .boolean)],
  [(some .int), (some .boolean), (some .int), (some .int), (some .int), (some .int), (some .int), (some .int), (some .boolean), (some .boolean), (some .boolean), (some .boolean), none, (some .boolean), (some .int), (some .int)],
  [(some .int), none, (some .boolean), (some .boolean), (some .boolean), none, none, none, (some .boolean), (some .boolean), (some .boolean), (some .boolean), (some .int), (some .int), (some .boolean), (some .boolean)],
  [(some .int), (some .int), (some .int), (some .int), (some .int), (some .int), (some .int), (some .int), (some .int), (some .boolean), (some .boolean), (some .int), none, (some .int), (some .int), (some .int)],
  [(some .boolean), (some .int), (some .int), (some .int), (some .int), (some .int), (some .int), none, none, (some .long), none, (some .long), none, (some .long), (some .int), (some .long)],
  [(some .int), (some .int), none, none, none, none, (some .long), (some .long), (some .int), none, (some .long), none, none, (some .long), (some .long), (some .long)],
  [(some .long), (some .long), (some .long), (some .boolean), (some .boolean), (some .int), (some .boolean), (some .int), (some .int), (some .int), (some .int), (some .int), (some .int), (some .int), (some .int), (some .long)],
  [(some .long), (some .int), (some .int), none, none, (some .int), (some .boolean), none, (some .int), (some .boolean), (some .int), (some .int), (some .int), (some .boolean), (some .char), (some .char)],
  [(some .int), (some .int), (some .int), (some .int), (some .int), (some .int), (some .int), (some .byte), (some .boolean), none, (some .boolean), (some .int), (some .int), (some .char), (some .int), (some .int)],
  [(some .int), (some .int), (some .int), none, (some .int)]]
def snMtT : List (List (Nat × Nat × Nat × Nat)) := [[(9999, 9999, 9999, 9999), (298, 99, 297, 9999), (789, 99, 788, 16), (824, 99, 822, 823), (808, 99, 807, 17), (901, 99, 899, 900), (905, 99, 903, 904), (913, 99, 912, 26), (319, 100, 318, 9999), (865, 100, 863, 864), (843, 100, 841, 842), (923, 100, 921, 922), (928, 100, 927, 27), (848, 100, 847, 19), (855, 100, 854, 20), (861, 100, 860, 21)],
  [(871, 100, 870, 22), (878, 100, 877, 23), (884, 100, 883, 24), (888, 100, 887, 25), (358, 101, 357, 9999), (473, 101, 471, 472), (1067, 101, 1065, 1066), (1092, 101, 1090, 1091), (1056, 101, 1054, 1055), (1063, 101, 1062, 28), (1087, 101, 1085, 1086), (385, 102, 384, 9999), (946, 102, 944, 945), (939, 102, 937, 938), (942, 102, 941, 9999), (954, 102, 952, 953)],
  [(973, 102, 971, 972), (981, 102, 979, 980), (269, 98, 268, 9999), (625, 98, 623, 624), (633, 98, 632, 5), (684, 98, 683, 12), (692, 98, 691, 14), (688, 98, 687, 13), (652, 98, 651, 8), (656, 98, 655, 9), (665, 98, 664, 10), (675, 98, 674, 9999), (668, 98, 667, 9999), (637, 98, 636, 6), (672, 98, 671, 11), (642, 98, 641, 7)],
  [(401, 103, 400, 9999), (1128, 103, 1126, 1127), (1133, 103, 1132, 30), (1137, 103, 1135, 1136), (172, 95, 171, 9999), (607, 95, 605, 606), (616, 95, 615, 4), (611, 95, 610, 9999), (193, 96, 192, 9999), (793, 96, 791, 792), (729, 96, 727, 728), (755, 96, 754, 9999), (737, 96, 736, 15), (837, 96, 835, 836), (722, 96, 720, 721), (772, 96, 770, 771)],
  [(780, 96, 778, 779), (776, 96, 774, 775), (125, 93, 124, 9999), (1153, 93, 1151, 1152), (1075, 93, 1073, 1074), (994, 93, 992, 993), (1003, 93, 1001, 1002), (1009, 93, 1007, 1008), (1018, 93, 1016, 1017), (1031, 93, 1029, 1030), (1027, 93, 1025, 1026), (1112, 93, 1110, 1111), (1116, 93, 1114, 1115), (153, 94, 152, 9999), (492, 94, 490, 491), (495, 94, 494, 9999)],
  [(593, 94, 592, 2), (598, 94, 597, 3), (199, 97, 198, 9999), (629, 97, 627, 628), (733, 97, 731, 732), (647, 97, 645, 646), (679, 97, 677, 678), (700, 97, 698, 699), (661, 97, 659, 660), (696, 97, 694, 695), (748, 97, 746, 747), (752, 97, 751, 9999), (117, 92, 116, 9999), (462, 92, 460, 461), (477, 92, 475, 476), (488, 92, 486, 487)],
  [(603, 92, 601, 602), (620, 92, 618, 619), (704, 92, 702, 703), (709, 92, 707, 708), (766, 92, 764, 765), (784, 92, 782, 783), (828, 92, 826, 827), (893, 92, 891, 892), (897, 92, 895, 896), (909, 92, 907, 908), (919, 92, 917, 918), (934, 92, 932, 933), (950, 92, 948, 949), (966, 92, 964, 965), (977, 92, 975, 976), (989, 92, 987, 988)],
  [(999, 92, 997, 998), (1014, 92, 1012, 1013), (1022, 92, 1020, 1021), (1036, 92, 1034, 1035), (1052, 92, 1050, 1051), (1083, 92, 1081, 1082), (1096, 92, 1094, 1095), (1108, 92, 1106, 1107), (1120, 92, 1118, 1119), (1124, 92, 1122, 1123), (1144, 92, 1142, 1143), (1149, 92, 1147, 1148), (1160, 92, 1158, 1159), (1164, 92, 1162, 1163), (1173, 92, 1171, 1172), (481, 92, 480, 1)],
  [(1168, 92, 1167, 31), (469, 92, 468, 0), (832, 92, 831, 18), (1100, 92, 1099, 29), (1039, 92, 1038, 9999), (1042, 92, 1041, 9999), (465, 92, 464, 9999), (712, 92, 711, 9999), (715, 92, 714, 9999), (718, 92, 717, 9999), (740, 92, 739, 9999), (725, 92, 724, 9999), (743, 92, 742, 9999), (969, 92, 968, 9999), (798, 92, 797, 9999), (959, 92, 958, 9999)],
  [(502, 92, 501, 9999), (498, 92, 497, 9999), (484, 92, 483, 9999), (804, 92, 803, 9999), (820, 92, 819, 9999), (1178, 104, 1177, 9999), (1476, 104, 1475, 9999), (1665, 104, 1664, 9999), (1662, 104, 1661, 9999), (1827, 104, 1826, 9999), (1704, 104, 1703, 9999), (1771, 104, 1770, 9999), (1768, 104, 1767, 9999), (1469, 104, 1468, 32), (1465, 104, 1463, 1464), (1473, 104, 1471, 1472)],
  [(1499, 104, 1498, 9999), (1484, 104, 1483, 33), (1480, 104, 1478, 1479), (1510, 104, 1509, 9999), (1507, 104, 1505, 1506), (1640, 104, 1639, 58), (1636, 104, 1635, 57), (1492, 104, 1491, 35), (1488, 104, 1487, 34), (1496, 104, 1495, 36), (1503, 104, 1502, 37), (1542, 104, 1541, 43), (1546, 104, 1545, 44), (1537, 104, 1536, 42), (1560, 104, 1559, 46), (1549, 104, 1548, 9999)],
  [(1552, 104, 1551, 9999), (1556, 104, 1555, 45), (1533, 104, 1532, 41), (1564, 104, 1563, 47), (1529, 104, 1528, 40), (1576, 104, 1575, 50), (1580, 104, 1579, 51), (1584, 104, 1583, 52), (1572, 104, 1571, 49), (1568, 104, 1567, 48), (1525, 104, 1524, 9999), (1522, 104, 1521, 39), (1518, 104, 1517, 38), (1514, 104, 1512, 1513), (1591, 104, 1590, 9999), (1735, 104, 1734, 72)],
  [(1588, 104, 1586, 1587), (1651, 104, 1650, 9999), (1648, 104, 1647, 60), (1644, 104, 1643, 59), (1608, 104, 1607, 9999), (1623, 104, 1622, 9999), (1626, 104, 1625, 9999), (1629, 104, 1628, 9999), (1632, 104, 1631, 9999), (1599, 104, 1598, 53), (1602, 104, 1601, 9999), (1605, 104, 1604, 9999), (1620, 104, 1619, 56), (1616, 104, 1615, 55), (1709, 104, 1708, 69), (1713, 104, 1712, 70)],
  [(1612, 104, 1611, 54), (1659, 104, 1658, 61), (1669, 104, 1668, 62), (1672, 104, 1671, 9999), (1676, 104, 1675, 63), (1595, 104, 1593, 1594), (1655, 104, 1653, 1654), (1693, 104, 1692, 66), (1697, 104, 1696, 67), (1717, 104, 1716, 71), (1701, 104, 1700, 68), (1689, 104, 1688, 65), (1685, 104, 1684, 64), (1680, 104, 1678, 1679), (1723, 104, 1721, 1722), (1727, 104, 1725, 1726)],
  [(1740, 104, 1739, 73), (1760, 104, 1759, 78), (1756, 104, 1755, 77), (1752, 104, 1751, 76), (1748, 104, 1747, 75), (1744, 104, 1743, 74), (1731, 104, 1729, 1730), (1764, 104, 1762, 1763), (1782, 104, 1781, 9999), (1779, 104, 1778, 79), (1775, 104, 1773, 1774), (1794, 104, 1793, 81), (1798, 104, 1797, 82), (1790, 104, 1789, 80), (1786, 104, 1784, 1785), (1806, 104, 1805, 83)],
  [(1802, 104, 1800, 1801), (1810, 104, 1808, 1809), (1814, 104, 1812, 1813), (1819, 104, 1817, 1818), (1831, 104, 1830, 84), (1824, 104, 1822, 1823), (1835, 104, 1833, 1834), (1844, 104, 1843, 85), (1839, 104, 1837, 1838), (1851, 104, 1850, 9999), (1848, 104, 1846, 1847), (1863, 104, 1862, 87), (1859, 104, 1858, 86), (1855, 104, 1853, 1854), (1868, 104, 1866, 1867), (1876, 104, 1875, 88)],
  [(1872, 104, 1870, 1871), (1880, 104, 1878, 1879), (1884, 104, 1882, 1883), (1895, 104, 1894, 9999), (1892, 104, 1891, 89), (1888, 104, 1886, 1887), (1899, 104, 1897, 1898), (1907, 104, 1906, 9999), (1904, 104, 1902, 1903), (1911, 104, 1909, 1910), (1919, 104, 1918, 90), (1915, 104, 1913, 1914), (1923, 104, 1921, 1922), (581, 110, 580, 9999), (584, 110, 583, 9999), (588, 110, 587, 9999)],
  [(1140, 111, 1139, 9999), (1045, 111, 1044, 9999), (534, 107, 533, 9999), (537, 107, 536, 9999), (521, 105, 519, 520), (507, 105, 505, 506), (511, 105, 509, 510), (525, 105, 523, 524), (515, 105, 513, 514), (558, 105, 557, 9999), (531, 106, 530, 9999), (528, 106, 527, 9999), (540, 106, 539, 9999), (569, 108, 568, 9999), (555, 108, 554, 9999), (543, 108, 542, 9999)],
  [(549, 108, 548, 9999), (566, 108, 565, 9999), (578, 108, 577, 9999), (552, 108, 551, 9999), (563, 109, 562, 9999)]]
def snTyT : List (List Nat) := [[2, 2, 2, 0],
  [2, 2, 2, 2, 2, 2, 2, 1, 0, 0],
  [2, 2, 0, 0, 2, 2],
  [2, 1, 1],
  [2, 0, 0, 0, 2, 2],
  [2],
  [0, 0, 2],
  [2, 2, 2, 2, 2, 0, 0],
  [0, 0, 2, 2, 2],
  [0, 2, 2],
  [0, 0, 0, 2, 2, 2, 2, 2],
  [2, 0, 2, 2, 3, 2, 2, 2, 2, 2, 2, 2, 2, 2, 2, 2, 2],
  [0, 0, 0, 0, 0, 0, 0, 2, 0, 0, 0, 0, 0, 2, 2, 2, 2, 0, 0, 0, 0, 2, 2, 2, 2, 2, 2, 2, 2, 2, 2, 2, 2, 2, 2, 0, 2, 2, 2, 3, 0, 0, 0, 2, 2, 2, 2, 2, 2, 1, 1, 1, 1, 1, 0, 0, 0, 0, 2, 2, 2, 2, 1, 1, 0, 0, 2, 2, 2, 2, 2, 2, 2, 0, 0, 2, 2, 2, 2, 2, 3, 0, 0, 0, 0, 2, 2, 2, 2, 2, 2, 2, 2]]
def snN (μ : Nat) : MethodName := zmAt yL_law snNT μ
def snB (μ : Nat) : ByteArray := zmAt cL_law snBT μ
def snR (μ : Nat) : Option FieldType := zmAt none snRT μ
def snL (μ : Nat) : Nat := zmAt 0 zmMlT μ
def snTy (c j : Nat) : Nat := (snTyT.getD c []).getD j 9
def snNest : Jvm.Cond → Bool
  | .fieldLinkNest .. => true
  | .methodLinkNest .. => true
  | _ => false
def snW (pos : Nat) (w : Jvm.Cond) : Bool := decide (lw_tbl[pos]? = some w) && (goodWord w || snNest w)
def snC (c : Nat) : vw_C := vwCl.getD c (RX0, TX0, 0)
def snFt : FieldType → Nat
  | .int => 0
  | .long => 1
  | .boolean => 3
  | .object _ => 2
  | .array _ => 2
  | _ => 9
/-- String constants: class, place, text, cell -/
def snStr : List (String × Nat × String × Nat) := [("RunForIt$Parser", 25, "", 4), ("RunForIt$Street", 34, "fuws", 5), ("RunForIt", 133, "ywbsgvml", 6), ("RunForIt$Ride", 78, "ywbsgvml", 6), ("RunForIt$Parser", 103, "tndezrpqka", 7), ("RunForIt", 145, "a", 8)]
/-- statics: class, name, descriptor -/
def snSta : Nat → String × String × String
  | 0 => ("java/lang/String", "COMPACT_STRINGS", "Z")
  | 1 => ("RunForIt", "BOUNDS", "[I")
  | 2 => ("RunForIt", "HUNDREDS", "[J")
  | _ => ("RunForIt", "TENS", "[J")
def snLk (own : String) (idx nest pos : Nat) (ref n d : String) : Bool := bif Nat.beq nest 1 then snW pos (.fieldLinkNest own idx ref n d "RunForIt") else snW pos (.fieldLink own idx ref n d)
def snFld (own : String) (idx : Nat) (r : Nat × Nat × Nat × Nat × Nat) : Bool :=
  Nat.blt r.1 13 && (Nat.blt r.2.1 (snC r.1).2.2 && (Nat.beq (snTy r.1 r.2.1) r.2.2.1 && snLk own idx r.2.2.2.2 r.2.2.2.1 ((snC r.1).2.1 r.2.1).1 ((snC r.1).2.1 r.2.1).2.1 ((snC r.1).2.1 r.2.1).2.2.1))
def snMt (μ : Nat) : Nat × Nat × Nat × Nat := zmAt (9999, 9999, 9999, 9999) snMtT μ
/-- what a method needs of the tables: its code, its class; whether it is static, or an instance's; which one is selected -/
def snMok (μ : Nat) : Bool := snW (snMt μ).1 (.code (snN μ) (snB μ) (snL μ) (snR μ)) && (snW (snMt μ).2.1 (.initialized (snN μ).cls) && (plainName (snN μ).cls && (decide ((snN μ).cls ≠ "java/lang/invoke/MethodHandle") && (decide ((snN μ).cls ≠ "java/lang/invoke/VarHandle") && Nat.ble (snL μ) 40))))
def snMl (own : String) (idx nest pos ν : Nat) : Bool := bif Nat.beq nest 1 then snW pos (.methodLinkNest own idx (snN ν) "RunForIt") else snW pos (.methodLink own idx (snN ν))
def snCall (own : String) (idx : Nat) (r : Nat × Nat × Nat × Nat × Nat) : Bool :=
  Nat.blt 0 r.2.1 && (Nat.blt r.2.1 293 && (snMl own idx r.2.2.2.2 r.2.2.2.1 r.2.1 && (decide ((parseMethodDescriptor (snN r.2.1).desc).map (fun d => d.parameters.length) = some r.2.2.1) &&
  (match r.1 with
    | 0 => snW (snMt r.2.1).2.2.1 (.static (snN r.2.1))
    | 1 => snW (snMt r.2.1).2.2.1 (.instanceMethod (snN r.2.1)) && snW (snMt r.2.1).2.2.2 (.selects (snN r.2.1).cls (snN r.2.1) (snN r.2.1))
    | 2 => snW (snMt r.2.1).2.2.1 (.instanceMethod (snN r.2.1)) && (decide ((snN r.2.1).name = "<init>") && decide (snR r.2.1 = none))
    | _ => false))))
def snOk2 (own : String) (μ pc : Nat) (i : zmI) : Bool := match i.1 with
  | .aload _ => Nat.beq i.2.1 2
  | .aload_n _ => Nat.beq i.2.1 1
  | .iload _ => Nat.beq i.2.1 2
  | .iload_n _ => Nat.beq i.2.1 1
  | .lload _ => Nat.beq i.2.1 2
  | .lload_n _ => Nat.beq i.2.1 1
  | .iconst n => Nat.beq i.2.1 1 && decide (Int32.ofInt n = i.2.2.2.1)
  | .bipush n => Nat.beq i.2.1 2 && decide ((Int8.ofInt n).toInt32 = i.2.2.2.1)
  | .sipush n => Nat.beq i.2.1 3 && decide ((Int16.ofInt n).toInt32 = i.2.2.2.1)
  | .lconst n => Nat.beq i.2.1 1 && decide (Int64.ofNat n.val = i.2.2.2.2)
  | .ldc k => Nat.beq i.2.1 2 && (match i.2.2.1.2.1 with
    | 0 => snW i.2.2.1.2.2.2.1 (.constant own k i.2.2.2.1)
    | _ => snStr.any (fun q => decide (q.1 = own) && (Nat.beq q.2.1 k && Nat.beq q.2.2.2 i.2.2.1.1)))
  | .ldc_w k => Nat.beq i.2.1 3 && snW i.2.2.1.2.2.2.1 (.constant own k i.2.2.2.1)
  | .ldc2_w k => Nat.beq i.2.1 3 && snW i.2.2.1.2.2.2.1 (.constantLong own k i.2.2.2.2)
  | .aconst_null => Nat.beq i.2.1 1
  | .istore n => Nat.beq i.2.1 2 && Nat.blt n (snL μ)
  | .istore_n n => Nat.beq i.2.1 1 && Nat.blt n.val (snL μ)
  | .astore n => Nat.beq i.2.1 2 && Nat.blt n (snL μ)
  | .astore_n n => Nat.beq i.2.1 1 && Nat.blt n.val (snL μ)
  | .lstore n => Nat.beq i.2.1 2 && Nat.blt (n + 1) (snL μ)
  | .lstore_n n => Nat.beq i.2.1 1 && Nat.blt (n.val + 1) (snL μ)
  | .iinc n k => Nat.beq i.2.1 3 && (Nat.blt n (snL μ) && decide (Int32.ofInt k = i.2.2.2.1))
  | .goto o => Nat.beq i.2.1 3 && decide (0 ≤ (pc : Int) + o)
  | .ifCond _ o => Nat.beq i.2.1 3 && decide (0 ≤ (pc : Int) + o)
  | .if_icmp _ o => Nat.beq i.2.1 3 && decide (0 ≤ (pc : Int) + o)
  | .ifnull o => Nat.beq i.2.1 3 && decide (0 ≤ (pc : Int) + o)
  | .ifnonnull o => Nat.beq i.2.1 3 && decide (0 ≤ (pc : Int) + o)
  | .tableswitch d lo hi os => decide (0 ≤ (pc : Int) + d) && (os.toList.all (fun o => decide (0 ≤ (pc : Int) + o)) && decide ((os.toList.length : Int) = hi - lo + 1))
  | .lookupswitch d ps => decide (0 ≤ (pc : Int) + d) && (ps.toList.all (fun o => decide (0 ≤ (pc : Int) + o.2)) && (ps.toList.zip (ps.toList.drop 1)).all (fun (a, next) => a.1 < next.1))
  | .getfield k => Nat.beq i.2.1 3 && (bif Nat.beq i.2.2.1.1 30 then (match i.2.2.1.2.1 with
      | 0 => snW i.2.2.1.2.2.2.1 (.fieldLink own k "java/lang/String" "value" "[B")
      | 1 => snW i.2.2.1.2.2.2.1 (.fieldLink own k "java/lang/String" "coder" "B")
      | _ => false) else snFld own k i.2.2.1)
  | .putfield k => Nat.beq i.2.1 3 && (snFld own k i.2.2.1 && (Nat.beq i.2.2.1.2.2.2.2 0 || !((snC i.2.2.1.1).2.1 i.2.2.1.2.1).2.2.2) && (bif ((snC i.2.2.1.1).2.1 i.2.2.1.2.1).2.2.2 then decide ((snN μ).name = "<init>") && decide (((snC i.2.2.1.1).2.1 i.2.2.1.2.1).1 = own) else true))
  | .getstatic k => Nat.beq i.2.1 3 && (Nat.blt i.2.2.1.1 4 && snLk own k i.2.2.1.2.2.2.2 i.2.2.1.2.2.2.1 (snSta i.2.2.1.1).1 (snSta i.2.2.1.1).2.1 (snSta i.2.2.1.1).2.2)
  | .new k => Nat.beq i.2.1 3 && (Nat.blt i.2.2.1.1 13 && snW i.2.2.1.2.2.2.1 (.classLink own k (snC i.2.2.1.1).1))
  | .newarray _ => Nat.beq i.2.1 2
  | .anewarray k => Nat.beq i.2.1 3 && snW i.2.2.1.2.2.2.1 (.classLink own k RX10)
  | .invokestatic k => Nat.beq i.2.1 3 && (bif Nat.beq i.2.2.1.1 4 then snW i.2.2.1.2.2.2.1 (.methodLink own k arraycopyName) else Nat.beq i.2.2.1.1 0 && snCall own k i.2.2.1)
  | .invokevirtual k => Nat.beq i.2.1 3 && (Nat.beq i.2.2.1.1 1 && snCall own k i.2.2.1)
  | .invokespecial k => Nat.beq i.2.1 3 && (bif Nat.beq i.2.2.1.1 3 then snW i.2.2.1.2.2.2.1 (.methodLink own k objectInit) else Nat.beq i.2.2.1.1 2 && snCall own k i.2.2.1)
  | .ireturn => Nat.beq i.2.1 1 && (match i.2.2.1.1 with
    | 0 => decide (snR μ = some .int)
    | 1 => decide (snR μ = some .boolean)
    | 2 => decide (snR μ = some .byte)
    | _ => true)
  | .lreturn => Nat.beq i.2.1 1 && decide (snR μ = some .long)
  | .areturn => Nat.beq i.2.1 1 && (match snR μ with
    | some (.object _) => true
    | _ => false)
  | .return_ => Nat.beq i.2.1 1 && decide (snR μ = none)
  | _ => Nat.beq i.2.1 1
def snOk (μ pc : Nat) (i : zmI) : Bool := decide (decode (snB μ) pc = .ok (i.1, i.2.1)) && snOk2 (snN μ).cls μ pc i
def snAll (μ : Nat) : Bool := (List.range (16 * (zmAt [] zmCodeT μ).length)).all fun pc => match zmFetch μ pc with
  | none => true
  | some i => snOk μ pc i
theorem snAll_at {μ pc : Nat} {i : zmI} (h : snAll μ = true) (hf : zmFetch μ pc = some i) : snOk μ pc i = true := by
  have hlt : pc < 16 * (zmAt [] zmCodeT μ).length := by
    rcases Nat.lt_or_ge pc (16 * (zmAt [] zmCodeT μ).length) with q | q
    · exact q
    · exfalso
      have h2 : (zmAt [] zmCodeT μ).length ≤ pc / 16 := by omega
      unfold zmFetch at hf
      generalize zmAt [] zmCodeT μ = t at hf h2
      unfold zmAt at hf
      rw [List.getD_eq_getElem?_getD (l := t), List.getElem?_eq_none h2] at hf
      simp at hf
  have h1 := List.all_eq_true.mp h pc (List.mem_range.mpr hlt)
  rw [hf] at h1
  exact h1
/-- addresses of cells, values -/
def snAd (od : Nat → Nat) (sz0 k : Nat) : Nat := if k < 14 then od k else sz0 + (k - 14)
def snV (od : Nat → Nat) (sz0 : Nat) : Value → Value
  | .ref k => .ref (snAd od sz0 k)
  | v => v
def snA (sz0 : Nat) : Nat → Prop := fun q => sz0 ≤ q
def snE (od : Nat → Nat) (sz0 : Nat) (tyc : Nat → ClassId) (x : zmH) (k : Nat) : va_E := match (zmLay k).1 with
  | 20 => .inl (tyc 0, ((zmLay k).2, .inl (fun j => gI x k j)))
  | 21 => .inl (tyc 1, ((zmLay k).2, .inr (.inl (fun j => gL x k j))))
  | 22 => .inl (tyc 2, ((zmLay k).2, .inl (fun j => gI x k j)))
  | 23 => .inl (tyc 3, ((zmLay k).2, .inl (fun j => gI x k j)))
  | 24 => .inl (tyc 4, ((zmLay k).2, .inr (.inr (.inr (.inr (fun j => (gR x k j).map (snAd od sz0)))))))
  | c => .inr (c, (List.range (zmLay k).2).map (fun j => snV od sz0 (zmRd (snTy c j) k j x)))
def snWs (od : Nat → Nat) (sz0 : Nat) (tyc : Nat → ClassId) (x : zmH) : va_W := (List.range (x.1.1 - 14)).map (fun i => (sz0 + i, snE od sz0 tyc x (i + 14)))
def snTys (tyc : Nat → ClassId) : List (ClassId × FieldType) := [(tyc 0, .int), (tyc 1, .long), (tyc 2, .byte), (tyc 3, .boolean), (tyc 4, .object RX10)]
def snSl : Nat → Nat
  | 0 => 0
  | 1 => 4
  | 2 => 8
  | 3 => 10
  | _ => 1
/-- what stands outside the made cells, in a state -/
def snEnv (od : Nat → Nat) (sz0 Ls : Nat) (oI : Nat → Nat → Int32) (oL : Nat → Nat → Int64) (D : va_G) (tyc : Nat → ClassId) (U : State) : Prop :=
  sz0 ≤ U.heap.size ∧ (∀ w ∈ lw_tbl, snNest w = true → va_Nw w U) ∧ va_K D vwCl (snTys tyc) U ∧
  va_Z "java/lang/String" "COMPACT_STRINGS" "Z" (.int 1) (snA sz0) U U.heap ∧ va_Z "RunForIt" "BOUNDS" "[I" (.ref (od 1)) (snA sz0) U U.heap ∧ va_Z "RunForIt" "HUNDREDS" "[J" (.ref (od 2)) (snA sz0) U U.heap ∧ va_Z "RunForIt" "TENS" "[J" (.ref (od 3)) (snA sz0) U U.heap ∧
  va_T .int (od 0) Ls (fun j => .int (oI 0 j)) (snA sz0) U U.heap ∧ va_T .int (od 1) 8 (fun j => .int (oI 1 j)) (snA sz0) U U.heap ∧ va_T .long (od 2) 9 (fun j => .long (oL 2 j)) (snA sz0) U U.heap ∧ va_T .long (od 3) 9 (fun j => .long (oL 3 j)) (snA sz0) U U.heap ∧
  (∀ i : Nat, i < 5 → va_O "java/lang/String" (od (4 + i)) (snA sz0) U U.heap ∧ va_OF "java/lang/String" "coder" "B" (.int 0) (od (4 + i)) (snA sz0) U U.heap ∧ va_OF "java/lang/String" "value" "[B" (.ref (od (9 + i))) (od (4 + i)) (snA sz0) U U.heap ∧ va_T .byte (od (9 + i)) (snSl i) (fun j => .int (oI (9 + i) j)) (snA sz0) U U.heap) ∧
  (∀ q ∈ snStr, vk_R q.1 q.2.1 q.2.2.1 (od q.2.2.2) U) ∧ va_AO RX10 U
/-- the old cells' contents, the script's length, the count of cells -/
def snOld (Ls : Nat) (oI : Nat → Nat → Int32) (oL : Nat → Nat → Int64) (x : zmH) : Prop := 14 ≤ x.1.1 ∧ x.1.2 = Ls ∧ ∀ k : Nat, k < 14 → x.2.1 k = oI k ∧ x.2.2.1 k = oL k
section SN
variable {od : Nat → Nat} {sz0 Ls : Nat} {oI : Nat → Nat → Int32} {oL : Nat → Nat → Int64} {D : va_G} {tyc : Nat → ClassId}
theorem va_Nw_warm {w : Jvm.Cond} (hn : snNest w = true) {s U : State} (hW : s.WarmedH U.vm) (h : va_Nw w s) : va_Nw w U := by
  cases w <;> first | (exact va_Nw.warmF hW h) | (exact va_Nw.warmM hW h) | (exact absurd hn (by decide)) | (simp [snNest] at hn)
theorem snNest_tab {w : Jvm.Cond} (hn : snNest w = true) : w.onTables = true := by
  cases w <;> first | rfl | (simp [snNest] at hn)
theorem snEnv_warm {s U : State} (hW : s.WarmedH U.vm) (hz : s.heap.size ≤ U.heap.size) (hk : ∀ q : Nat, q < s.heap.size → ¬ snA sz0 q → U.heap[q]? = s.heap[q]?) (h : snEnv od sz0 Ls oI oL D tyc s) : snEnv od sz0 Ls oI oL D tyc U := by
  obtain ⟨h1, h2, h3, z1, z2, z3, z4, t0, t1, t2, t3, h5, h6, h7⟩ := h
  have hvm := hW.alike
  refine ⟨Nat.le_trans h1 hz, fun w hw hn => va_Nw_warm hn hW (h2 w hw hn), va_K.moved hvm h3, (va_Z.moved hvm z1).kept hk, (va_Z.moved hvm z2).kept hk, (va_Z.moved hvm z3).kept hk, (va_Z.moved hvm z4).kept hk, (va_T.moved hvm t0).kept hk, (va_T.moved hvm t1).kept hk, (va_T.moved hvm t2).kept hk, (va_T.moved hvm t3).kept hk, fun i hi => ?_, fun q hq => (h6 q hq).warm hW, h7.moved hvm⟩
  obtain ⟨g1, g2, g3, g4⟩ := h5 i hi
  exact ⟨(va_O.moved hvm g1).kept hk, (va_OF.moved hvm g2).kept hk, (va_OF.moved hvm g3).kept hk, (va_T.moved hvm g4).kept hk⟩
theorem snEnv_same {u U : State} (hv : u.vm = U.vm) (hh : U.heap = u.heap) (h : snEnv od sz0 Ls oI oL D tyc u) : snEnv od sz0 Ls oI oL D tyc U := by
  obtain ⟨h1, h2, h3, z1, z2, z3, z4, t0, t1, t2, t3, h5, h6, h7⟩ := h
  have hvm : u.vm.Alike U.vm := by rw [hv]; exact Vm.Alike.refl _
  have hk : ∀ q : Nat, q < u.heap.size → ¬ snA sz0 q → U.heap[q]? = u.heap[q]? := fun q _ _ => by rw [hh]
  refine ⟨by rw [hh]; exact h1, fun w hw hn => va_Nw.same (snNest_tab hn) hv (h2 w hw hn), va_K.moved hvm h3, (va_Z.moved hvm z1).kept hk, (va_Z.moved hvm z2).kept hk, (va_Z.moved hvm z3).kept hk, (va_Z.moved hvm z4).kept hk, (va_T.moved hvm t0).kept hk, (va_T.moved hvm t1).kept hk, (va_T.moved hvm t2).kept hk, (va_T.moved hvm t3).kept hk, fun i hi => ?_, fun q hq => (h6 q hq).same hv.symm, h7.moved hvm⟩
  obtain ⟨g1, g2, g3, g4⟩ := h5 i hi
  exact ⟨(va_O.moved hvm g1).kept hk, (va_OF.moved hvm g2).kept hk, (va_OF.moved hvm g3).kept hk, (va_T.moved hvm g4).kept hk⟩
theorem snWs_len (x : zmH) : (snWs od sz0 tyc x).length = x.1.1 - 14 := by simp [snWs]
theorem snWs_get {x : zmH} {k : Nat} (h1 : 14 ≤ k) (h2 : k < x.1.1) : (snWs od sz0 tyc x)[k - 14]? = some (snAd od sz0 k, snE od sz0 tyc x k) := by
  unfold snWs
  rw [List.getElem?_map, List.getElem?_range (by omega)]
  show some (sz0 + (k - 14), snE od sz0 tyc x (k - 14 + 14)) = _
  rw [Nat.sub_add_cancel h1, snAd, if_neg (by omega)]
theorem snWs_D (x : zmH) : va_D (snA sz0) (snWs od sz0 tyc x) := by
  have key : ∀ (i : Nat) (p : Nat × va_E), (snWs od sz0 tyc x)[i]? = some p → p.1 = sz0 + i := by
    intro i p h
    unfold snWs at h
    rw [List.getElem?_map] at h
    cases hr : (List.range (x.1.1 - 14))[i]? with
    | none => rw [hr] at h; cases h
    | some j =>
      rw [hr] at h
      have hj := List.getElem?_eq_some_iff.mp hr
      obtain ⟨hl, hj⟩ := hj
      rw [List.getElem_range] at hj
      subst hj
      cases h
      rfl
  refine ⟨fun i j p q hi hj hpq => ?_, fun k q hk => ?_⟩
  · have a := key i p hi
    have b := key j q hj
    omega
  · have a := key k q hk
    show sz0 ≤ q.1
    omega
/-- one cell is written: the world of the new state -/
theorem snWs_set {x x' : zmH} {k : Nat} (h1 : 14 ≤ k) (h2 : k < x.1.1) (hn : x'.1.1 = x.1.1) (ho : ∀ j : Nat, j ≠ k → snE od sz0 tyc x' j = snE od sz0 tyc x j) : snWs od sz0 tyc x' = (snWs od sz0 tyc x).set (k - 14) (snAd od sz0 k, snE od sz0 tyc x' k) := by
  apply List.ext_getElem?
  intro i
  rw [List.getElem?_set]
  by_cases hi : k - 14 = i
  · subst hi
    rw [if_pos rfl, if_pos (by rw [snWs_len]; omega), snWs_get h1 (by omega)]
  · rw [if_neg hi]
    unfold snWs
    rw [List.getElem?_map, List.getElem?_map, hn]
    cases hr : (List.range (x.1.1 - 14))[i]? with
    | none => rfl
    | some j =>
      have hj := List.getElem?_eq_some_iff.mp hr
      obtain ⟨hl, hj⟩ := hj
      rw [List.getElem_range] at hj
      subst hj
      show some (sz0 + i, _) = some (sz0 + i, _)
      rw [ho (i + 14) (by omega)]
end SN
