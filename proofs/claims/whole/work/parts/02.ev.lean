/-! the tables -/
def q_mt0 : List (Nat × MethodName × ByteArray × Nat × Option FieldType × Nat) := [(0, yX0_init, cX0_init, 3, (none), 3),
  (0, yX0_fewestChanges, cX0_fewestChanges, 6, (some FieldType.int), 3),
  (0, yX0_stepOn, cX0_stepOn, 6, (none), 3),
  (0, yX0_findChanges, cX0_findChanges, 4, (some FieldType.boolean), 4),
  (0, yX0_choose, cX0_choose, 4, (some FieldType.boolean), 3),
  (0, yX0_chooseAs, cX0_chooseAs, 5, (some FieldType.boolean), 4),
  (0, yX0_changeKinds, cX0_changeKinds, 2, (none), 1),
  (1, yX1_init, cX1_init, 3, (none), 3),
  (1, yX1_readLines, cX1_readLines, 2, (some FieldType.boolean), 1),
  (1, yX1_readLine, cX1_readLine, 4, (some FieldType.boolean), 1),
  (1, yX1_runOn, cX1_runOn, 4, (none), 2),
  (1, yX1_runLine, cX1_runLine, 4, (some FieldType.int), 3),
  (2, yX2_init, cX2_init, 3, (none), 2),
  (2, yX2_clear, cX2_clear, 1, (none), 1),
  (2, yX2_keep, cX2_keep, 3, (none), 2),
  (2, yX2_takeBack, cX2_takeBack, 3, (some FieldType.int), 2),
  (3, yX3_init, cX3_init, 3, (none), 3),
  (3, yX3_keep, cX3_keep, 4, (none), 4),
  (3, yX3_putBack, cX3_putBack, 4, (none), 4),
  (4, yX4_init, cX4_init, 2, (none), 2),
  (4, yX4_begin, cX4_begin, 2, (none), 1),
  (4, yX4_copyFrom, cX4_copyFrom, 2, (none), 2),
  (4, yX4_owesInAll, cX4_owesInAll, 4, (some FieldType.int), 2),
  (4, yX4_owedInAll, cX4_owedInAll, 4, (some FieldType.int), 2),
  (4, yX4_allDebts, cX4_allDebts, 3, (some FieldType.int), 1),
  (4, yX4_countDebts, cX4_countDebts, 3, (some FieldType.int), 1),
  (4, yX4_countWaiting, cX4_countWaiting, 3, (some FieldType.int), 1),
  (4, yX4_allBirths, cX4_allBirths, 3, (some FieldType.int), 1),
  (4, yX4_livingAs, cX4_livingAs, 4, (some FieldType.int), 2),
  (4, yX4_whyNot, cX4_whyNot, 3, (some FieldType.int), 3),
  (4, yX4_giveOut, cX4_giveOut, 3, (none), 3),
  (4, yX4_become, cX4_become, 3, (none), 3),
  (4, yX4_canPass, cX4_canPass, 2, (some FieldType.boolean), 2),
  (4, yX4_passDays, cX4_passDays, 3, (none), 2),
  (4, yX4_passClerkDays, cX4_passClerkDays, 3, (none), 2),
  (4, yX4_passDrawnDays, cX4_passDrawnDays, 7, (none), 3),
  (4, yX4_giveByClerk, cX4_giveByClerk, 3, (none), 1),
  (4, yX4_clerksChoice, cX4_clerksChoice, 4, (some FieldType.int), 2),
  (4, yX4_passDay, cX4_passDay, 3, (none), 1),
  (4, yX4_settlePair, cX4_settlePair, 8, (some FieldType.int), 3)]
def q_mt1 : List (Nat × MethodName × ByteArray × Nat × Option FieldType × Nat) := [(4, yX4_grow, cX4_grow, 3, (none), 1),
  (5, yX5_init, cX5_init, 3, (none), 3),
  (5, yX5_clearGiven, cX5_clearGiven, 2, (none), 1),
  (5, yX5_toldOf, cX5_toldOf, 2, (some FieldType.int), 2),
  (5, yX5_mostSettled, cX5_mostSettled, 3, (some FieldType.int), 2),
  (5, yX5_byTheLiving, cX5_byTheLiving, 6, (some FieldType.int), 2),
  (5, yX5_fillTables, cX5_fillTables, 4, (none), 2),
  (5, yX5_fillAlone, cX5_fillAlone, 10, (some FieldType.int), 3),
  (5, yX5_fillTogether, cX5_fillTogether, 9, (some FieldType.int), 4),
  (5, yX5_togetherAt, cX5_togetherAt, 4, (some FieldType.int), 4),
  (5, yX5_pairSum, cX5_pairSum, 11, (some FieldType.int), 5),
  (5, yX5_grownBy, cX5_grownBy, 2, (some FieldType.int), 2),
  (5, yX5_choose, cX5_choose, 4, (none), 3),
  (5, yX5_addedBy, cX5_addedBy, 5, (some FieldType.int), 3),
  (5, yX5_keepWay, cX5_keepWay, 3, (none), 2),
  (6, yX6_init, cX6_init, 3, (none), 3),
  (6, yX6_mostGroups, cX6_mostGroups, 5, (some FieldType.int), 1),
  (6, yX6_collect, cX6_collect, 3, (none), 1),
  (7, yX7_init, cX7_init, 3, (none), 3),
  (7, yX7_readLines, cX7_readLines, 2, (some FieldType.int), 1),
  (7, yX7_readLine, cX7_readLine, 1, (some FieldType.boolean), 1),
  (7, yX7_readKind, cX7_readKind, 5, (some FieldType.boolean), 1),
  (7, yX7_readMeets, cX7_readMeets, 4, (some FieldType.boolean), 1),
  (7, yX7_readSoul, cX7_readSoul, 3, (some FieldType.boolean), 1),
  (7, yX7_readOnly, cX7_readOnly, 4, (some FieldType.boolean), 1),
  (7, yX7_readWish, cX7_readWish, 3, (some FieldType.boolean), 1),
  (7, yX7_readDebt, cX7_readDebt, 4, (some FieldType.boolean), 1),
  (7, yX7_readGrows, cX7_readGrows, 1, (some FieldType.boolean), 1),
  (7, yX7_takeNewName, cX7_takeNewName, 1, (some FieldType.boolean), 1),
  (8, yX8_init, cX8_init, 1, (none), 1),
  (8, yX8_isKind, cX8_isKind, 2, (some FieldType.boolean), 2),
  (8, yX8_isSoul, cX8_isSoul, 2, (some FieldType.boolean), 2),
  (8, yX8_mayBe, cX8_mayBe, 3, (some FieldType.boolean), 3),
  (8, yX8_canSettle, cX8_canSettle, 5, (some FieldType.boolean), 3),
  (8, yX8_clear, cX8_clear, 2, (none), 1),
  (8, yX8_fillUntold, cX8_fillUntold, 2, (none), 1),
  (8, yX8_addKind, cX8_addKind, 5, (none), 4),
  (8, yX8_addSoul, cX8_addSoul, 3, (none), 2),
  (8, yX8_copyFrom, cX8_copyFrom, 2, (none), 2),
  (9, yX9_init, cX9_init, 3, (none), 3)]
def q_mt2 : List (Nat × MethodName × ByteArray × Nat × Option FieldType × Nat) := [(9, yX9_clear, cX9_clear, 1, (none), 1),
  (9, yX9_copyFrom, cX9_copyFrom, 2, (none), 2),
  (9, yX9_readText, cX9_readText, 1, (some FieldType.boolean), 1),
  (9, yX9_readCond, cX9_readCond, 3, (some FieldType.boolean), 2),
  (9, yX9_readAll, cX9_readAll, 3, (some FieldType.boolean), 2),
  (9, yX9_readOne, cX9_readOne, 5, (some FieldType.boolean), 2),
  (9, yX9_readNamed, cX9_readNamed, 5, (some FieldType.boolean), 4),
  (9, yX9_readCompared, cX9_readCompared, 4, (some FieldType.boolean), 2),
  (9, yX9_addStep, cX9_addStep, 4, (some FieldType.boolean), 4),
  (9, yX9_soulsSaid, cX9_soulsSaid, 5, (some FieldType.int), 2),
  (9, yX9_soulsByStep, cX9_soulsByStep, 5, (some FieldType.int), 3),
  (9, yX9_holds, cX9_holds, 4, (some FieldType.boolean), 4),
  (9, yX9_compares, cX9_compares, 3, (some FieldType.boolean), 3),
  (10, yX10_init, cX10_init, 1, (none), 1),
  (10, yX10_addNumber, cX10_addNumber, 3, (none), 2),
  (10, yX10_beginReading, cX10_beginReading, 6, (none), 2),
  (10, yX10_addRun, cX10_addRun, 9, (some FieldType.int), 2),
  (10, yX10_addToken, cX10_addToken, 6, (none), 5),
  (10, yX10_advance, cX10_advance, 1, (none), 1),
  (10, yX10_refuse, cX10_refuse, 2, (some FieldType.boolean), 2),
  (10, yX10_endsHere, cX10_endsHere, 1, (some FieldType.boolean), 1),
  (10, yX10_isKey, cX10_isKey, 2, (some FieldType.boolean), 2),
  (10, yX10_isSign, cX10_isSign, 2, (some FieldType.boolean), 2),
  (10, yX10_takeSign, cX10_takeSign, 2, (some FieldType.boolean), 2),
  (10, yX10_takeKey, cX10_takeKey, 2, (some FieldType.boolean), 2),
  (10, yX10_takeNumber, cX10_takeNumber, 4, (some FieldType.int), 3),
  (10, yX10_nameHere, cX10_nameHere, 4, (some FieldType.int), 3),
  (10, yX10_takeName, cX10_takeName, 4, (some FieldType.int), 3),
  (10, yX10_placeOf, cX10_placeOf, 5, (some FieldType.int), 3),
  (11, yX11_init, cX11_init, 5, (none), 1),
  (11, yX11_feed, cX11_feed, 6, (some FieldType.int), 6),
  (11, yX11_end, cX11_end, 2, (some FieldType.boolean), 2),
  (11, yX11_office, cX11_office, 2, (some FieldType.int), 1),
  (11, yX11_fault, cX11_fault, 1, (some FieldType.int), 1),
  (11, yX11_daybook, cX11_daybook, 3, (some FieldType.int), 2),
  (11, yX11_booked, cX11_booked, 2, (some FieldType.int), 2),
  (11, yX11_sentence, cX11_sentence, 2, (some FieldType.int), 1),
  (11, yX11_said, cX11_said, 5, (some FieldType.int), 2),
  (11, yX11_count, cX11_count, 2, (some FieldType.int), 2),
  (11, yX11_kind, cX11_kind, 3, (some FieldType.int), 3)]
def q_mt3 : List (Nat × MethodName × ByteArray × Nat × Option FieldType × Nat) := [(11, yX11_meets, cX11_meets, 3, (some FieldType.int), 3),
  (11, yX11_soul, cX11_soul, 3, (some FieldType.int), 3),
  (11, yX11_debt, cX11_debt, 3, (some FieldType.int), 3),
  (11, yX11_now, cX11_now, 2, (some FieldType.int), 2),
  (11, yX11_settled, cX11_settled, 3, (some FieldType.int), 3),
  (11, yX11_greatest, cX11_greatest, 6, (some FieldType.int), 2),
  (11, yX11_why, cX11_why, 3, (some FieldType.int), 3),
  (11, yX11_give, cX11_give, 4, (some FieldType.int), 3),
  (11, yX11_days, cX11_days, 2, (some FieldType.int), 2),
  (11, yX11_clerk, cX11_clerk, 2, (some FieldType.int), 2),
  (11, yX11_drawn, cX11_drawn, 4, (some FieldType.int), 3),
  (11, yX11_appeal, cX11_appeal, 3, (some FieldType.int), 3),
  (11, yX11_grant, cX11_grant, 4, (some FieldType.boolean), 3),
  (11, yX11_undo, cX11_undo, 1, (some FieldType.int), 1),
  (11, yX11_image, cX11_image, 3, (some FieldType.boolean), 2),
  (11, yX11_restore, cX11_restore, 3, (some FieldType.boolean), 2),
  (11, yX11_most, cX11_most, 2, (some FieldType.int), 2),
  (11, yX11_gives, cX11_gives, 2, (some FieldType.int), 2),
  (11, yX11_hopeless, cX11_hopeless, 5, (some FieldType.int), 2),
  (11, yX11_net, cX11_net, 2, (some FieldType.int), 2),
  (11, yX11_fewest, cX11_fewest, 2, (some FieldType.int), 1),
  (11, yX11_groups, cX11_groups, 1, (some FieldType.int), 1),
  (11, yX11_were, cX11_were, 5, (some FieldType.int), 3),
  (11, yX11_first, cX11_first, 2, (some FieldType.int), 2),
  (11, yX11_ends, cX11_ends, 2, (some FieldType.int), 1),
  (11, yX11_later, cX11_later, 2, (some FieldType.int), 2),
  (11, yX11_queue, cX11_queue, 4, (some FieldType.int), 2),
  (11, yX11_odds, cX11_odds, 6, (some FieldType.int), 3),
  (11, yX11_countWays, cX11_countWays, 7, (some FieldType.int), 3),
  (11, yX11_looksLike, cX11_looksLike, 7, (some FieldType.boolean), 4),
  (11, yX11_keepFirstWay, cX11_keepFirstWay, 4, (none), 4),
  (11, yX11_soulPair, cX11_soulPair, 2, (some FieldType.int), 2),
  (11, yX11_kindPair, cX11_kindPair, 2, (some FieldType.int), 2),
  (11, yX11_isSmallLetter, cX11_isSmallLetter, 1, (some FieldType.boolean), 1),
  (11, yX11_isDigit, cX11_isDigit, 1, (some FieldType.boolean), 1),
  (11, yX11_isSignByte, cX11_isSignByte, 1, (some FieldType.boolean), 1),
  (11, yX11_withLetter, cX11_withLetter, 3, (some FieldType.long), 2),
  (11, yX11_keysByNumber, cX11_keysByNumber, 6, (some (FieldType.array FieldType.long)), 0),
  (12, yX12_thrown, cX12_thrown, 1, (some FieldType.int), 1),
  (12, yX12_throwsIf, cX12_throwsIf, 2, (some FieldType.boolean), 2)]
def q_mt4 : List (Nat × MethodName × ByteArray × Nat × Option FieldType × Nat) := [(12, yX12_feed, cX12_feed, 6, (some FieldType.int), 6),
  (12, yX12_four, cX12_four, 3, (none), 2),
  (12, yX12_end, cX12_end, 2, (some FieldType.boolean), 2),
  (12, yX12_taken, cX12_taken, 2, (none), 2),
  (12, yX12_isIn, cX12_isIn, 3, (some FieldType.boolean), 3),
  (12, yX12_bitOf, cX12_bitOf, 2, (some FieldType.boolean), 2),
  (12, yX12_lesser, cX12_lesser, 2, (some FieldType.int), 2),
  (12, yX12_octet, cX12_octet, 2, (some FieldType.int), 2),
  (12, yX12_init, cX12_init, 1, (none), 1),
  (12, yX12_peek, cX12_peek, 1, (some FieldType.int), 1),
  (12, yX12_isSmall, cX12_isSmall, 1, (some FieldType.boolean), 1),
  (12, yX12_isDigit, cX12_isDigit, 1, (some FieldType.boolean), 1),
  (12, yX12_next, cX12_next, 4, (none), 1),
  (12, yX12_bad, cX12_bad, 2, (some FieldType.boolean), 2),
  (12, yX12_isWord, cX12_isWord, 3, (some FieldType.boolean), 2),
  (12, yX12_isSign, cX12_isSign, 2, (some FieldType.boolean), 2),
  (12, yX12_sign, cX12_sign, 2, (some FieldType.boolean), 2),
  (12, yX12_isName, cX12_isName, 3, (some FieldType.boolean), 1),
  (12, yX12_takes, cX12_takes, 3, (some FieldType.boolean), 3),
  (12, yX12_find, cX12_find, 4, (some FieldType.int), 3),
  (12, yX12_fresh, cX12_fresh, 2, (some FieldType.boolean), 2),
  (12, yX12_looksAt, cX12_looksAt, 3, (some FieldType.boolean), 3),
  (12, yX12_looksAtKind, cX12_looksAtKind, 1, (some FieldType.boolean), 1),
  (12, yX12_looksAtSoul, cX12_looksAtSoul, 1, (some FieldType.boolean), 1),
  (12, yX12_line, cX12_line, 3, (some FieldType.boolean), 1),
  (12, yX12_office, cX12_office, 2, (some FieldType.int), 1),
  (12, yX12_fault, cX12_fault, 1, (some FieldType.int), 1),
  (12, yX12_isKind, cX12_isKind, 2, (some FieldType.boolean), 2),
  (12, yX12_isSoul, cX12_isSoul, 2, (some FieldType.boolean), 2),
  (12, yX12_roomOf, cX12_roomOf, 4, (some FieldType.int), 2),
  (12, yX12_kind, cX12_kind, 5, (some FieldType.int), 3),
  (12, yX12_meets, cX12_meets, 3, (some FieldType.int), 3),
  (12, yX12_debtsOf, cX12_debtsOf, 4, (some FieldType.int), 2),
  (12, yX12_duesOf, cX12_duesOf, 4, (some FieldType.int), 2),
  (12, yX12_soul, cX12_soul, 3, (some FieldType.int), 3),
  (12, yX12_debt, cX12_debt, 3, (some FieldType.int), 3),
  (12, yX12_all, cX12_all, 3, (some FieldType.int), 1),
  (12, yX12_now, cX12_now, 5, (some FieldType.int), 2),
  (12, yX12_whyOf, cX12_whyOf, 3, (some FieldType.int), 3),
  (12, yX12_lives, cX12_lives, 3, (none), 3)]
def q_mt5 : List (Nat × MethodName × ByteArray × Nat × Option FieldType × Nat) := [(12, yX12_born, cX12_born, 3, (none), 3),
  (12, yX12_settles, cX12_settles, 6, (none), 3),
  (12, yX12_day, cX12_day, 3, (none), 1),
  (12, yX12_clerkOf, cX12_clerkOf, 4, (some FieldType.int), 2),
  (12, yX12_clerks, cX12_clerks, 3, (none), 1),
  (12, yX12_clerkDay, cX12_clerkDay, 1, (none), 1),
  (12, yX12_why, cX12_why, 3, (some FieldType.int), 3),
  (12, yX12_give, cX12_give, 4, (some FieldType.int), 3),
  (12, yX12_areDays, cX12_areDays, 2, (some FieldType.boolean), 2),
  (12, yX12_days, cX12_days, 3, (some FieldType.int), 2),
  (12, yX12_clerk, cX12_clerk, 3, (some FieldType.int), 2),
  (12, yX12_settled, cX12_settled, 3, (some FieldType.int), 3),
  (12, yX12_keep, cX12_keep, 2, (none), 1),
  (12, yX12_undo, cX12_undo, 2, (some FieldType.int), 1),
  (12, yX12_tries, cX12_tries, 2, (none), 1),
  (12, yX12_back, cX12_back, 2, (none), 1),
  (12, yX12_nextWay, cX12_nextWay, 3, (some FieldType.boolean), 2),
  (12, yX12_goes, cX12_goes, 3, (some FieldType.boolean), 2),
  (12, yX12_most, cX12_most, 7, (some FieldType.int), 2),
  (12, yX12_gives, cX12_gives, 2, (some FieldType.int), 2),
  (12, yX12_isHopeless, cX12_isHopeless, 5, (some FieldType.boolean), 3),
  (12, yX12_hopeless, cX12_hopeless, 5, (some FieldType.int), 2),
  (12, yX12_netOf, cX12_netOf, 2, (some FieldType.int), 2),
  (12, yX12_net, cX12_net, 2, (some FieldType.int), 2),
  (12, yX12_groupsAll, cX12_groupsAll, 4, (some FieldType.int), 2),
  (12, yX12_withNet, cX12_withNet, 3, (some FieldType.int), 1),
  (12, yX12_bits, cX12_bits, 3, (some FieldType.int), 1),
  (12, yX12_fewest, cX12_fewest, 2, (some FieldType.int), 1),
  (12, yX12_groups, cX12_groups, 1, (some FieldType.int), 1),
  (12, yX12_areSo, cX12_areSo, 6, (some FieldType.boolean), 4),
  (12, yX12_were, cX12_were, 7, (some FieldType.int), 3),
  (12, yX12_first, cX12_first, 2, (some FieldType.int), 2),
  (12, yX12_kindBy, cX12_kindBy, 4, (some FieldType.int), 3),
  (12, yX12_canBe, cX12_canBe, 6, (some FieldType.boolean), 4),
  (12, yX12_nextAppeal, cX12_nextAppeal, 3, (some FieldType.boolean), 2),
  (12, yX12_appealOf, cX12_appealOf, 7, (some FieldType.int), 3),
  (12, yX12_appeal, cX12_appeal, 3, (some FieldType.int), 3),
  (12, yX12_grant, cX12_grant, 4, (some FieldType.boolean), 3),
  (12, yX12_ends, cX12_ends, 3, (some FieldType.int), 1),
  (12, yX12_laterOf, cX12_laterOf, 3, (some FieldType.int), 2)]
def q_mt6 : List (Nat × MethodName × ByteArray × Nat × Option FieldType × Nat) := [(12, yX12_later, cX12_later, 2, (some FieldType.int), 2),
  (12, yX12_queue, cX12_queue, 4, (some FieldType.int), 2),
  (12, yX12_draw, cX12_draw, 2, (some FieldType.int), 2),
  (12, yX12_years, cX12_years, 7, (some FieldType.int), 3),
  (12, yX12_drawn, cX12_drawn, 3, (some FieldType.int), 3),
  (12, yX12_odds, cX12_odds, 6, (some FieldType.int), 3),
  (12, yX12_greatestOf, cX12_greatestOf, 3, (some FieldType.int), 3),
  (12, yX12_greatest, cX12_greatest, 4, (some FieldType.int), 2),
  (12, yX12_bookLine, cX12_bookLine, 2, (some FieldType.boolean), 1),
  (12, yX12_does, cX12_does, 4, (some FieldType.int), 2),
  (12, yX12_daybook, cX12_daybook, 5, (some FieldType.int), 2),
  (12, yX12_booked, cX12_booked, 2, (some FieldType.int), 2),
  (12, yX12_code, cX12_code, 4, (none), 4),
  (12, yX12_joins, cX12_joins, 2, (none), 2),
  (12, yX12_nots, cX12_nots, 1, (none), 1),
  (12, yX12_leafOf, cX12_leafOf, 1, (some FieldType.int), 1),
  (12, yX12_operand, cX12_operand, 5, (some FieldType.boolean), 1),
  (12, yX12_behind, cX12_behind, 1, (some FieldType.boolean), 1),
  (12, yX12_sentence, cX12_sentence, 3, (some FieldType.int), 1),
  (12, yX12_isLeaf, cX12_isLeaf, 6, (some FieldType.boolean), 5),
  (12, yX12_isSaid, cX12_isSaid, 5, (some FieldType.boolean), 2),
  (12, yX12_said, cX12_said, 4, (some FieldType.int), 2),
  (12, yX12_image, cX12_image, 3, (some FieldType.boolean), 2),
  (12, yX12_restore, cX12_restore, 3, (some FieldType.boolean), 2),
  (12, yX12_count, cX12_count, 2, (some FieldType.int), 2),
  (13, yL_soul, cL_soul, 5, (some FieldType.int), 4),
  (13, yL_net, cL_net, 4, (some FieldType.int), 3),
  (14, yJ6_bitCount_0f7a4, cJ6_bitCount_0f7a4, 1, (some FieldType.int), 1),
  (0, yX0_goOnWith, cX0_goOnWith, 4, (some FieldType.boolean), 4),
  (5, yX5_chooseAs, cX5_chooseAs, 4, (none), 4),
  (9, yX9_readNot, cX9_readNot, 2, (some FieldType.boolean), 2),
  (13, yL_law, cL_law, 7, (some .boolean), 1)]
def q_mtl : List (Nat × MethodName × ByteArray × Nat × Option FieldType × Nat) := q_mt0 ++ (q_mt1 ++ (q_mt2 ++ (q_mt3 ++ (q_mt4 ++ (q_mt5 ++ (q_mt6))))))
def q_mt (i : Nat) : Nat × MethodName × ByteArray × Nat × Option FieldType × Nat := q_mtl.getD i (0, objectInit, ⟨#[]⟩, 0, none, 0)
abbrev mO (i : Nat) : Nat := (q_mt i).1
abbrev mY (i : Nat) : MethodName := (q_mt i).2.1
abbrev mC (i : Nat) : ByteArray := (q_mt i).2.2.1
abbrev mL (i : Nat) : Nat := (q_mt i).2.2.2.1
abbrev mR (i : Nat) : Option FieldType := (q_mt i).2.2.2.2.1
abbrev mA (i : Nat) : Nat := (q_mt i).2.2.2.2.2
/-- the fields: class by class, 0 int, 1 boolean, 2 long, 3 a reference -/
def q_ftl : List (List Nat) := [[3, 3, 3, 3, 3, 0, 0], [3, 3, 0, 3, 3, 3, 1, 0, 0, 0, 0], [3, 0, 0], [3, 3, 3, 1], [3, 0, 0, 0, 3, 3, 3, 3, 3, 3, 3], [3, 3, 3, 0, 3, 3, 3, 3, 3, 0, 3], [3, 3, 3, 3, 3, 0], [3, 3], [0, 0, 0, 3, 3, 3, 3, 3, 3, 3, 3], [3, 3, 3, 3, 3, 3, 0, 1, 0], [3, 0, 3, 3, 3, 3, 3, 0, 0, 1, 0, 0, 0, 2, 0], [3, 3, 3, 3, 3, 3, 3, 3, 3, 3, 3, 3, 3, 3, 3], [0, 3, 0, 0, 0, 0, 3, 3, 3, 3, 3, 0, 0, 0, 0, 0, 0, 2, 0, 0, 1, 3, 3, 0, 3, 3, 3, 0, 3, 3, 3, 1, 3, 3, 0, 0, 0, 3, 1, 3, 0, 0, 0, 0, 1, 3, 3, 3, 3]]
def q_ft (ci k : Nat) : Nat := (q_ftl.getD ci []).getD k 9
def q_fnl : List (List Bool) := [[true, true, true, true, true, false, false], [true, true, false, true, true, true, false, false, false, false, false], [true, false, false], [true, true, true, false], [true, false, false, false, true, true, true, true, true, true, true], [true, true, true, false, true, true, true, true, true, false, true], [true, true, true, true, true, false], [true, true], [false, false, false, true, true, true, true, true, true, true, true], [true, true, true, true, true, true, false, false, false], [true, false, true, true, true, true, true, false, false, false, false, false, false, false, false], [true, true, true, true, true, true, true, true, true, true, true, true, true, true, true], [false, true, false, false, false, false, true, true, true, true, true, false, false, false, false, false, false, false, false, false, false, true, true, false, true, true, true, false, true, true, true, false, true, true, false, false, false, true, false, true, false, false, false, false, false, true, true, true, true]]
def q_fin (ci k : Nat) : Bool := (q_fnl.getD ci []).getD k true
def q_N (ci : Nat) : Nat := (q_ftl.getD ci []).length
def q_pl0 : List (Nat × Nat × Nat × Nat × Int) := [(3, 11, 0, 0, 0), (9, 0, 0, 2, 0), (15, 0, 0, 3, 0), (18, 0, 0, 4, 0), (21, 0, 0, 0, 0), (25, 0, 0, 1, 0), (29, 0, 4, 7, 0), (34, 1, 72, 0, 0), (40, 0, 4, 4, 0), (43, 0, 8, 0, 0), (47, 0, 4, 8, 0), (50, 1, 2, 0, 0), (54, 0, 8, 1, 0), (57, 0, 0, 5, 0), (60, 0, 0, 6, 0), (63, 0, 8, 6, 0), (66, 10, 0, 0, 0), (72, 1, 4, 0, 0), (75, 1, 268, 0, 0), (79, 1, 5, 0, 0), (82, 1, 31, 0, 0)]
def q_pl1 : List (Nat × Nat × Nat × Nat × Int) := [(3, 11, 0, 0, 0), (9, 0, 1, 3, 0), (15, 0, 1, 4, 0), (18, 0, 1, 5, 0), (21, 0, 1, 0, 0), (25, 0, 1, 1, 0), (29, 0, 1, 2, 0), (33, 1, 95, 0, 0), (39, 0, 10, 10, 0), (42, 1, 100, 0, 0), (46, 1, 9, 0, 0), (49, 1, 103, 0, 0), (53, 1, 101, 0, 0), (57, 0, 8, 4, 0), (63, 0, 8, 1, 0), (66, 1, 106, 0, 0), (70, 1, 99, 0, 0), (73, 1, 98, 0, 0), (76, 1, 104, 0, 0), (79, 0, 8, 3, 0), (82, 0, 8, 0, 0), (85, 1, 107, 0, 0), (88, 1, 105, 0, 0), (92, 0, 4, 2, 0), (97, 0, 1, 6, 0), (101, 0, 1, 7, 0), (104, 0, 1, 8, 0), (107, 1, 11, 0, 0), (111, 0, 1, 9, 0), (114, 1, 24, 0, 0), (118, 0, 1, 10, 0), (121, 1, 29, 0, 0), (124, 1, 30, 0, 0), (128, 1, 32, 0, 0), (131, 1, 33, 0, 0), (134, 1, 34, 0, 0)]
def q_pl2 : List (Nat × Nat × Nat × Nat × Int) := [(3, 11, 0, 0, 0), (9, 6, 4, 0, 0), (11, 0, 2, 0, 0), (17, 4, 19, 0, 0), (20, 0, 2, 1, 0), (24, 0, 2, 2, 0), (27, 1, 21, 0, 0), (31, 16, 0, 0, 0)]
def q_pl3 : List (Nat × Nat × Nat × Nat × Int) := [(1, 11, 0, 0, 0), (7, 6, 8, 0, 0), (9, 5, 69, 0, 0), (10, 0, 3, 0, 0), (16, 6, 4, 0, 0), (18, 4, 19, 0, 0), (21, 0, 3, 1, 0), (25, 6, 9, 0, 0), (27, 4, 79, 0, 0), (30, 0, 3, 2, 0), (34, 1, 78, 0, 0), (37, 1, 21, 0, 0), (40, 1, 81, 0, 0), (43, 0, 3, 3, 0)]
def q_pl4 : List (Nat × Nat × Nat × Nat × Int) := [(3, 11, 0, 0, 0), (9, 0, 4, 4, 0), (15, 0, 4, 5, 0), (18, 0, 4, 6, 0), (21, 0, 4, 7, 0), (24, 0, 4, 8, 0), (27, 0, 4, 9, 0), (30, 0, 4, 10, 0), (33, 0, 4, 0, 0), (37, 0, 4, 1, 0), (41, 0, 4, 2, 0), (44, 0, 4, 3, 0), (47, 0, 8, 6, 0), (52, 10, 0, 0, 0), (58, 0, 8, 10, 0), (61, 0, 8, 1, 0), (64, 3, 151, 0, 0), (68, 1, 72, 0, 0), (72, 1, 31, 0, 0), (76, 0, 8, 5, 0), (79, 1, 38, 0, 0), (82, 1, 36, 0, 0), (85, 0, 8, 0, 0), (88, 8, 0, 0, 1103515245), (89, 1, 29, 0, 0), (92, 1, 30, 0, 0), (95, 1, 37, 0, 0), (99, 0, 8, 9, 0), (102, 1, 39, 0, 0), (105, 1, 40, 0, 0), (108, 15, 0, 0, 0), (113, 0, 8, 7, 0), (116, 3, 152, 0, 0), (119, 16, 0, 0, 0), (122, 0, 8, 2, 0), (125, 8, 0, 0, 99999)]
def q_pl5 : List (Nat × Nat × Nat × Nat × Int) := [(3, 11, 0, 0, 0), (9, 0, 5, 2, 0), (15, 0, 5, 4, 0), (18, 0, 5, 5, 0), (21, 0, 5, 6, 0), (24, 0, 5, 7, 0), (27, 0, 5, 8, 0), (30, 0, 5, 10, 0), (33, 0, 5, 0, 0), (37, 0, 5, 1, 0), (41, 1, 42, 0, 0), (44, 0, 5, 3, 0), (48, 0, 8, 1, 0), (53, 0, 4, 4, 0), (58, 0, 4, 8, 0), (59, 10, 0, 0, 0), (65, 1, 46, 0, 0), (69, 0, 5, 9, 0), (72, 1, 45, 0, 0), (76, 1, 52, 0, 0), (80, 0, 4, 5, 0), (83, 16, 0, 0, 0), (89, 0, 8, 7, 0), (92, 3, 152, 0, 0), (95, 1, 50, 0, 0), (99, 1, 47, 0, 0), (102, 1, 48, 0, 0), (106, 0, 8, 0, 0), (109, 0, 8, 5, 0), (112, 15, 0, 0, 0), (115, 2, 49, 0, 0), (118, 0, 4, 9, 0), (121, 3, 151, 0, 0), (124, 1, 51, 0, 0), (127, 0, 8, 2, 0), (130, 8, 0, 0, 99999), (131, 1, 54, 0, 0), (134, 1, 269, 0, 0), (138, 1, 72, 0, 0), (142, 1, 53, 0, 0)]
def q_pl6 : List (Nat × Nat × Nat × Nat × Int) := [(3, 11, 0, 0, 0), (9, 0, 6, 2, 0), (15, 0, 6, 3, 0), (18, 0, 6, 4, 0), (21, 0, 6, 0, 0), (25, 0, 6, 1, 0), (29, 1, 57, 0, 0), (32, 0, 6, 5, 0), (36, 15, 0, 0, 0), (42, 0, 8, 1, 0), (47, 1, 23, 0, 0), (53, 1, 22, 0, 0)]
def q_pl7 : List (Nat × Nat × Nat × Nat × Int) := [(3, 11, 0, 0, 0), (9, 0, 7, 0, 0), (15, 0, 7, 1, 0), (19, 1, 74, 0, 0), (24, 1, 95, 0, 0), (30, 0, 10, 10, 0), (34, 1, 100, 0, 0), (38, 1, 75, 0, 0), (41, 1, 60, 0, 0), (44, 1, 103, 0, 0), (48, 1, 99, 0, 0), (52, 0, 10, 12, 0), (55, 1, 61, 0, 0), (58, 1, 62, 0, 0), (61, 1, 63, 0, 0), (64, 1, 64, 0, 0), (67, 1, 65, 0, 0), (70, 1, 66, 0, 0), (73, 1, 67, 0, 0), (76, 0, 8, 0, 0), (79, 1, 98, 0, 0), (82, 0, 10, 13, 0), (86, 1, 68, 0, 0), (89, 1, 105, 0, 0), (93, 1, 76, 0, 0), (97, 0, 8, 3, 0), (101, 1, 107, 0, 0), (105, 1, 106, 0, 0), (108, 0, 8, 7, 0), (112, 3, 152, 0, 0), (115, 0, 8, 1, 0), (118, 1, 77, 0, 0), (122, 0, 8, 4, 0), (125, 0, 8, 8, 0), (128, 1, 72, 0, 0), (132, 1, 102, 0, 0), (135, 0, 8, 9, 0), (138, 0, 8, 10, 0), (141, 3, 151, 0, 0), (144, 0, 8, 2, 0), (147, 2, 108, 0, 0)]
def q_pl8 : List (Nat × Nat × Nat × Nat × Int) := [(3, 11, 0, 0, 0), (9, 0, 8, 3, 0), (15, 0, 8, 4, 0), (18, 0, 8, 5, 0), (22, 0, 8, 6, 0), (25, 0, 8, 7, 0), (28, 0, 8, 8, 0), (31, 0, 8, 9, 0), (34, 0, 8, 10, 0), (37, 0, 8, 0, 0), (41, 0, 8, 1, 0), (44, 1, 72, 0, 0), (48, 3, 152, 0, 0), (52, 0, 8, 2, 0), (55, 15, 0, 0, 0), (60, 10, 0, 0, 0)]
def q_pl9 : List (Nat × Nat × Nat × Nat × Int) := [(3, 11, 0, 0, 0), (11, 0, 9, 2, 0), (15, 0, 9, 3, 0), (18, 0, 9, 4, 0), (21, 0, 9, 5, 0), (24, 0, 9, 0, 0), (28, 0, 9, 1, 0), (32, 0, 9, 7, 0), (36, 0, 9, 8, 0), (40, 0, 9, 6, 0), (43, 10, 0, 0, 0), (49, 1, 80, 0, 0), (52, 1, 95, 0, 0), (58, 1, 83, 0, 0), (62, 1, 100, 0, 0), (66, 1, 84, 0, 0), (69, 1, 101, 0, 0), (72, 1, 98, 0, 0), (75, 1, 88, 0, 0), (79, 1, 85, 0, 0), (82, 1, 102, 0, 0), (86, 0, 10, 10, 0), (89, 0, 10, 12, 0), (91, 1, 99, 0, 0), (94, 1, 103, 0, 0), (97, 1, 270, 0, 0), (100, 0, 8, 3, 0), (106, 0, 8, 0, 0), (109, 1, 86, 0, 0), (113, 0, 8, 4, 0), (116, 0, 8, 1, 0), (119, 1, 87, 0, 0), (122, 1, 106, 0, 0), (126, 1, 105, 0, 0), (130, 1, 90, 0, 0), (134, 1, 91, 0, 0), (138, 0, 4, 4, 0), (143, 0, 4, 9, 0), (146, 3, 151, 0, 0), (149, 1, 22, 0, 0), (153, 1, 92, 0, 0), (157, 1, 23, 0, 0), (160, 0, 4, 6, 0), (163, 0, 4, 5, 0)]
def q_pl10 : List (Nat × Nat × Nat × Nat × Int) := [(3, 11, 0, 0, 0), (9, 0, 10, 0, 0), (15, 12, 0, 0, 0), (19, 0, 10, 2, 0), (23, 0, 10, 3, 0), (26, 0, 10, 4, 0), (29, 0, 10, 5, 0), (32, 0, 10, 6, 0), (35, 0, 10, 1, 0), (39, 0, 10, 14, 0), (42, 0, 10, 9, 0), (46, 0, 10, 7, 0), (49, 3, 153, 0, 0), (53, 3, 154, 0, 0), (56, 1, 96, 0, 0), (60, 3, 155, 0, 0), (63, 1, 97, 0, 0), (67, 0, 10, 8, 0), (70, 1, 98, 0, 0), (73, 3, 156, 0, 0), (77, 2, 108, 0, 0), (81, 0, 10, 10, 0), (84, 0, 10, 11, 0), (87, 0, 10, 12, 0), (90, 0, 10, 13, 0), (94, 1, 99, 0, 0), (97, 1, 102, 0, 0), (101, 1, 101, 0, 0), (104, 1, 106, 0, 0)]
def q_pl11 : List (Nat × Nat × Nat × Nat × Int) := [(1, 11, 0, 0, 0), (7, 6, 10, 0, 0), (9, 5, 93, 0, 0), (10, 6, 8, 0, 0), (12, 5, 69, 0, 0), (13, 6, 4, 0, 0), (15, 4, 19, 0, 0), (18, 1, 20, 0, 0), (21, 0, 11, 0, 0), (27, 0, 11, 1, 0), (31, 0, 11, 2, 0), (34, 0, 11, 3, 0), (38, 0, 11, 4, 0), (41, 6, 9, 0, 0), (43, 4, 79, 0, 0), (46, 0, 11, 5, 0), (50, 0, 11, 6, 0), (53, 6, 2, 0, 0), (55, 4, 12, 0, 0), (56, 0, 11, 7, 0), (60, 6, 7, 0, 0), (62, 4, 58, 0, 0), (63, 0, 11, 9, 0), (67, 6, 1, 0, 0), (69, 4, 7, 0, 0), (70, 0, 11, 10, 0), (74, 6, 5, 0, 0), (76, 4, 41, 0, 0), (79, 0, 11, 11, 0), (83, 6, 0, 0, 0), (85, 4, 0, 0, 0), (86, 0, 11, 12, 0), (90, 6, 6, 0, 0), (92, 4, 55, 0, 0), (93, 0, 11, 13, 0), (97, 6, 3, 0, 0), (99, 4, 16, 0, 0), (100, 0, 11, 8, 0), (104, 0, 11, 14, 0), (108, 0, 10, 1, 0), (112, 1, 94, 0, 0), (116, 1, 59, 0, 0), (120, 0, 10, 11, 0), (123, 1, 78, 0, 0), (126, 1, 80, 0, 0), (129, 1, 13, 0, 0), (130, 0, 10, 14, 0), (133, 1, 8, 0, 0), (136, 1, 21, 0, 0), (139, 1, 10, 0, 0), (142, 0, 1, 8, 0), (145, 1, 14, 0, 0), (148, 0, 1, 7, 0), (151, 0, 1, 6, 0), (155, 0, 1, 9, 0), (158, 0, 1, 10, 0), (161, 1, 82, 0, 0), (164, 1, 81, 0, 0), (167, 0, 9, 8, 0), (170, 0, 9, 7, 0), (171, 1, 89, 0, 0), (175, 2, 267, 0, 0), (181, 0, 8, 1, 0), (184, 0, 8, 0, 0), (187, 0, 8, 2, 0), (190, 1, 70, 0, 0), (194, 0, 8, 5, 0), (197, 0, 8, 6, 0), (200, 0, 4, 8, 0), (203, 1, 28, 0, 0), (206, 0, 8, 7, 0), (209, 2, 152, 0, 0), (213, 1, 71, 0, 0), (216, 17, 0, 0, 0), (219, 0, 4, 4, 0), (222, 0, 4, 5, 0), (225, 0, 4, 6, 0), (228, 0, 8, 8, 0), (231, 0, 8, 9, 0), (234, 1, 22, 0, 0), (237, 1, 23, 0, 0), (240, 0, 4, 7, 0), (243, 0, 4, 9, 0), (246, 2, 151, 0, 0), (249, 0, 4, 1, 0), (252, 1, 24, 0, 0), (255, 0, 4, 2, 0), (258, 0, 4, 3, 0), (261, 1, 26, 0, 0), (264, 1, 27, 0, 0), (267, 1, 25, 0, 0), (270, 0, 4, 10, 0), (273, 16, 0, 0, 0), (278, 15, 0, 0, 0), (281, 1, 29, 0, 0), (284, 1, 30, 0, 0), (288, 1, 32, 0, 0), (291, 1, 33, 0, 0), (294, 1, 34, 0, 0), (297, 1, 35, 0, 0), (300, 1, 1, 0, 0), (303, 1, 131, 0, 0), (306, 1, 3, 0, 0), (310, 1, 6, 0, 0), (313, 1, 15, 0, 0), (316, 1, 17, 0, 0), (319, 0, 3, 3, 0), (322, 1, 18, 0, 0), (325, 1, 44, 0, 0), (328, 1, 43, 0, 0), (331, 1, 73, 0, 0), (335, 1, 56, 0, 0), (338, 0, 6, 5, 0), (341, 1, 148, 0, 0), (344, 1, 36, 0, 0), (347, 1, 72, 0, 0), (350, 1, 149, 0, 0), (353, 1, 150, 0, 0), (357, 0, 10, 0, 0), (360, 9, 0, 0, 32), (372, 2, 156, 0, 0)]
def q_pl12 : List (Nat × Nat × Nat × Nat × Int) := [(1, 0, 12, 0, 0), (7, 0, 12, 2, 0), (10, 1, 161, 0, 0), (14, 0, 12, 1, 0), (18, 0, 12, 3, 0), (21, 0, 12, 4, 0), (24, 0, 12, 5, 0), (27, 11, 0, 0, 0), (33, 0, 12, 6, 0), (37, 0, 12, 7, 0), (40, 0, 12, 8, 0), (43, 0, 12, 9, 0), (47, 0, 12, 10, 0), (50, 0, 12, 21, 0), (53, 0, 12, 22, 0), (56, 0, 12, 24, 0), (59, 0, 12, 25, 0), (62, 0, 12, 26, 0), (65, 0, 12, 27, 0), (68, 0, 12, 28, 0), (71, 0, 12, 29, 0), (74, 0, 12, 30, 0), (77, 0, 12, 32, 0), (80, 0, 12, 33, 0), (83, 0, 12, 37, 0), (86, 0, 12, 39, 0), (89, 0, 12, 45, 0), (93, 0, 12, 46, 0), (96, 0, 12, 47, 0), (99, 0, 12, 48, 0), (102, 9, 0, 0, 1802071652), (104, 9, 0, 0, 469852583027), (106, 9, 0, 0, 1936684396), (108, 9, 0, 0, 1869507705), (110, 9, 0, 0, 2003399528), (112, 9, 0, 0, 1684365940), (114, 9, 0, 0, 444301539187), (116, 9, 0, 0, 24947), (118, 9, 0, 0, 6578553), (120, 9, 0, 0, 427020350059), (122, 9, 0, 0, 28530), (124, 9, 0, 0, 6385252), (126, 9, 0, 0, 7237492), (128, 9, 0, 0, 512735409267), (130, 9, 0, 0, 1870095731), (132, 9, 0, 0, 431197680755), (134, 9, 0, 0, 1685415283), (136, 9, 0, 0, 108205031319667), (138, 9, 0, 0, 1818584692), (140, 9, 0, 0, 482854658917), (142, 1, 169, 0, 0), (146, 0, 12, 12, 0), (149, 0, 12, 13, 0), (152, 0, 12, 11, 0), (155, 2, 170, 0, 0), (159, 2, 171, 0, 0), (162, 0, 12, 14, 0), (165, 0, 12, 17, 0), (169, 0, 12, 15, 0), (172, 0, 12, 16, 0), (175, 1, 175, 0, 0), (178, 1, 173, 0, 0), (181, 1, 172, 0, 0), (184, 2, 164, 0, 0), (188, 0, 12, 18, 0), (191, 1, 177, 0, 0), (195, 1, 179, 0, 0), (199, 1, 181, 0, 0), (203, 1, 174, 0, 0), (207, 1, 180, 0, 0), (210, 1, 178, 0, 0), (213, 1, 182, 0, 0), (216, 1, 183, 0, 0), (219, 2, 165, 0, 0), (222, 0, 12, 20, 0), (226, 1, 163, 0, 0), (229, 0, 12, 19, 0), (232, 1, 184, 0, 0), (235, 1, 176, 0, 0), (238, 0, 12, 23, 0), (241, 1, 187, 0, 0), (244, 1, 189, 0, 0), (248, 1, 188, 0, 0), (251, 1, 159, 0, 0), (255, 1, 192, 0, 0), (258, 1, 193, 0, 0), (261, 1, 196, 0, 0), (264, 1, 199, 0, 0), (268, 2, 166, 0, 0), (271, 1, 201, 0, 0), (274, 8, 0, 0, 99999), (275, 1, 198, 0, 0), (278, 1, 203, 0, 0), (281, 1, 200, 0, 0), (284, 1, 204, 0, 0), (287, 1, 202, 0, 0), (290, 1, 212, 0, 0), (293, 1, 208, 0, 0), (296, 1, 205, 0, 0), (299, 1, 214, 0, 0), (302, 1, 217, 0, 0), (305, 1, 215, 0, 0), (308, 1, 216, 0, 0), (311, 1, 220, 0, 0), (314, 1, 222, 0, 0), (317, 1, 225, 0, 0), (320, 2, 226, 0, 0), (323, 1, 224, 0, 0), (326, 1, 167, 0, 0), (329, 1, 229, 0, 0), (332, 0, 12, 31, 0), (335, 0, 12, 34, 0), (338, 1, 232, 0, 0), (341, 1, 233, 0, 0), (344, 1, 234, 0, 0), (347, 1, 235, 0, 0), (350, 1, 239, 0, 0), (353, 0, 12, 35, 0), (356, 8, 0, 0, 1103515245), (357, 1, 242, 0, 0), (360, 1, 243, 0, 0), (363, 1, 246, 0, 0), (366, 0, 12, 36, 0), (369, 1, 248, 0, 0), (372, 1, 249, 0, 0), (375, 0, 12, 38, 0), (378, 0, 12, 40, 0), (381, 0, 12, 42, 0), (384, 1, 252, 0, 0), (388, 0, 12, 43, 0), (391, 1, 255, 0, 0), (394, 0, 12, 41, 0), (397, 0, 12, 44, 0), (400, 1, 254, 0, 0), (403, 1, 253, 0, 0), (406, 1, 257, 0, 0), (409, 1, 256, 0, 0), (412, 1, 259, 0, 0), (416, 1, 260, 0, 0)]
def q_pl13 : List (Nat × Nat × Nat × Nat × Int) := [(7, 1, 121, 0, 0), (8, 6, 11, 0, 0), (13, 17, 0, 0, 0), (15, 1, 139, 0, 0), (19, 4, 109, 0, 0), (20, 6, 12, 0, 0), (22, 4, 168, 0, 0), (23, 1, 110, 0, 0), (27, 1, 160, 0, 0), (28, 1, 111, 0, 0), (32, 1, 162, 0, 0), (33, 1, 112, 0, 0), (37, 1, 185, 0, 0), (38, 1, 113, 0, 0), (41, 1, 186, 0, 0), (42, 1, 119, 0, 0), (45, 1, 190, 0, 0), (46, 1, 120, 0, 0), (49, 1, 191, 0, 0), (50, 13, 121, 0, 0), (55, 1, 194, 0, 0), (56, 1, 158, 0, 0), (59, 1, 122, 0, 0), (62, 1, 195, 0, 0), (63, 1, 123, 0, 0), (66, 1, 197, 0, 0), (67, 1, 126, 0, 0), (70, 1, 206, 0, 0), (71, 1, 127, 0, 0), (74, 1, 207, 0, 0), (75, 1, 128, 0, 0), (78, 1, 209, 0, 0), (79, 1, 129, 0, 0), (82, 1, 210, 0, 0), (83, 1, 124, 0, 0), (86, 1, 211, 0, 0), (87, 1, 133, 0, 0), (90, 1, 213, 0, 0), (91, 1, 136, 0, 0), (94, 1, 218, 0, 0), (95, 1, 137, 0, 0), (98, 1, 219, 0, 0), (99, 1, 138, 0, 0), (102, 1, 221, 0, 0), (103, 14, 139, 0, 0), (106, 1, 223, 0, 0), (107, 1, 140, 0, 0), (110, 1, 227, 0, 0), (111, 1, 141, 0, 0), (114, 1, 228, 0, 0), (115, 1, 142, 0, 0), (118, 1, 230, 0, 0), (119, 1, 143, 0, 0), (122, 1, 231, 0, 0), (123, 1, 131, 0, 0), (126, 1, 236, 0, 0), (127, 1, 132, 0, 0), (131, 1, 237, 0, 0), (132, 1, 144, 0, 0), (135, 1, 238, 0, 0), (136, 1, 145, 0, 0), (139, 1, 240, 0, 0), (140, 1, 146, 0, 0), (143, 1, 241, 0, 0), (144, 1, 130, 0, 0), (147, 1, 244, 0, 0), (148, 1, 147, 0, 0), (151, 1, 245, 0, 0), (152, 1, 125, 0, 0), (155, 1, 247, 0, 0), (156, 1, 114, 0, 0), (159, 1, 250, 0, 0), (160, 1, 115, 0, 0), (163, 1, 251, 0, 0), (164, 1, 116, 0, 0), (167, 1, 258, 0, 0), (168, 1, 117, 0, 0), (171, 1, 261, 0, 0), (172, 1, 134, 0, 0), (175, 1, 262, 0, 0), (176, 1, 135, 0, 0), (179, 1, 263, 0, 0), (180, 1, 118, 0, 0), (183, 1, 264, 0, 0)]
def q_pl14 : List (Nat × Nat × Nat × Nat × Int) := [(265, 8, 0, 0, 1431655765), (266, 8, 0, 0, 858993459), (267, 8, 0, 0, 252645135)]
def q_pll : List (List (Nat × Nat × Nat × Nat × Int)) := [q_pl0, q_pl1, q_pl2, q_pl3, q_pl4, q_pl5, q_pl6, q_pl7, q_pl8, q_pl9, q_pl10, q_pl11, q_pl12, q_pl13, q_pl14]
def q_lk (i : Nat) : List (Nat × Nat × Nat × Nat × Int) → Option (Nat × Nat × Nat × Int)
  | [] => none
  | q :: l => if q.1 = i then some q.2 else q_lk i l
def pl (o i : Nat) : Option (Nat × Nat × Nat × Int) := q_lk i (q_pll.getD o [])
def q_law : Nat := 271
/-! values and heaps of the evaluator: int, long, reference (0: null; q_S: the script) -/
abbrev AV : Type := Int ⊕ (Int ⊕ Nat)
abbrev aI (x : Int) : AV := .inl x
abbrev aL (x : Int) : AV := .inr (.inl x)
abbrev aR (r : Nat) : AV := .inr (.inr r)
abbrev q_S : Nat := 1000000
/-- how many objects, slots used, kinds and lengths, references held, the script -/
abbrev GG : Type := Nat × Nat × (Nat → Nat × Nat) × (Nat → Nat → Nat) × Nat × (Nat → Int32)
abbrev CC : Type := Nat → Int → Int
abbrev HH : Type := GG × CC
abbrev LV : Type := List (Option AV)
abbrev OO : Type := Option AV ⊕ (Nat × LV)
def q_in (x : Int) : Bool := decide (-2147483648 ≤ x) && decide (x < 2147483648)
def q_in8 (x : Int) : Bool := decide (-9223372036854775808 ≤ x) && decide (x < 9223372036854775808)
def q_u1 (f : Int → Int) (i v : Int) : Int → Int := fun j => if j = i then v else f j
def q_uf (c : CC) (r : Nat) (f : Int → Int) : CC := fun r' => if r' = r then f else c r'
def q_up (c : CC) (r : Nat) (i v : Int) : CC := q_uf c r (q_u1 (c r) i v)
def q_ur (rf : Nat → Nat → Nat) (r k v : Nat) : Nat → Nat → Nat := fun r' k' => if r' = r ∧ k' = k then v else rf r' k'
def q_cp (f g : Int → Int) (sp dp n : Int) : Int → Int := fun j => if dp ≤ j ∧ j < dp + n then f (sp + (j - dp)) else g j
abbrev gN (h : HH) : Nat := h.1.1
abbrev gU (h : HH) : Nat := h.1.2.1
abbrev gS (h : HH) (r : Nat) : Nat × Nat := h.1.2.2.1 r
abbrev gF (h : HH) (r k : Nat) : Nat := h.1.2.2.2.1 r k
abbrev gX (h : HH) : Nat := (h.2 0 0).toNat
def q_ok (h : HH) (r k : Nat) : Bool := decide (1 ≤ r) && decide (r ≤ gN h) && decide (r < 3000) && decide ((gS h r).1 = k)
def q_ix (h : HH) (r : Nat) (i : Int) : Bool := decide (0 ≤ i) && decide (i < ((gS h r).2 : Int)) && decide (i < 3000)
def q_sc (h : HH) (c : CC) : HH := (h.1, c)
def q_sf (h : HH) (rf : Nat → Nat → Nat) : HH := ((h.1.1, h.1.2.1, h.1.2.2.1, rf, h.1.2.2.2.2), h.2)
/-- a new object or array of a kind, by so many slots, all 0 -/
def q_nw (h : HH) (k n : Nat) (f : Int → Int) : HH :=
  ((h.1.1 + 1, h.1.2.1 + n, (fun r => if r = h.1.1 + 1 then (k, n) else h.1.2.2.1 r), (fun r i => if r = h.1.1 + 1 then 0 else h.1.2.2.2.1 r i), h.1.2.2.2.2), q_uf h.2 (h.1.1 + 1) f)
def q_new (h : HH) (k n : Nat) (f : Int → Int) : Option (Nat × HH) :=
  if h.1.1 < 2000 ∧ n ≤ 2000 ∧ h.2 0 0 = 0 then some (h.1.1 + 1, q_nw h k n f) else none
def q_shl (x k : Int) : Int := (Int32.ofInt x <<< (Int32.ofInt k &&& 31)).toInt
def q_shr (x k : Int) : Int := (Int32.ofInt x >>> (Int32.ofInt k &&& 31)).toInt
def q_ush (x k : Int) : Int := ((Int32.ofInt x).toUInt32 >>> ((Int32.ofInt k).toUInt32 &&& Int32.toUInt32 31)).toInt32.toInt
def q_and (x y : Int) : Int := (Int32.ofInt x &&& Int32.ofInt y).toInt
def q_or (x y : Int) : Int := (Int32.ofInt x ||| Int32.ofInt y).toInt
def q_xor (x y : Int) : Int := (Int32.ofInt x ^^^ Int32.ofInt y).toInt
def q_rem (x y : Int) : Int := (Int32.ofInt x - Int32.ofInt x / Int32.ofInt y * Int32.ofInt y).toInt
def q_i2b (x : Int) : Int := (Int32.ofInt x).toInt8.toInt32.toInt
def q_nar (k : Nat) (x : Int) : Int := (vp_nar (if k = 22 then .byte else .boolean) (Int32.ofInt x)).toInt
def q_lshl (x k : Int) : Int := (Int64.ofInt x <<< ((Int32.ofInt k).toInt64 &&& 63)).toInt
def q_lor (x y : Int) : Int := (Int64.ofInt x ||| Int64.ofInt y).toInt
def q_cmp (c : ClassFile.Cond) (x y : Int) : Bool := match c with
  | .eq => decide (x = y) | .ne => decide (¬ x = y) | .lt => decide (x < y) | .ge => decide (y ≤ x) | .gt => decide (y < x) | .le => decide (x ≤ y)
def q_tgt (pc : Nat) (off : Int) : Option Nat := if 0 ≤ (pc : Int) + off then some ((pc : Int) + off).toNat else none
def q_cat (v : AV) : Nat := match v with | .inr (.inl _) => 2 | _ => 1
def q_csum : List AV → Nat | [] => 0 | v :: l => q_cat v + q_csum l
/-! locals -/
def lg (L : LV) (k : Nat) : Option AV := match L[k]? with | some (some v) => some v | _ => none
def q_clob (L : LV) (i : Nat) : LV := match i with
  | 0 => L
  | j + 1 => match lg L j with | some (.inr (.inl _)) => L.set j none | _ => L
def lput (L : LV) (i : Nat) (v : AV) : Option LV :=
  if q_cat v = 1 then (if i < L.length then some ((q_clob L i).set i (some v)) else none)
  else (if i + 1 < L.length then some (((q_clob L i).set i (some v)).set (i + 1) none) else none)
def q_lint (L : LV) (k : Nat) (st : List AV) : Option (LV × List AV) := match lg L k with | some (.inl x) => some (L, aI x :: st) | _ => none
def q_llong (L : LV) (k : Nat) (st : List AV) : Option (LV × List AV) := match lg L k with | some (.inr (.inl x)) => some (L, aL x :: st) | _ => none
def q_lref (L : LV) (k : Nat) (st : List AV) : Option (LV × List AV) := match lg L k with | some (.inr (.inr r)) => if r = 0 then none else some (L, aR r :: st) | _ => none
def q_sint (L : LV) (k : Nat) (st : List AV) : Option (LV × List AV) := match st with | .inl x :: st => (lput L k (aI x)).map (fun L => (L, st)) | _ => none
def q_slong (L : LV) (k : Nat) (st : List AV) : Option (LV × List AV) := match st with | .inr (.inl x) :: st => (lput L k (aL x)).map (fun L => (L, st)) | _ => none
def q_sref (L : LV) (k : Nat) (st : List AV) : Option (LV × List AV) := match st with | .inr (.inr r) :: st => if r = 0 then none else (lput L k (aR r)).map (fun L => (L, st)) | _ => none
/-- instructions that touch the locals and the stack alone -/
def stL (ins : Instr) (L : LV) (st : List AV) : Option (LV × List AV) := match ins with
  | .iload k => q_lint L k st
  | .iload_n k => q_lint L k st
  | .lload k => q_llong L k st
  | .lload_n k => q_llong L k st
  | .aload k => q_lref L k st
  | .aload_n k => q_lref L k st
  | .istore k => q_sint L k st
  | .istore_n k => q_sint L k st
  | .lstore k => q_slong L k st
  | .lstore_n k => q_slong L k st
  | .astore k => q_sref L k st
  | .astore_n k => q_sref L k st
  | .iinc k x => match lg L k with | some (.inl y) => (lput L k (aI (y + x))).map (fun L => (L, st)) | _ => none
  | _ => none
/-- instructions that touch the stack alone -/
def stP (ins : Instr) (st : List AV) : Option (List AV) := match ins, st with
  | .iconst x, st => some (aI x :: st)
  | .bipush x, st => some (aI (Int8.ofInt x).toInt :: st)
  | .sipush x, st => some (aI (Int16.ofInt x).toInt :: st)
  | .lconst k, st => some (aL (k.val : Int) :: st)
  | .dup, v :: st => if q_cat v = 1 then some (v :: v :: st) else none
  | .dup2, v :: w :: st => if q_cat v = 1 ∧ q_cat w = 1 then some (v :: w :: v :: w :: st) else none
  | .pop, v :: st => if q_cat v = 1 then some st else none
  | .iadd, .inl y :: .inl x :: st => some (aI (x + y) :: st)
  | .isub, .inl y :: .inl x :: st => some (aI (x - y) :: st)
  | .imul, .inl y :: .inl x :: st => some (aI (x * y) :: st)
  | .irem, .inl y :: .inl x :: st => if Int32.ofInt y = 0 then none else some (aI (q_rem x y) :: st)
  | .iand, .inl y :: .inl x :: st => some (aI (q_and x y) :: st)
  | .ior, .inl y :: .inl x :: st => some (aI (q_or x y) :: st)
  | .ixor, .inl y :: .inl x :: st => some (aI (q_xor x y) :: st)
  | .ishl, .inl y :: .inl x :: st => some (aI (q_shl x y) :: st)
  | .ishr, .inl y :: .inl x :: st => some (aI (q_shr x y) :: st)
  | .iushr, .inl y :: .inl x :: st => some (aI (q_ush x y) :: st)
  | .i2l, .inl x :: st => if q_in x then some (aL x :: st) else none
  | .i2b, .inl x :: st => some (aI (q_i2b x) :: st)
  | .ladd, .inr (.inl y) :: .inr (.inl x) :: st => some (aL (x + y) :: st)
  | .lmul, .inr (.inl y) :: .inr (.inl x) :: st => some (aL (x * y) :: st)
  | .lor, .inr (.inl y) :: .inr (.inl x) :: st => some (aL (q_lor x y) :: st)
  | .lshl, .inl k :: .inr (.inl x) :: st => some (aL (q_lshl x k) :: st)
  | .lcmp, .inr (.inl y) :: .inr (.inl x) :: st => if q_in8 x && q_in8 y then some (aI (if x < y then -1 else if x = y then 0 else 1) :: st) else none
  | _, _ => none
/-- jumps -/
def stJ (ins : Instr) (pc : Nat) (st : List AV) : Option (Nat × List AV) := match ins, st with
  | .goto off, st => (q_tgt pc off).map (fun t => (t, st))
  | .if_icmp c off, .inl y :: .inl x :: st => if q_in x && q_in y then (q_tgt pc off).map (fun t => (if q_cmp c x y = true then t else pc + 3, st)) else none
  | .ifCond c off, .inl x :: st => if q_in x then (q_tgt pc off).map (fun t => (if q_cmp c x 0 = true then t else pc + 3, st)) else none
  | .ifnull _, .inr (.inr r) :: st => if r = 0 then none else some (pc + 3, st)
  | .ifnonnull off, .inr (.inr r) :: st => if r = 0 then none else (q_tgt pc off).map (fun t => (t, st))
  | .tableswitch dflt lo hi offs, .inl x :: st =>
    if q_in x then (if x < lo ∨ hi < x then (q_tgt pc dflt).map (fun t => (t, st)) else match offs[(x - lo).toNat]? with | some off => (q_tgt pc off).map (fun t => (t, st)) | none => none) else none
  | _, _ => none
def q_get (mi i r : Nat) (st : List AV) (h : HH) : Option (List AV × HH) := match pl (mO mi) i with
  | some (t, ci, k, _) => if t = 0 ∧ k < q_N ci ∧ q_ok h r ci = true then some ((if q_ft ci k = 3 then aR (gF h r k) else if q_ft ci k = 2 then aL (h.2 r k) else aI (h.2 r k)) :: st, h) else none
  | none => none
def q_put (mi i : Nat) (v : AV) (r : Nat) (st : List AV) (h : HH) : Option (List AV × HH) := match pl (mO mi) i with
  | some (t, ci, k, _) => if t = 0 ∧ k < q_N ci ∧ q_ok h r ci = true ∧ (q_fin ci k = false ∨ ((mY mi).name = "<init>" ∧ mO mi = ci)) then (match v with
      | .inl x => if q_ft ci k = 0 ∨ (q_ft ci k = 1 ∧ (x = 0 ∨ x = 1)) then some (st, q_sc h (q_up h.2 r k x)) else none
      | .inr (.inl x) => if q_ft ci k = 2 then some (st, q_sc h (q_up h.2 r k x)) else none
      | .inr (.inr x) => if q_ft ci k = 3 then some (st, q_sf h (q_ur h.1.2.2.2.1 r k x)) else none) else none
  | none => none
def q_ac (st : List AV) (h : HH) : Option (List AV × HH) := match st with
  | .inl n :: .inl dp :: .inr (.inr d) :: .inl sp :: .inr (.inr a) :: st =>
    if ((q_ok h a 20 = true ∧ q_ok h d 20 = true) ∨ (q_ok h a 21 = true ∧ q_ok h d 21 = true)) ∧ 0 ≤ n ∧ 0 ≤ dp ∧ 0 ≤ sp ∧ sp + n ≤ ((gS h a).2 : Int) ∧ dp + n ≤ ((gS h d).2 : Int) ∧ n < 3000 ∧ sp < 3000 ∧ dp < 3000 ∧ q_csum st ≤ 20
    then some (st, q_sc h (q_uf h.2 d (q_cp (h.2 a) (h.2 d) sp dp n))) else none
  | _ => none
def q_keyc : List Int := [370116, 13801107, 638636, 506265, 763496, 136276, 7945971, 51, 4153, 3544651, 498, 1476, 14836, 24159891, 515251, 4360851, 152755, 77156627, 398548, 17171557]
def q_keys : Int → Int := fun i => if 0 ≤ i then q_keyc.getD i.toNat 0 else 0
/-- instructions that touch the heap -/
def stH (mi : Nat) (ins : Instr) (st : List AV) (h : HH) : Option (List AV × HH) := match ins, st with
  | .getfield i, .inr (.inr r) :: st => q_get mi i r st h
  | .putfield i, v :: .inr (.inr r) :: st => q_put mi i v r st h
  | .iaload, .inl i :: .inr (.inr r) :: st =>
    if r = q_S then (if mi = q_law ∧ 0 ≤ i ∧ i < (h.1.2.2.2.2.1 : Int) then some (aI (h.1.2.2.2.2.2 i.toNat).toInt :: st, h) else none)
    else if q_ok h r 20 && q_ix h r i then some (aI (h.2 r i) :: st, h) else none
  | .laload, .inl i :: .inr (.inr r) :: st => if q_ok h r 21 && q_ix h r i then some (aL (h.2 r i) :: st, h) else none
  | .baload, .inl i :: .inr (.inr r) :: st => if (q_ok h r 22 || q_ok h r 23) && q_ix h r i then some (aI (h.2 r i) :: st, h) else none
  | .aaload, .inl i :: .inr (.inr r) :: st => if (q_ok h r 24 || q_ok h r 25) && q_ix h r i then some (aR (gF h r i.toNat) :: st, h) else none
  | .iastore, .inl x :: .inl i :: .inr (.inr r) :: st => if q_ok h r 20 && q_ix h r i then some (st, q_sc h (q_up h.2 r i x)) else none
  | .lastore, .inr (.inl x) :: .inl i :: .inr (.inr r) :: st => if q_ok h r 21 && q_ix h r i then some (st, q_sc h (q_up h.2 r i x)) else none
  | .bastore, .inl x :: .inl i :: .inr (.inr r) :: st => if (q_ok h r 22 || q_ok h r 23) && q_ix h r i then some (st, q_sc h (q_up h.2 r i (q_nar (gS h r).1 x))) else none
  | .aastore, .inr (.inr v) :: .inl i :: .inr (.inr r) :: st => if ((q_ok h r 24 && q_ok h v 4) || (q_ok h r 25 && q_ok h v 3)) && q_ix h r i then some (st, q_sf h (q_ur h.1.2.2.2.1 r i.toNat v)) else none
  | .arraylength, .inr (.inr r) :: st =>
    if r = q_S then (if mi = q_law then some (aI (h.1.2.2.2.2.1 : Int) :: st, h) else none)
    else if q_ok h r 20 || q_ok h r 21 || q_ok h r 22 || q_ok h r 23 || q_ok h r 24 || q_ok h r 25 then some (aI ((gS h r).2 : Int) :: st, h) else none
  | .new i, st => match pl (mO mi) i with
    | some (t, ci, _, _) => if t = 6 ∧ ci < 13 then (q_new h ci (q_N ci) (fun _ => 0)).map (fun q => (aR q.1 :: st, q.2)) else none
    | none => none
  | .newarray ty, .inl n :: st => if 0 ≤ n ∧ n ≤ 1500 then (match ty with
      | .int => (q_new h 20 n.toNat (fun _ => 0)).map (fun q => (aR q.1 :: st, q.2))
      | .long => (q_new h 21 n.toNat (fun _ => 0)).map (fun q => (aR q.1 :: st, q.2))
      | .byte => (q_new h 22 n.toNat (fun _ => 0)).map (fun q => (aR q.1 :: st, q.2))
      | .boolean => (q_new h 23 n.toNat (fun _ => 0)).map (fun q => (aR q.1 :: st, q.2))
      | _ => none) else none
  | .anewarray i, .inl n :: st => match pl (mO mi) i with
    | some (t, ci, _, _) => if t = 6 ∧ (ci = 4 ∨ ci = 3) ∧ 0 ≤ n ∧ n ≤ 1500 then (q_new h (if ci = 4 then 24 else 25) n.toNat (fun _ => 0)).map (fun q => (aR q.1 :: st, q.2)) else none
    | none => none
  | .ldc i, st => match pl (mO mi) i with | some (t, _, _, z) => if t = 8 then some (aI z :: st, h) else none | none => none
  | .ldc_w i, st => match pl (mO mi) i with | some (t, _, _, z) => if t = 8 then some (aI z :: st, h) else none | none => none
  | .ldc2_w i, st => match pl (mO mi) i with | some (t, _, _, z) => if t = 9 then some (aL z :: st, h) else none | none => none
  | .invokespecial i, st => match pl (mO mi) i, st with
    | some (t, _, _, _), .inr (.inr r) :: st => if t = 11 ∧ ¬ r = 0 ∧ q_csum st ≤ 20 then some (st, h) else none
    | _, _ => none
  | .invokestatic i, st => match pl (mO mi) i with
    | some (t, _, _, _) => if t = 10 then q_ac st h
      else if t = 12 then (if q_csum st ≤ 8 then (q_new h 21 20 q_keys).map (fun q => (aR q.1 :: st, q.2)) else none)
      else if t = 15 ∨ t = 16 then (match st with
        | .inl y :: .inl x :: st => if q_in x && q_in y && decide (q_csum st ≤ 20) then some (aI (if t = 15 then (if x < y then y else x) else (if y < x then y else x)) :: st, h) else none
        | _ => none) else none
    | none => none
  | _, _ => none
/-- a method's end -/
def stR (mi : Nat) (ins : Instr) (st : List AV) : Option (Option AV) := match ins, st with
  | .return_, [] => if mR mi = none then some none else none
  | .ireturn, [.inl x] => if mR mi = some .int ∨ (mR mi = some .boolean ∧ (x = 0 ∨ x = 1)) then some (some (aI x)) else none
  | .lreturn, [.inr (.inl x)] => if mR mi = some .long then some (some (aL x)) else none
  | _, _ => none
/-- a call: kind of call, whom, its arguments, what stays on the stack -/
def stC (mi : Nat) (ins : Instr) (st : List AV) : Option (Nat × Nat × List AV × List AV) :=
  match (match ins with
    | .invokevirtual i => (pl (mO mi) i).bind (fun q => if q.1 = 1 then some (q.1, q.2.1) else none)
    | .invokestatic i => (pl (mO mi) i).bind (fun q => if q.1 = 2 ∨ q.1 = 3 ∨ q.1 = 13 ∨ q.1 = 14 then some (q.1, q.2.1) else none)
    | .invokespecial i => (pl (mO mi) i).bind (fun q => if q.1 = 4 ∨ q.1 = 5 then some (q.1, q.2.1) else none)
    | _ => none) with
  | some (t, k) =>
    let na := if t = 13 ∨ t = 14 then mA k + 1 else mA k
    if na ≤ st.length ∧ q_csum (st.drop na) ≤ 8 ∧ k < q_law then some (t, k, (st.take na).reverse, st.drop na) else none
  | none => none
def q_recv (h : HH) (t k : Nat) (as : List AV) : Bool := if t = 1 ∨ t = 4 ∨ t = 5 then (match as with | .inr (.inr r) :: _ => q_ok h r (mO k) | _ => false) else decide (t = 2 ∨ t = 3)
def q_al : List AV → LV
  | [] => []
  | v :: l => if q_cat v = 2 then some v :: none :: q_al l else some v :: q_al l
def q_ent (k : Nat) (as : List AV) : LV := q_al as ++ List.replicate (mL k - (q_al as).length) none
def q_ints (as : List AV) : Bool := as.all (fun v => match v with | .inl _ => true | _ => false)
def q_x1 (h : HH) : HH := q_sc h (q_up h.2 0 0 (h.2 0 0 + 1))
/-- where a method throws: it stops there -/
def q_dup (mi pc : Nat) : Bool := decide (decode (mC mi) (pc + 3) = .ok (.dup, 1)) && decide (decode (mC mi) (pc + 4) = .ok (.invokespecial 218, 3)) && decide (decode (mC mi) (pc + 7) = .ok (.athrow, 1))
def stX (mi pc : Nat) (ins : Instr) (st : List AV) : Bool := match ins, st with
  | .new i, [] => match pl (mO mi) i with | some (t, _, _, _) => decide (t = 17) && q_dup mi pc | none => false
  | _, _ => false
/-- an instruction's length, as the laws of the kit have it -/
def q_ln (ins : Instr) (len : Nat) : Bool := match ins with
  | .iload _ | .lload _ | .aload _ | .istore _ | .lstore _ | .astore _ | .bipush _ | .newarray _ | .ldc _ => len == 2
  | .iinc _ _ | .sipush _ | .goto _ | .if_icmp _ _ | .ifCond _ _ | .ifnull _ | .ifnonnull _ | .getfield _ | .putfield _ | .new _ | .anewarray _ | .ldc_w _ | .ldc2_w _ | .invokevirtual _ | .invokestatic _ | .invokespecial _ => len == 3
  | .tableswitch _ _ _ _ => true
  | _ => len == 1
def ev : Nat → Nat → Nat → Nat → LV → List AV → HH → Option (OO × HH)
  | 0, _, _, _, _, _, _ => none
  | n + 1, d, mi, pc, L, st, h =>
    match decode (mC mi) pc with
    | .error _ => none
    | .ok (ins, len) =>
      if q_ln ins len = false then none else
      match stL ins L st with
      | some (L', st') => ev n d mi (pc + len) L' st' h
      | none =>
        match stP ins st with
        | some st' => ev n d mi (pc + len) L st' h
        | none =>
          match stJ ins pc st with
          | some (pc', st') => ev n d mi pc' L st' h
          | none =>
            match stH mi ins st h with
            | some (st', h') => ev n d mi (pc + len) L st' h'
            | none =>
              match stR mi ins st with
              | some r => some (.inl r, h)
              | none =>
                match stC mi ins st with
                | some (t, k, as, rest) =>
                  match d with
                  | 0 => none
                  | d' + 1 =>
                    if t = 13 ∨ t = 14 then
                      match d' with
                      | 0 => none
                      | d2 + 1 =>
                        match as.dropLast, as.getLast? with
                        | .inr (.inr x) :: as', some (.inr (.inr o)) =>
                          if q_ok h x 11 && q_ok h o 21 && q_ints as' && decide ((q_al (aR x :: as')).length ≤ mL k) then
                            match ev n d2 k 0 (q_ent k (aR x :: as')) [] h with
                            | some (.inl (some (.inl v)), h1) => if q_in v && q_ok h1 o 21 && q_ix h1 o 0 then ev n d mi (pc + 3) L (aI 0 :: rest) (q_sc h1 (q_up h1.2 o 0 v)) else none
                            | some (.inr _, h1) => ev n d mi (pc + 3) L (aI 1 :: rest) (q_x1 h1)
                            | _ => none
                          else none
                        | _, _ => none
                    else if q_recv h t k as && decide ((q_al as).length ≤ mL k) then
                      match ev n d' k 0 (q_ent k as) [] h with
                      | some (.inl r, h1) => ev n d mi (pc + 3) L (r.toList ++ rest) h1
                      | _ => none
                    else none
                | none => if stX mi pc ins st then some (.inr (pc, L), h) else none

abbrev iX0_init : Nat := 0
abbrev iX0_fewestChanges : Nat := 1
abbrev iX0_stepOn : Nat := 2
abbrev iX0_findChanges : Nat := 3
abbrev iX0_choose : Nat := 4
abbrev iX0_chooseAs : Nat := 5
abbrev iX0_changeKinds : Nat := 6
abbrev iX1_init : Nat := 7
abbrev iX1_readLines : Nat := 8
abbrev iX1_readLine : Nat := 9
abbrev iX1_runOn : Nat := 10
abbrev iX1_runLine : Nat := 11
abbrev iX2_init : Nat := 12
abbrev iX2_clear : Nat := 13
abbrev iX2_keep : Nat := 14
abbrev iX2_takeBack : Nat := 15
abbrev iX3_init : Nat := 16
abbrev iX3_keep : Nat := 17
abbrev iX3_putBack : Nat := 18
abbrev iX4_init : Nat := 19
abbrev iX4_begin : Nat := 20
abbrev iX4_copyFrom : Nat := 21
abbrev iX4_owesInAll : Nat := 22
abbrev iX4_owedInAll : Nat := 23
abbrev iX4_allDebts : Nat := 24
abbrev iX4_countDebts : Nat := 25
abbrev iX4_countWaiting : Nat := 26
abbrev iX4_allBirths : Nat := 27
abbrev iX4_livingAs : Nat := 28
abbrev iX4_whyNot : Nat := 29
abbrev iX4_giveOut : Nat := 30
abbrev iX4_become : Nat := 31
abbrev iX4_canPass : Nat := 32
abbrev iX4_passDays : Nat := 33
abbrev iX4_passClerkDays : Nat := 34
abbrev iX4_passDrawnDays : Nat := 35
abbrev iX4_giveByClerk : Nat := 36
abbrev iX4_clerksChoice : Nat := 37
abbrev iX4_passDay : Nat := 38
abbrev iX4_settlePair : Nat := 39
abbrev iX4_grow : Nat := 40
abbrev iX5_init : Nat := 41
abbrev iX5_clearGiven : Nat := 42
abbrev iX5_toldOf : Nat := 43
abbrev iX5_mostSettled : Nat := 44
abbrev iX5_byTheLiving : Nat := 45
abbrev iX5_fillTables : Nat := 46
abbrev iX5_fillAlone : Nat := 47
abbrev iX5_fillTogether : Nat := 48
abbrev iX5_togetherAt : Nat := 49
abbrev iX5_pairSum : Nat := 50
abbrev iX5_grownBy : Nat := 51
abbrev iX5_choose : Nat := 52
abbrev iX5_addedBy : Nat := 53
abbrev iX5_keepWay : Nat := 54
abbrev iX6_init : Nat := 55
abbrev iX6_mostGroups : Nat := 56
abbrev iX6_collect : Nat := 57
abbrev iX7_init : Nat := 58
abbrev iX7_readLines : Nat := 59
abbrev iX7_readLine : Nat := 60
abbrev iX7_readKind : Nat := 61
abbrev iX7_readMeets : Nat := 62
abbrev iX7_readSoul : Nat := 63
abbrev iX7_readOnly : Nat := 64
abbrev iX7_readWish : Nat := 65
abbrev iX7_readDebt : Nat := 66
abbrev iX7_readGrows : Nat := 67
abbrev iX7_takeNewName : Nat := 68
abbrev iX8_init : Nat := 69
abbrev iX8_isKind : Nat := 70
abbrev iX8_isSoul : Nat := 71
abbrev iX8_mayBe : Nat := 72
abbrev iX8_canSettle : Nat := 73
abbrev iX8_clear : Nat := 74
abbrev iX8_fillUntold : Nat := 75
abbrev iX8_addKind : Nat := 76
abbrev iX8_addSoul : Nat := 77
abbrev iX8_copyFrom : Nat := 78
abbrev iX9_init : Nat := 79
abbrev iX9_clear : Nat := 80
abbrev iX9_copyFrom : Nat := 81
abbrev iX9_readText : Nat := 82
abbrev iX9_readCond : Nat := 83
abbrev iX9_readAll : Nat := 84
abbrev iX9_readOne : Nat := 85
abbrev iX9_readNamed : Nat := 86
abbrev iX9_readCompared : Nat := 87
abbrev iX9_addStep : Nat := 88
abbrev iX9_soulsSaid : Nat := 89
abbrev iX9_soulsByStep : Nat := 90
abbrev iX9_holds : Nat := 91
abbrev iX9_compares : Nat := 92
abbrev iX10_init : Nat := 93
abbrev iX10_addNumber : Nat := 94
abbrev iX10_beginReading : Nat := 95
abbrev iX10_addRun : Nat := 96
abbrev iX10_addToken : Nat := 97
abbrev iX10_advance : Nat := 98
abbrev iX10_refuse : Nat := 99
abbrev iX10_endsHere : Nat := 100
abbrev iX10_isKey : Nat := 101
abbrev iX10_isSign : Nat := 102
abbrev iX10_takeSign : Nat := 103
abbrev iX10_takeKey : Nat := 104
abbrev iX10_takeNumber : Nat := 105
abbrev iX10_nameHere : Nat := 106
abbrev iX10_takeName : Nat := 107
abbrev iX10_placeOf : Nat := 108
abbrev iX11_init : Nat := 109
abbrev iX11_feed : Nat := 110
abbrev iX11_end : Nat := 111
abbrev iX11_office : Nat := 112
abbrev iX11_fault : Nat := 113
abbrev iX11_daybook : Nat := 114
abbrev iX11_booked : Nat := 115
abbrev iX11_sentence : Nat := 116
abbrev iX11_said : Nat := 117
abbrev iX11_count : Nat := 118
abbrev iX11_kind : Nat := 119
abbrev iX11_meets : Nat := 120
abbrev iX11_soul : Nat := 121
abbrev iX11_debt : Nat := 122
abbrev iX11_now : Nat := 123
abbrev iX11_settled : Nat := 124
abbrev iX11_greatest : Nat := 125
abbrev iX11_why : Nat := 126
abbrev iX11_give : Nat := 127
abbrev iX11_days : Nat := 128
abbrev iX11_clerk : Nat := 129
abbrev iX11_drawn : Nat := 130
abbrev iX11_appeal : Nat := 131
abbrev iX11_grant : Nat := 132
abbrev iX11_undo : Nat := 133
abbrev iX11_image : Nat := 134
abbrev iX11_restore : Nat := 135
abbrev iX11_most : Nat := 136
abbrev iX11_gives : Nat := 137
abbrev iX11_hopeless : Nat := 138
abbrev iX11_net : Nat := 139
abbrev iX11_fewest : Nat := 140
abbrev iX11_groups : Nat := 141
abbrev iX11_were : Nat := 142
abbrev iX11_first : Nat := 143
abbrev iX11_ends : Nat := 144
abbrev iX11_later : Nat := 145
abbrev iX11_queue : Nat := 146
abbrev iX11_odds : Nat := 147
abbrev iX11_countWays : Nat := 148
abbrev iX11_looksLike : Nat := 149
abbrev iX11_keepFirstWay : Nat := 150
abbrev iX11_soulPair : Nat := 151
abbrev iX11_kindPair : Nat := 152
abbrev iX11_isSmallLetter : Nat := 153
abbrev iX11_isDigit : Nat := 154
abbrev iX11_isSignByte : Nat := 155
abbrev iX11_withLetter : Nat := 156
abbrev iX11_keysByNumber : Nat := 157
abbrev iX12_thrown : Nat := 158
abbrev iX12_throwsIf : Nat := 159
abbrev iX12_feed : Nat := 160
abbrev iX12_four : Nat := 161
abbrev iX12_end : Nat := 162
abbrev iX12_taken : Nat := 163
abbrev iX12_isIn : Nat := 164
abbrev iX12_bitOf : Nat := 165
abbrev iX12_lesser : Nat := 166
abbrev iX12_octet : Nat := 167
abbrev iX12_init : Nat := 168
abbrev iX12_peek : Nat := 169
abbrev iX12_isSmall : Nat := 170
abbrev iX12_isDigit : Nat := 171
abbrev iX12_next : Nat := 172
abbrev iX12_bad : Nat := 173
abbrev iX12_isWord : Nat := 174
abbrev iX12_isSign : Nat := 175
abbrev iX12_sign : Nat := 176
abbrev iX12_isName : Nat := 177
abbrev iX12_takes : Nat := 178
abbrev iX12_find : Nat := 179
abbrev iX12_fresh : Nat := 180
abbrev iX12_looksAt : Nat := 181
abbrev iX12_looksAtKind : Nat := 182
abbrev iX12_looksAtSoul : Nat := 183
abbrev iX12_line : Nat := 184
abbrev iX12_office : Nat := 185
abbrev iX12_fault : Nat := 186
abbrev iX12_isKind : Nat := 187
abbrev iX12_isSoul : Nat := 188
abbrev iX12_roomOf : Nat := 189
abbrev iX12_kind : Nat := 190
abbrev iX12_meets : Nat := 191
abbrev iX12_debtsOf : Nat := 192
abbrev iX12_duesOf : Nat := 193
abbrev iX12_soul : Nat := 194
abbrev iX12_debt : Nat := 195
abbrev iX12_all : Nat := 196
abbrev iX12_now : Nat := 197
abbrev iX12_whyOf : Nat := 198
abbrev iX12_lives : Nat := 199
abbrev iX12_born : Nat := 200
abbrev iX12_settles : Nat := 201
abbrev iX12_day : Nat := 202
abbrev iX12_clerkOf : Nat := 203
abbrev iX12_clerks : Nat := 204
abbrev iX12_clerkDay : Nat := 205
abbrev iX12_why : Nat := 206
abbrev iX12_give : Nat := 207
abbrev iX12_areDays : Nat := 208
abbrev iX12_days : Nat := 209
abbrev iX12_clerk : Nat := 210
abbrev iX12_settled : Nat := 211
abbrev iX12_keep : Nat := 212
abbrev iX12_undo : Nat := 213
abbrev iX12_tries : Nat := 214
abbrev iX12_back : Nat := 215
abbrev iX12_nextWay : Nat := 216
abbrev iX12_goes : Nat := 217
abbrev iX12_most : Nat := 218
abbrev iX12_gives : Nat := 219
abbrev iX12_isHopeless : Nat := 220
abbrev iX12_hopeless : Nat := 221
abbrev iX12_netOf : Nat := 222
abbrev iX12_net : Nat := 223
abbrev iX12_groupsAll : Nat := 224
abbrev iX12_withNet : Nat := 225
abbrev iX12_bits : Nat := 226
abbrev iX12_fewest : Nat := 227
abbrev iX12_groups : Nat := 228
abbrev iX12_areSo : Nat := 229
abbrev iX12_were : Nat := 230
abbrev iX12_first : Nat := 231
abbrev iX12_kindBy : Nat := 232
abbrev iX12_canBe : Nat := 233
abbrev iX12_nextAppeal : Nat := 234
abbrev iX12_appealOf : Nat := 235
abbrev iX12_appeal : Nat := 236
abbrev iX12_grant : Nat := 237
abbrev iX12_ends : Nat := 238
abbrev iX12_laterOf : Nat := 239
abbrev iX12_later : Nat := 240
abbrev iX12_queue : Nat := 241
abbrev iX12_draw : Nat := 242
abbrev iX12_years : Nat := 243
abbrev iX12_drawn : Nat := 244
abbrev iX12_odds : Nat := 245
abbrev iX12_greatestOf : Nat := 246
abbrev iX12_greatest : Nat := 247
abbrev iX12_bookLine : Nat := 248
abbrev iX12_does : Nat := 249
abbrev iX12_daybook : Nat := 250
abbrev iX12_booked : Nat := 251
abbrev iX12_code : Nat := 252
abbrev iX12_joins : Nat := 253
abbrev iX12_nots : Nat := 254
abbrev iX12_leafOf : Nat := 255
abbrev iX12_operand : Nat := 256
abbrev iX12_behind : Nat := 257
abbrev iX12_sentence : Nat := 258
abbrev iX12_isLeaf : Nat := 259
abbrev iX12_isSaid : Nat := 260
abbrev iX12_said : Nat := 261
abbrev iX12_image : Nat := 262
abbrev iX12_restore : Nat := 263
abbrev iX12_count : Nat := 264
abbrev iL_soul : Nat := 265
abbrev iL_net : Nat := 266
abbrev iJ6_bitCount_0f7a4 : Nat := 267
abbrev iX0_goOnWith : Nat := 268
abbrev iX5_chooseAs : Nat := 269
abbrev iX9_readNot : Nat := 270
abbrev iL_law : Nat := 271
