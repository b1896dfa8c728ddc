abbrev mX0_init : ZM := (yX0_init, cX0_init, 4, none, 1, 0, 0)
abbrev mX1_init : ZM := (yX1_init, cX1_init, 7, none, 1, 0, 0)
abbrev mX1_quit : ZM := (yX1_quit, cX1_quit, 2, none, 0, 0, 0)
abbrev mX1_growOlder : ZM := (yX1_growOlder, cX1_growOlder, 2, (some .boolean), 1, 0, 0)
abbrev mX2_init : ZM := (yX2_init, cX2_init, 1, none, 1, 16, 318)
abbrev mX2_bar : ZM := (yX2_bar, cX2_bar, 4, none, 0, 0, 0)
abbrev mX2_solve : ZM := (yX2_solve, cX2_solve, 4, none, 3, 0, 0)
abbrev mX2_seat : ZM := (yX2_seat, cX2_seat, 4, none, 2, 0, 0)
abbrev mX2_reachNext : ZM := (yX2_reachNext, cX2_reachNext, 7, (some .int), 1, 0, 0)
abbrev mX2_shiftWorths : ZM := (yX2_shiftWorths, cX2_shiftWorths, 4, none, 0, 0, 0)
abbrev mX2_columnOf : ZM := (yX2_columnOf, cX2_columnOf, 3, (some .int), 0, 0, 0)
abbrev mX3_init : ZM := (yX3_init, cX3_init, 1, none, 1, 1, 5)
abbrev mX3_result : ZM := (yX3_result, cX3_result, 7, (some .int), 3, 0, 0)
abbrev mX3_whatComesOf : ZM := (yX3_whatComesOf, cX3_whatComesOf, 5, (some .long), 2, 0, 0)
abbrev mX3_joined : ZM := (yX3_joined, cX3_joined, 6, (some .long), 1, 0, 0)
abbrev mX3_lay : ZM := (yX3_lay, cX3_lay, 3, none, 1, 0, 0)
abbrev mX3_take : ZM := (yX3_take, cX3_take, 1, (some .int), 0, 0, 0)
abbrev mX4_init : ZM := (yX4_init, cX4_init, 5, none, 1, 1, 3)
abbrev mX4_shut : ZM := (yX4_shut, cX4_shut, 2, none, 0, 0, 0)
abbrev mX5_init : ZM := (yX5_init, cX5_init, 3, none, 1, 0, 0)
abbrev mX5_farFrom : ZM := (yX5_farFrom, cX5_farFrom, 2, (some .int), 1, 0, 0)
abbrev mX6_init : ZM := (yX6_init, cX6_init, 3, none, 1, 77, 312)
abbrev mX6_prepare : ZM := (yX6_prepare, cX6_prepare, 6, none, 2, 0, 0)
abbrev mX6_fillCosts : ZM := (yX6_fillCosts, cX6_fillCosts, 7, none, 1, 0, 0)
abbrev mX6_readDigits : ZM := (yX6_readDigits, cX6_readDigits, 4, (some .boolean), 0, 0, 0)
abbrev mX6_isKept : ZM := (yX6_isKept, cX6_isKept, 2, (some .boolean), 2, 0, 0)
abbrev mX6_costByRow : ZM := (yX6_costByRow, cX6_costByRow, 4, (some .int), 0, 0, 0)
abbrev mX6_worstRow : ZM := (yX6_worstRow, cX6_worstRow, 3, (some .int), 1, 0, 0)
abbrev mX6_startClosings : ZM := (yX6_startClosings, cX6_startClosings, 2, none, 0, 0, 0)
abbrev mX6_closesWithin : ZM := (yX6_closesWithin, cX6_closesWithin, 3, (some .boolean), 0, 0, 0)
abbrev mX6_mayClose : ZM := (yX6_mayClose, cX6_mayClose, 3, (some .boolean), 1, 0, 0)
abbrev mX6_closeFrom : ZM := (yX6_closeFrom, cX6_closeFrom, 3, none, 1, 0, 0)
abbrev mX6_openAgain : ZM := (yX6_openAgain, cX6_openAgain, 3, none, 1, 0, 0)
abbrev mX6_findBest : ZM := (yX6_findBest, cX6_findBest, 2, (some .boolean), 14, 0, 0)
abbrev mX6_fillLeast : ZM := (yX6_fillLeast, cX6_fillLeast, 5, none, 2, 0, 0)
abbrev mX6_lastChoice : ZM := (yX6_lastChoice, cX6_lastChoice, 2, (some .int), 1, 0, 0)
abbrev mX6_choose (dk : Nat) : ZM := (yX6_choose, cX6_choose, 3, none, 3 + dk, 0, 0)
abbrev mX6_pay : ZM := (yX6_pay, cX6_pay, 4, none, 0, 0, 0)
abbrev mX6_mayBeBetter : ZM := (yX6_mayBeBetter, cX6_mayBeBetter, 3, (some .boolean), 0, 0, 0)
abbrev mX6_keepAsBest : ZM := (yX6_keepAsBest, cX6_keepAsBest, 2, none, 2, 0, 0)
abbrev mX7_init : ZM := (yX7_init, cX7_init, 1, none, 2, 21, 368)
abbrev mX7_clear : ZM := (yX7_clear, cX7_clear, 1, none, 0, 0, 0)
abbrev mX7_addSlots : ZM := (yX7_addSlots, cX7_addSlots, 5, none, 0, 0, 0)
abbrev mX7_addMan : ZM := (yX7_addMan, cX7_addMan, 3, (some .boolean), 1, 0, 0)
abbrev mX7_offer : ZM := (yX7_offer, cX7_offer, 5, none, 1, 0, 0)
abbrev mX7_weigh : ZM := (yX7_weigh, cX7_weigh, 6, (some .long), 0, 0, 0)
abbrev mX7_settle : ZM := (yX7_settle, cX7_settle, 5, none, 4, 0, 0)
abbrev mX7_indexOf : ZM := (yX7_indexOf, cX7_indexOf, 3, (some .int), 0, 0, 0)
abbrev mX7_newPitOf : ZM := (yX7_newPitOf, cX7_newPitOf, 3, (some .int), 1, 0, 0)
abbrev mX8_init : ZM := (yX8_init, cX8_init, 1, none, 1, 1, 40)
abbrev mX8_add : ZM := (yX8_add, cX8_add, 2, (some .boolean), 0, 0, 0)
abbrev mX8_copyFrom : ZM := (yX8_copyFrom, cX8_copyFrom, 2, none, 1, 0, 0)
abbrev mX8_firstFault : ZM := (yX8_firstFault, cX8_firstFault, 5, (some .int), 1, 0, 0)
abbrev mX8_isDigit : ZM := (yX8_isDigit, cX8_isDigit, 1, (some .boolean), 0, 0, 0)
abbrev mX8_heightBehind : ZM := (yX8_heightBehind, cX8_heightBehind, 2, (some .int), 0, 0, 0)
abbrev mX9_init : ZM := (yX9_init, cX9_init, 1, none, 1, 8, 76)
abbrev mX9_addBasin : ZM := (yX9_addBasin, cX9_addBasin, 2, none, 0, 0, 0)
abbrev mX9_addWay : ZM := (yX9_addWay, cX9_addWay, 4, none, 0, 0, 0)
abbrev mX9_copyFrom : ZM := (yX9_copyFrom, cX9_copyFrom, 3, none, 1, 0, 0)
abbrev mX9_passMonth : ZM := (yX9_passMonth, cX9_passMonth, 3, (some .int), 2, 0, 0)
abbrev mX9_runThrough : ZM := (yX9_runThrough, cX9_runThrough, 7, none, 1, 0, 0)
abbrev mX9_drain : ZM := (yX9_drain, cX9_drain, 2, none, 0, 0, 0)
abbrev mX10_init : ZM := (yX10_init, cX10_init, 2, none, 3, 140, 1129)
abbrev mX10_town : ZM := (yX10_town, cX10_town, 4, (some .int), 2, 0, 0)
abbrev mX10_pit : ZM := (yX10_pit, cX10_pit, 6, (some .int), 2, 3, 13)
abbrev mX10_about : ZM := (yX10_about, cX10_about, 4, (some .int), 2, 0, 0)
abbrev mX10_man : ZM := (yX10_man, cX10_man, 7, (some .int), 2, 1, 7)
abbrev mX10_ofMan : ZM := (yX10_ofMan, cX10_ofMan, 4, (some .int), 2, 0, 0)
abbrev mX10_leave : ZM := (yX10_leave, cX10_leave, 3, (some .int), 2, 0, 0)
abbrev mX10_posts : ZM := (yX10_posts, cX10_posts, 5, (some .int), 2, 0, 0)
abbrev mX10_set : ZM := (yX10_set, cX10_set, 4, (some .int), 1, 0, 0)
abbrev mX10_year : ZM := (yX10_year, cX10_year, 3, (some .int), 2, 0, 0)
abbrev mX10_say : ZM := (yX10_say, cX10_say, 2, (some .int), 1, 0, 0)
abbrev mX10_wipe : ZM := (yX10_wipe, cX10_wipe, 2, (some .int), 0, 0, 0)
abbrev mX10_fault : ZM := (yX10_fault, cX10_fault, 1, (some .int), 2, 0, 0)
abbrev mX10_rule : ZM := (yX10_rule, cX10_rule, 3, (some .int), 2, 0, 0)
abbrev mX10_worth : ZM := (yX10_worth, cX10_worth, 3, (some .int), 4, 0, 0)
abbrev mX10_move : ZM := (yX10_move, cX10_move, 3, (some .int), 7, 0, 0)
abbrev mX10_close : ZM := (yX10_close, cX10_close, 2, (some .int), 7, 0, 0)
abbrev mX10_inflow : ZM := (yX10_inflow, cX10_inflow, 4, (some .int), 2, 0, 0)
abbrev mX10_pump : ZM := (yX10_pump, cX10_pump, 4, (some .int), 2, 0, 0)
abbrev mX10_way : ZM := (yX10_way, cX10_way, 4, (some .int), 2, 0, 0)
abbrev mX10_months : ZM := (yX10_months, cX10_months, 4, (some .int), 3, 0, 0)
abbrev mX10_threat : ZM := (yX10_threat, cX10_threat, 4, (some .int), 3, 0, 0)
abbrev mX10_price : ZM := (yX10_price, cX10_price, 5, (some .int), 1, 0, 0)
abbrev mX10_plan : ZM := (yX10_plan, cX10_plan, 3, (some .int), 3, 0, 0)
abbrev mX10_best : ZM := (yX10_best, cX10_best, 2, (some .int), 15, 0, 0)
abbrev mX10_vote : ZM := (yX10_vote, cX10_vote, 5, (some .int), 5, 0, 0)
abbrev mX10_worked : ZM := (yX10_worked, cX10_worked, 4, (some .int), 2, 0, 0)
abbrev mX10_harm : ZM := (yX10_harm, cX10_harm, 5, (some .int), 2, 2, 5)
abbrev mX10_whose : ZM := (yX10_whose, cX10_whose, 4, (some .int), 3, 0, 0)
abbrev mX10_part : ZM := (yX10_part, cX10_part, 3, (some .int), 4, 0, 0)
abbrev mX10_work : ZM := (yX10_work, cX10_work, 3, (some .int), 3, 0, 0)
abbrev mX10_lone : ZM := (yX10_lone, cX10_lone, 3, (some .int), 3, 0, 0)
abbrev mX10_told : ZM := (yX10_told, cX10_told, 2, (some .int), 1, 0, 0)
abbrev mX10_isWithin : ZM := (yX10_isWithin, cX10_isWithin, 3, (some .boolean), 0, 0, 0)
abbrev mX10_isPlace : ZM := (yX10_isPlace, cX10_isPlace, 2, (some .boolean), 1, 0, 0)
abbrev mX10_isTown : ZM := (yX10_isTown, cX10_isTown, 1, (some .boolean), 1, 0, 0)
abbrev mX10_isTrade : ZM := (yX10_isTrade, cX10_isTrade, 1, (some .boolean), 1, 0, 0)
abbrev mX10_isRule : ZM := (yX10_isRule, cX10_isRule, 1, (some .boolean), 1, 0, 0)
abbrev mX10_isPit : ZM := (yX10_isPit, cX10_isPit, 2, (some .boolean), 1, 0, 0)
abbrev mX10_isMan : ZM := (yX10_isMan, cX10_isMan, 2, (some .boolean), 1, 0, 0)
abbrev mX10_isHarm : ZM := (yX10_isHarm, cX10_isHarm, 2, (some .boolean), 1, 0, 0)
abbrev mX10_asOne : ZM := (yX10_asOne, cX10_asOne, 1, (some .int), 0, 0, 0)
abbrev mX10_menAt : ZM := (yX10_menAt, cX10_menAt, 4, (some .int), 0, 0, 0)
abbrev mX10_menWhoAre : ZM := (yX10_menWhoAre, cX10_menWhoAre, 4, (some .int), 0, 0, 0)
abbrev mX10_openPits : ZM := (yX10_openPits, cX10_openPits, 3, (some .int), 0, 0, 0)
abbrev mX10_workersOf : ZM := (yX10_workersOf, cX10_workersOf, 4, (some .int), 0, 0, 0)
abbrev mX10_dwellersOf : ZM := (yX10_dwellersOf, cX10_dwellersOf, 4, (some .int), 0, 0, 0)
abbrev mX10_pitsOf : ZM := (yX10_pitsOf, cX10_pitsOf, 4, (some .int), 2, 0, 0)
abbrev mX10_isTrue : ZM := (yX10_isTrue, cX10_isTrue, 3, (some .boolean), 4, 0, 0)
abbrev mX10_wayToWork : ZM := (yX10_wayToWork, cX10_wayToWork, 2, (some .int), 3, 0, 0)
abbrev mX10_wayTo : ZM := (yX10_wayTo, cX10_wayTo, 3, (some .int), 2, 0, 0)
abbrev mX10_workOutMove : ZM := (yX10_workOutMove, cX10_workOutMove, 3, (some .boolean), 6, 0, 0)
abbrev mX10_offerSlots : ZM := (yX10_offerSlots, cX10_offerSlots, 7, none, 5, 0, 0)
abbrev mX10_carryOutMove : ZM := (yX10_carryOutMove, cX10_carryOutMove, 5, none, 1, 0, 0)
abbrev mX10_canBe : ZM := (yX10_canBe, cX10_canBe, 5, (some .boolean), 2, 0, 0)
abbrev mX10_partOf : ZM := (yX10_partOf, cX10_partOf, 7, (some .int), 3, 0, 0)
abbrev mX10_share : ZM := (yX10_share, cX10_share, 3, (some .int), 0, 0, 0)
abbrev mX11_init : ZM := (yX11_init, cX11_init, 2, none, 1, 42, 41610)
abbrev mX11_in : ZM := (yX11_in, cX11_in, 6, (some .boolean), 0, 0, 0)
abbrev mX11_size : ZM := (yX11_size, cX11_size, 1, (some .int), 0, 0, 0)
abbrev mX11_ones : ZM := (yX11_ones, cX11_ones, 3, (some .int), 0, 0, 0)
abbrev mX11_isTown : ZM := (yX11_isTown, cX11_isTown, 1, (some .boolean), 1, 0, 0)
abbrev mX11_isPit : ZM := (yX11_isPit, cX11_isPit, 2, (some .boolean), 1, 0, 0)
abbrev mX11_isPlace : ZM := (yX11_isPlace, cX11_isPlace, 2, (some .boolean), 1, 0, 0)
abbrev mX11_town : ZM := (yX11_town, cX11_town, 4, (some .int), 2, 0, 0)
abbrev mX11_pit : ZM := (yX11_pit, cX11_pit, 6, (some .int), 2, 0, 0)
abbrev mX11_farTo : ZM := (yX11_farTo, cX11_farTo, 3, (some .int), 1, 0, 0)
abbrev mX11_menAt : ZM := (yX11_menAt, cX11_menAt, 4, (some .int), 0, 0, 0)
abbrev mX11_about : ZM := (yX11_about, cX11_about, 3, (some .int), 2, 0, 0)
abbrev mX11_man : ZM := (yX11_man, cX11_man, 7, (some .int), 2, 0, 0)
abbrev mX11_isMan : ZM := (yX11_isMan, cX11_isMan, 2, (some .boolean), 1, 0, 0)
abbrev mX11_ofMan : ZM := (yX11_ofMan, cX11_ofMan, 3, (some .int), 2, 0, 0)
abbrev mX11_become : ZM := (yX11_become, cX11_become, 3, none, 0, 0, 0)
abbrev mX11_leave : ZM := (yX11_leave, cX11_leave, 3, (some .int), 2, 0, 0)
abbrev mX11_posts : ZM := (yX11_posts, cX11_posts, 5, (some .int), 2, 0, 0)
abbrev mX11_leastOf : ZM := (yX11_leastOf, cX11_leastOf, 1, (some .int), 0, 0, 0)
abbrev mX11_mostOf : ZM := (yX11_mostOf, cX11_mostOf, 1, (some .int), 0, 0, 0)
abbrev mX11_set : ZM := (yX11_set, cX11_set, 4, (some .int), 1, 0, 0)
abbrev mX11_year : ZM := (yX11_year, cX11_year, 3, (some .int), 1, 0, 0)
abbrev mX11_say : ZM := (yX11_say, cX11_say, 2, (some .int), 1, 0, 0)
abbrev mX11_wipe : ZM := (yX11_wipe, cX11_wipe, 2, (some .int), 0, 0, 0)
abbrev mX11_isDigit : ZM := (yX11_isDigit, cX11_isDigit, 1, (some .boolean), 1, 0, 0)
abbrev mX11_isFact : ZM := (yX11_isFact, cX11_isFact, 1, (some .boolean), 0, 0, 0)
abbrev mX11_isAct : ZM := (yX11_isAct, cX11_isAct, 1, (some .boolean), 0, 0, 0)
abbrev mX11_fault : ZM := (yX11_fault, cX11_fault, 6, (some .int), 2, 0, 0)
abbrev mX11_rule : ZM := (yX11_rule, cX11_rule, 4, (some .int), 3, 0, 0)
abbrev mX11_factOf : ZM := (yX11_factOf, cX11_factOf, 3, (some .int), 2, 0, 0)
abbrev mX11_actOn : ZM := (yX11_actOn, cX11_actOn, 5, (some .long), 0, 0, 0)
abbrev mX11_lay : ZM := (yX11_lay, cX11_lay, 3, none, 0, 0, 0)
abbrev mX11_worthOf : ZM := (yX11_worthOf, cX11_worthOf, 6, (some .int), 3, 0, 0)
abbrev mX11_worth : ZM := (yX11_worth, cX11_worth, 3, (some .int), 4, 0, 0)
abbrev mX11_isSo : ZM := (yX11_isSo, cX11_isSo, 3, (some .boolean), 4, 0, 0)
abbrev mX11_findMovers : ZM := (yX11_findMovers, cX11_findMovers, 5, none, 5, 0, 0)
abbrev mX11_byslot : ZM := (yX11_byslot, cX11_byslot, 7, (some .int), 2, 0, 0)
abbrev mX11_findMove : ZM := (yX11_findMove, cX11_findMove, 7, none, 6, 0, 0)
abbrev mX11_move : ZM := (yX11_move, cX11_move, 4, (some .int), 7, 0, 0)
abbrev mX11_newPit : ZM := (yX11_newPit, cX11_newPit, 3, (some .int), 0, 0, 0)
abbrev mX11_close : ZM := (yX11_close, cX11_close, 4, (some .int), 7, 0, 0)
abbrev mX11_isMover : ZM := (yX11_isMover, cX11_isMover, 4, (some .boolean), 0, 0, 0)
abbrev mX11_inflow : ZM := (yX11_inflow, cX11_inflow, 4, (some .int), 2, 0, 0)
abbrev mX11_pump : ZM := (yX11_pump, cX11_pump, 4, (some .int), 2, 0, 0)
abbrev mX11_way : ZM := (yX11_way, cX11_way, 4, (some .int), 2, 0, 0)
abbrev mX11_run : ZM := (yX11_run, cX11_run, 6, none, 0, 0, 0)
abbrev mX11_isDrowned : ZM := (yX11_isDrowned, cX11_isDrowned, 2, (some .boolean), 0, 0, 0)
abbrev mX11_monthOn : ZM := (yX11_monthOn, cX11_monthOn, 4, none, 1, 0, 0)
abbrev mX11_months : ZM := (yX11_months, cX11_months, 5, (some .int), 2, 0, 0)
abbrev mX11_threat : ZM := (yX11_threat, cX11_threat, 7, (some .int), 2, 0, 0)
abbrev mX11_price : ZM := (yX11_price, cX11_price, 5, (some .int), 1, 0, 0)
abbrev mX11_layPlan : ZM := (yX11_layPlan, cX11_layPlan, 5, (some .boolean), 0, 0, 0)
abbrev mX11_isKept : ZM := (yX11_isKept, cX11_isKept, 5, (some .boolean), 0, 0, 0)
abbrev mX11_costBy : ZM := (yX11_costBy, cX11_costBy, 7, (some .int), 0, 0, 0)
abbrev mX11_worst : ZM := (yX11_worst, cX11_worst, 4, (some .int), 1, 0, 0)
abbrev mX11_plan : ZM := (yX11_plan, cX11_plan, 4, (some .int), 2, 0, 0)
abbrev mX11_best : ZM := (yX11_best, cX11_best, 6, (some .int), 2, 0, 0)
abbrev mX11_digitsOf : ZM := (yX11_digitsOf, cX11_digitsOf, 3, (some .int), 0, 0, 0)
abbrev mX11_nextPlan : ZM := (yX11_nextPlan, cX11_nextPlan, 2, (some .boolean), 0, 0, 0)
abbrev mX11_vote : ZM := (yX11_vote, cX11_vote, 5, (some .int), 5, 0, 0)
abbrev mX11_worked : ZM := (yX11_worked, cX11_worked, 4, (some .int), 2, 0, 0)
abbrev mX11_harm : ZM := (yX11_harm, cX11_harm, 5, (some .int), 2, 0, 0)
abbrev mX11_canBe : ZM := (yX11_canBe, cX11_canBe, 5, (some .boolean), 1, 0, 0)
abbrev mX11_whoseOf : ZM := (yX11_whoseOf, cX11_whoseOf, 4, (some .int), 2, 0, 0)
abbrev mX11_isHarm : ZM := (yX11_isHarm, cX11_isHarm, 2, (some .boolean), 1, 0, 0)
abbrev mX11_whose : ZM := (yX11_whose, cX11_whose, 2, (some .int), 3, 0, 0)
abbrev mX11_shareOf : ZM := (yX11_shareOf, cX11_shareOf, 4, (some .int), 0, 0, 0)
abbrev mX11_part : ZM := (yX11_part, cX11_part, 7, (some .int), 3, 0, 0)
abbrev mX11_pitsOf : ZM := (yX11_pitsOf, cX11_pitsOf, 4, (some .int), 0, 0, 0)
abbrev mX11_work : ZM := (yX11_work, cX11_work, 6, (some .int), 2, 0, 0)
abbrev mX11_lone : ZM := (yX11_lone, cX11_lone, 3, (some .int), 1, 0, 0)
abbrev mX11_told : ZM := (yX11_told, cX11_told, 4, (some .int), 1, 0, 0)
abbrev mJ6_bitCount_0f7a4 : ZM := (yJ6_bitCount_0f7a4, cJ6_bitCount_0f7a4, 1, (some .int), 0, 0, 0)
abbrev mJ9_abs_0f7a4 : ZM := (yJ9_abs_0f7a4, cJ9_abs_0f7a4, 1, (some .int), 0, 0, 0)
abbrev mJ9_max_7cf53 : ZM := (yJ9_max_7cf53, cJ9_max_7cf53, 2, (some .int), 0, 0, 0)
abbrev mJ9_max_f86c9 : ZM := (yJ9_max_f86c9, cJ9_max_f86c9, 4, (some .long), 0, 0, 0)
abbrev mJ9_min_7cf53 : ZM := (yJ9_min_7cf53, cJ9_min_7cf53, 2, (some .int), 0, 0, 0)
abbrev mJ9_min_f86c9 : ZM := (yJ9_min_f86c9, cJ9_min_f86c9, 4, (some .long), 0, 0, 0)
abbrev mL_law : ZM := (yL_law, cL_law, 4, (some .boolean), 16, 600000, 7302250)
set_option maxRecDepth 100000 in
theorem cl_X10_15 : Cond.classLink RX10 15 RX4 ∈ zgood := zgood_t 26 (by decide +kernel) (by decide +kernel)
set_option maxRecDepth 100000 in
theorem cl_X10_21 : Cond.classLink RX10 21 RX1 ∈ zgood := zgood_t 28 (by decide +kernel) (by decide +kernel)
set_option maxRecDepth 100000 in
theorem cl_X10_27 : Cond.classLink RX10 27 RX0 ∈ zgood := zgood_t 30 (by decide +kernel) (by decide +kernel)
set_option maxRecDepth 100000 in
theorem cl_X10_40 : Cond.classLink RX10 40 RX8 ∈ zgood := zgood_t 34 (by decide +kernel) (by decide +kernel)
set_option maxRecDepth 100000 in
theorem cl_X10_9 : Cond.classLink RX10 9 RX5 ∈ zgood := zgood_t 24 (by decide +kernel) (by decide +kernel)
set_option maxRecDepth 100000 in
theorem fw_X1_15 : Cond.fieldLink RX1 15 (TX1 0).1 (TX1 0).2.1 (TX1 0).2.2.1 ∈ zgood := zgood_t 413 (by decide +kernel) (by decide +kernel)
set_option maxRecDepth 100000 in
theorem fl_X1_15 : zFL RX1 15 (RX1, TX1, 7) 0 := Or.inl fw_X1_15
set_option maxRecDepth 100000 in
theorem fw_X1_21 : Cond.fieldLink RX1 21 (TX1 2).1 (TX1 2).2.1 (TX1 2).2.2.1 ∈ zgood := zgood_t 419 (by decide +kernel) (by decide +kernel)
set_option maxRecDepth 100000 in
theorem fl_X1_21 : zFL RX1 21 (RX1, TX1, 7) 2 := Or.inl fw_X1_21
set_option maxRecDepth 100000 in
theorem fw_X1_9 : Cond.fieldLink RX1 9 (TX1 6).1 (TX1 6).2.1 (TX1 6).2.2.1 ∈ zgood := zgood_t 429 (by decide +kernel) (by decide +kernel)
set_option maxRecDepth 100000 in
theorem fl_X1_9 : zFL RX1 9 (RX1, TX1, 7) 6 := Or.inl fw_X1_9
set_option maxRecDepth 100000 in
theorem fl_X10_103 : zFL RX10 103 (RX5, TX5, 2) 1 := Or.inr ⟨"PitPact", znest_t 270 (by decide +kernel) (by decide +kernel)⟩
set_option maxRecDepth 100000 in
theorem fw_X10_11 : Cond.fieldLink RX10 11 (TX10 0).1 (TX10 0).2.1 (TX10 0).2.2.1 ∈ zgood := zgood_t 279 (by decide +kernel) (by decide +kernel)
set_option maxRecDepth 100000 in
theorem fl_X10_11 : zFL RX10 11 (RX10, TX10, 15) 0 := Or.inl fw_X10_11
set_option maxRecDepth 100000 in
theorem fw_X10_110 : Cond.fieldLink RX10 110 (TX10 12).1 (TX10 12).2.1 (TX10 12).2.2.1 ∈ zgood := zgood_t 291 (by decide +kernel) (by decide +kernel)
set_option maxRecDepth 100000 in
theorem fl_X10_110 : zFL RX10 110 (RX10, TX10, 15) 12 := Or.inl fw_X10_110
set_option maxRecDepth 100000 in
theorem fl_X10_123 : zFL RX10 123 (RX4, TX4, 8) 0 := Or.inr ⟨"PitPact", znest_t 348 (by decide +kernel) (by decide +kernel)⟩
set_option maxRecDepth 100000 in
theorem fl_X10_127 : zFL RX10 127 (RX4, TX4, 8) 1 := Or.inr ⟨"PitPact", znest_t 351 (by decide +kernel) (by decide +kernel)⟩
set_option maxRecDepth 100000 in
theorem fl_X10_130 : zFL RX10 130 (RX4, TX4, 8) 2 := Or.inr ⟨"PitPact", znest_t 354 (by decide +kernel) (by decide +kernel)⟩
set_option maxRecDepth 100000 in
theorem fl_X10_133 : zFL RX10 133 (RX4, TX4, 8) 3 := Or.inr ⟨"PitPact", znest_t 356 (by decide +kernel) (by decide +kernel)⟩
set_option maxRecDepth 100000 in
theorem fl_X10_136 : zFL RX10 136 (RX4, TX4, 8) 5 := Or.inr ⟨"PitPact", znest_t 361 (by decide +kernel) (by decide +kernel)⟩
set_option maxRecDepth 100000 in
theorem fl_X10_148 : zFL RX10 148 (RX9, TX9, 13) 2 := Or.inr ⟨"PitPact", znest_t 161 (by decide +kernel) (by decide +kernel)⟩
set_option maxRecDepth 100000 in
theorem fl_X10_151 : zFL RX10 151 (RX9, TX9, 13) 4 := Or.inr ⟨"PitPact", znest_t 165 (by decide +kernel) (by decide +kernel)⟩
set_option maxRecDepth 100000 in
theorem fl_X10_154 : zFL RX10 154 (RX9, TX9, 13) 3 := Or.inr ⟨"PitPact", znest_t 163 (by decide +kernel) (by decide +kernel)⟩
set_option maxRecDepth 100000 in
theorem fl_X10_158 : zFL RX10 158 (RX4, TX4, 8) 4 := Or.inr ⟨"PitPact", znest_t 358 (by decide +kernel) (by decide +kernel)⟩
set_option maxRecDepth 100000 in
theorem fw_X10_164 : Cond.fieldLink RX10 164 (TX10 13).1 (TX10 13).2.1 (TX10 13).2.2.1 ∈ zgood := zgood_t 292 (by decide +kernel) (by decide +kernel)
set_option maxRecDepth 100000 in
theorem fl_X10_164 : zFL RX10 164 (RX10, TX10, 15) 13 := Or.inl fw_X10_164
set_option maxRecDepth 100000 in
theorem fw_X10_17 : Cond.fieldLink RX10 17 (TX10 1).1 (TX10 1).2.1 (TX10 1).2.2.1 ∈ zgood := zgood_t 280 (by decide +kernel) (by decide +kernel)
set_option maxRecDepth 100000 in
theorem fl_X10_17 : zFL RX10 17 (RX10, TX10, 15) 1 := Or.inl fw_X10_17
set_option maxRecDepth 100000 in
theorem fl_X10_173 : zFL RX10 173 (RX1, TX1, 7) 0 := Or.inr ⟨"PitPact", znest_t 415 (by decide +kernel) (by decide +kernel)⟩
set_option maxRecDepth 100000 in
theorem fl_X10_176 : zFL RX10 176 (RX1, TX1, 7) 1 := Or.inr ⟨"PitPact", znest_t 418 (by decide +kernel) (by decide +kernel)⟩
set_option maxRecDepth 100000 in
theorem fl_X10_179 : zFL RX10 179 (RX1, TX1, 7) 2 := Or.inr ⟨"PitPact", znest_t 421 (by decide +kernel) (by decide +kernel)⟩
set_option maxRecDepth 100000 in
theorem fl_X10_182 : zFL RX10 182 (RX1, TX1, 7) 3 := Or.inr ⟨"PitPact", znest_t 423 (by decide +kernel) (by decide +kernel)⟩
set_option maxRecDepth 100000 in
theorem fl_X10_185 : zFL RX10 185 (RX1, TX1, 7) 4 := Or.inr ⟨"PitPact", znest_t 425 (by decide +kernel) (by decide +kernel)⟩
set_option maxRecDepth 100000 in
theorem fl_X10_188 : zFL RX10 188 (RX1, TX1, 7) 5 := Or.inr ⟨"PitPact", znest_t 428 (by decide +kernel) (by decide +kernel)⟩
set_option maxRecDepth 100000 in
theorem fl_X10_191 : zFL RX10 191 (RX1, TX1, 7) 6 := Or.inr ⟨"PitPact", znest_t 430 (by decide +kernel) (by decide +kernel)⟩
set_option maxRecDepth 100000 in
theorem fl_X10_209 : zFL RX10 209 (RX8, TX8, 2) 1 := Or.inr ⟨"PitPact", znest_t 44 (by decide +kernel) (by decide +kernel)⟩
set_option maxRecDepth 100000 in
theorem fw_X10_23 : Cond.fieldLink RX10 23 (TX10 2).1 (TX10 2).2.1 (TX10 2).2.2.1 ∈ zgood := zgood_t 281 (by decide +kernel) (by decide +kernel)
set_option maxRecDepth 100000 in
theorem fl_X10_23 : zFL RX10 23 (RX10, TX10, 15) 2 := Or.inl fw_X10_23
set_option maxRecDepth 100000 in
theorem fl_X10_237 : zFL RX10 237 (RX7, TX7, 11) 8 := Or.inr ⟨"PitPact", znest_t 123 (by decide +kernel) (by decide +kernel)⟩
set_option maxRecDepth 100000 in
theorem fl_X10_240 : zFL RX10 240 (RX7, TX7, 11) 9 := Or.inr ⟨"PitPact", znest_t 125 (by decide +kernel) (by decide +kernel)⟩
set_option maxRecDepth 100000 in
theorem fl_X10_243 : zFL RX10 243 (RX7, TX7, 11) 10 := Or.inr ⟨"PitPact", znest_t 127 (by decide +kernel) (by decide +kernel)⟩
set_option maxRecDepth 100000 in
theorem fl_X10_246 : zFL RX10 246 (RX7, TX7, 11) 7 := Or.inr ⟨"PitPact", znest_t 121 (by decide +kernel) (by decide +kernel)⟩
set_option maxRecDepth 100000 in
theorem fl_X10_258 : zFL RX10 258 (RX9, TX9, 13) 1 := Or.inr ⟨"PitPact", znest_t 159 (by decide +kernel) (by decide +kernel)⟩
set_option maxRecDepth 100000 in
theorem fl_X10_261 : zFL RX10 261 (RX9, TX9, 13) 9 := Or.inr ⟨"PitPact", znest_t 171 (by decide +kernel) (by decide +kernel)⟩
set_option maxRecDepth 100000 in
theorem fl_X10_274 : zFL RX10 274 (RX6, TX6, 15) 0 := Or.inr ⟨"PitPact", znest_t 214 (by decide +kernel) (by decide +kernel)⟩
set_option maxRecDepth 100000 in
theorem fw_X10_29 : Cond.fieldLink RX10 29 (TX10 3).1 (TX10 3).2.1 (TX10 3).2.2.1 ∈ zgood := zgood_t 282 (by decide +kernel) (by decide +kernel)
set_option maxRecDepth 100000 in
theorem fl_X10_29 : zFL RX10 29 (RX10, TX10, 15) 3 := Or.inl fw_X10_29
set_option maxRecDepth 100000 in
theorem fl_X10_298 : zFL RX10 298 (RX6, TX6, 15) 14 := Or.inr ⟨"PitPact", znest_t 230 (by decide +kernel) (by decide +kernel)⟩
set_option maxRecDepth 100000 in
theorem fl_X10_301 : zFL RX10 301 (RX6, TX6, 15) 13 := Or.inr ⟨"PitPact", znest_t 228 (by decide +kernel) (by decide +kernel)⟩
set_option maxRecDepth 100000 in
theorem fl_X10_308 : zFL RX10 308 (RX4, TX4, 8) 6 := Or.inr ⟨"PitPact", znest_t 362 (by decide +kernel) (by decide +kernel)⟩
set_option maxRecDepth 100000 in
theorem fl_X10_311 : zFL RX10 311 (RX4, TX4, 8) 7 := Or.inr ⟨"PitPact", znest_t 364 (by decide +kernel) (by decide +kernel)⟩
set_option maxRecDepth 100000 in
theorem fw_X10_315 : Cond.fieldLink RX10 315 (TX10 14).1 (TX10 14).2.1 (TX10 14).2.2.1 ∈ zgood := zgood_t 293 (by decide +kernel) (by decide +kernel)
set_option maxRecDepth 100000 in
theorem fl_X10_315 : zFL RX10 315 (RX10, TX10, 15) 14 := Or.inl fw_X10_315
set_option maxRecDepth 100000 in
theorem fl_X10_349 : zFL RX10 349 (RX9, TX9, 13) 10 := Or.inr ⟨"PitPact", znest_t 173 (by decide +kernel) (by decide +kernel)⟩
set_option maxRecDepth 100000 in
theorem fl_X10_352 : zFL RX10 352 (RX9, TX9, 13) 11 := Or.inr ⟨"PitPact", znest_t 175 (by decide +kernel) (by decide +kernel)⟩
set_option maxRecDepth 100000 in
theorem fl_X10_355 : zFL RX10 355 (RX9, TX9, 13) 12 := Or.inr ⟨"PitPact", znest_t 177 (by decide +kernel) (by decide +kernel)⟩
set_option maxRecDepth 100000 in
theorem fw_X10_37 : Cond.fieldLink RX10 37 (TX10 4).1 (TX10 4).2.1 (TX10 4).2.2.1 ∈ zgood := zgood_t 283 (by decide +kernel) (by decide +kernel)
set_option maxRecDepth 100000 in
theorem fl_X10_37 : zFL RX10 37 (RX10, TX10, 15) 4 := Or.inl fw_X10_37
set_option maxRecDepth 100000 in
theorem fl_X10_379 : zFL RX10 379 (RX7, TX7, 11) 4 := Or.inr ⟨"PitPact", znest_t 116 (by decide +kernel) (by decide +kernel)⟩
set_option maxRecDepth 100000 in
theorem fl_X10_382 : zFL RX10 382 (RX7, TX7, 11) 3 := Or.inr ⟨"PitPact", znest_t 114 (by decide +kernel) (by decide +kernel)⟩
set_option maxRecDepth 100000 in
theorem fl_X10_392 : zFL RX10 392 (RX7, TX7, 11) 2 := Or.inr ⟨"PitPact", znest_t 112 (by decide +kernel) (by decide +kernel)⟩
set_option maxRecDepth 100000 in
theorem fl_X10_395 : zFL RX10 395 (RX7, TX7, 11) 1 := Or.inr ⟨"PitPact", znest_t 110 (by decide +kernel) (by decide +kernel)⟩
set_option maxRecDepth 100000 in
theorem fl_X10_398 : zFL RX10 398 (RX7, TX7, 11) 0 := Or.inr ⟨"PitPact", znest_t 108 (by decide +kernel) (by decide +kernel)⟩
set_option maxRecDepth 100000 in
theorem fl_X10_408 : zFL RX10 408 (RX7, TX7, 11) 5 := Or.inr ⟨"PitPact", znest_t 118 (by decide +kernel) (by decide +kernel)⟩
set_option maxRecDepth 100000 in
theorem fl_X10_411 : zFL RX10 411 (RX0, TX0, 3) 0 := Or.inr ⟨"PitPact", znest_t 815 (by decide +kernel) (by decide +kernel)⟩
set_option maxRecDepth 100000 in
theorem fl_X10_412 : zFL RX10 412 (RX0, TX0, 3) 1 := Or.inr ⟨"PitPact", znest_t 817 (by decide +kernel) (by decide +kernel)⟩
set_option maxRecDepth 100000 in
theorem fl_X10_415 : zFL RX10 415 (RX0, TX0, 3) 2 := Or.inr ⟨"PitPact", znest_t 819 (by decide +kernel) (by decide +kernel)⟩
set_option maxRecDepth 100000 in
theorem fw_X10_43 : Cond.fieldLink RX10 43 (TX10 5).1 (TX10 5).2.1 (TX10 5).2.2.1 ∈ zgood := zgood_t 284 (by decide +kernel) (by decide +kernel)
set_option maxRecDepth 100000 in
theorem fl_X10_43 : zFL RX10 43 (RX10, TX10, 15) 5 := Or.inl fw_X10_43
set_option maxRecDepth 100000 in
theorem fw_X10_47 : Cond.fieldLink RX10 47 (TX10 6).1 (TX10 6).2.1 (TX10 6).2.2.1 ∈ zgood := zgood_t 285 (by decide +kernel) (by decide +kernel)
set_option maxRecDepth 100000 in
theorem fl_X10_47 : zFL RX10 47 (RX10, TX10, 15) 6 := Or.inl fw_X10_47
set_option maxRecDepth 100000 in
theorem fw_X10_54 : Cond.fieldLink RX10 54 (TX10 7).1 (TX10 7).2.1 (TX10 7).2.2.1 ∈ zgood := zgood_t 286 (by decide +kernel) (by decide +kernel)
set_option maxRecDepth 100000 in
theorem fl_X10_54 : zFL RX10 54 (RX10, TX10, 15) 7 := Or.inl fw_X10_54
set_option maxRecDepth 100000 in
theorem fw_X10_61 : Cond.fieldLink RX10 61 (TX10 8).1 (TX10 8).2.1 (TX10 8).2.2.1 ∈ zgood := zgood_t 287 (by decide +kernel) (by decide +kernel)
set_option maxRecDepth 100000 in
theorem fl_X10_61 : zFL RX10 61 (RX10, TX10, 15) 8 := Or.inl fw_X10_61
set_option maxRecDepth 100000 in
theorem fw_X10_68 : Cond.fieldLink RX10 68 (TX10 9).1 (TX10 9).2.1 (TX10 9).2.2.1 ∈ zgood := zgood_t 288 (by decide +kernel) (by decide +kernel)
set_option maxRecDepth 100000 in
theorem fl_X10_68 : zFL RX10 68 (RX10, TX10, 15) 9 := Or.inl fw_X10_68
set_option maxRecDepth 100000 in
theorem fw_X10_72 : Cond.fieldLink RX10 72 (TX10 10).1 (TX10 10).2.1 (TX10 10).2.2.1 ∈ zgood := zgood_t 289 (by decide +kernel) (by decide +kernel)
set_option maxRecDepth 100000 in
theorem fl_X10_72 : zFL RX10 72 (RX10, TX10, 15) 10 := Or.inl fw_X10_72
set_option maxRecDepth 100000 in
theorem fw_X10_78 : Cond.fieldLink RX10 78 (TX10 11).1 (TX10 11).2.1 (TX10 11).2.2.1 ∈ zgood := zgood_t 290 (by decide +kernel) (by decide +kernel)
set_option maxRecDepth 100000 in
theorem fl_X10_78 : zFL RX10 78 (RX10, TX10, 15) 11 := Or.inl fw_X10_78
set_option maxRecDepth 100000 in
theorem fl_X10_99 : zFL RX10 99 (RX5, TX5, 2) 0 := Or.inr ⟨"PitPact", znest_t 268 (by decide +kernel) (by decide +kernel)⟩
set_option maxRecDepth 100000 in
theorem fw_X11_102 : Cond.fieldLink RX11 102 (TX11 36).1 (TX11 36).2.1 (TX11 36).2.2.1 ∈ zgood := zgood_t 931 (by decide +kernel) (by decide +kernel)
set_option maxRecDepth 100000 in
theorem fl_X11_102 : zFL RX11 102 (RX11, TX11, 54) 36 := Or.inl fw_X11_102
set_option maxRecDepth 100000 in
theorem fw_X11_105 : Cond.fieldLink RX11 105 (TX11 37).1 (TX11 37).2.1 (TX11 37).2.2.1 ∈ zgood := zgood_t 932 (by decide +kernel) (by decide +kernel)
set_option maxRecDepth 100000 in
theorem fl_X11_105 : zFL RX11 105 (RX11, TX11, 54) 37 := Or.inl fw_X11_105
set_option maxRecDepth 100000 in
theorem fw_X11_108 : Cond.fieldLink RX11 108 (TX11 38).1 (TX11 38).2.1 (TX11 38).2.2.1 ∈ zgood := zgood_t 933 (by decide +kernel) (by decide +kernel)
set_option maxRecDepth 100000 in
theorem fl_X11_108 : zFL RX11 108 (RX11, TX11, 54) 38 := Or.inl fw_X11_108
set_option maxRecDepth 100000 in
theorem fw_X11_111 : Cond.fieldLink RX11 111 (TX11 43).1 (TX11 43).2.1 (TX11 43).2.2.1 ∈ zgood := zgood_t 938 (by decide +kernel) (by decide +kernel)
set_option maxRecDepth 100000 in
theorem fl_X11_111 : zFL RX11 111 (RX11, TX11, 54) 43 := Or.inl fw_X11_111
set_option maxRecDepth 100000 in
theorem fw_X11_114 : Cond.fieldLink RX11 114 (TX11 44).1 (TX11 44).2.1 (TX11 44).2.2.1 ∈ zgood := zgood_t 939 (by decide +kernel) (by decide +kernel)
set_option maxRecDepth 100000 in
theorem fl_X11_114 : zFL RX11 114 (RX11, TX11, 54) 44 := Or.inl fw_X11_114
set_option maxRecDepth 100000 in
theorem fw_X11_117 : Cond.fieldLink RX11 117 (TX11 45).1 (TX11 45).2.1 (TX11 45).2.2.1 ∈ zgood := zgood_t 940 (by decide +kernel) (by decide +kernel)
set_option maxRecDepth 100000 in
theorem fl_X11_117 : zFL RX11 117 (RX11, TX11, 54) 45 := Or.inl fw_X11_117
set_option maxRecDepth 100000 in
theorem fw_X11_120 : Cond.fieldLink RX11 120 (TX11 47).1 (TX11 47).2.1 (TX11 47).2.2.1 ∈ zgood := zgood_t 942 (by decide +kernel) (by decide +kernel)
set_option maxRecDepth 100000 in
theorem fl_X11_120 : zFL RX11 120 (RX11, TX11, 54) 47 := Or.inl fw_X11_120
set_option maxRecDepth 100000 in
theorem fw_X11_123 : Cond.fieldLink RX11 123 (TX11 48).1 (TX11 48).2.1 (TX11 48).2.2.1 ∈ zgood := zgood_t 943 (by decide +kernel) (by decide +kernel)
set_option maxRecDepth 100000 in
theorem fl_X11_123 : zFL RX11 123 (RX11, TX11, 54) 48 := Or.inl fw_X11_123
set_option maxRecDepth 100000 in
theorem fw_X11_126 : Cond.fieldLink RX11 126 (TX11 49).1 (TX11 49).2.1 (TX11 49).2.2.1 ∈ zgood := zgood_t 944 (by decide +kernel) (by decide +kernel)
set_option maxRecDepth 100000 in
theorem fl_X11_126 : zFL RX11 126 (RX11, TX11, 54) 49 := Or.inl fw_X11_126
set_option maxRecDepth 100000 in
theorem fw_X11_129 : Cond.fieldLink RX11 129 (TX11 50).1 (TX11 50).2.1 (TX11 50).2.2.1 ∈ zgood := zgood_t 945 (by decide +kernel) (by decide +kernel)
set_option maxRecDepth 100000 in
theorem fl_X11_129 : zFL RX11 129 (RX11, TX11, 54) 50 := Or.inl fw_X11_129
set_option maxRecDepth 100000 in
theorem fw_X11_13 : Cond.fieldLink RX11 13 (TX11 1).1 (TX11 1).2.1 (TX11 1).2.2.1 ∈ zgood := zgood_t 896 (by decide +kernel) (by decide +kernel)
set_option maxRecDepth 100000 in
theorem fl_X11_13 : zFL RX11 13 (RX11, TX11, 54) 1 := Or.inl fw_X11_13
set_option maxRecDepth 100000 in
theorem fw_X11_132 : Cond.fieldLink RX11 132 (TX11 51).1 (TX11 51).2.1 (TX11 51).2.2.1 ∈ zgood := zgood_t 946 (by decide +kernel) (by decide +kernel)
set_option maxRecDepth 100000 in
theorem fl_X11_132 : zFL RX11 132 (RX11, TX11, 54) 51 := Or.inl fw_X11_132
set_option maxRecDepth 100000 in
theorem fw_X11_135 : Cond.fieldLink RX11 135 (TX11 52).1 (TX11 52).2.1 (TX11 52).2.2.1 ∈ zgood := zgood_t 947 (by decide +kernel) (by decide +kernel)
set_option maxRecDepth 100000 in
theorem fl_X11_135 : zFL RX11 135 (RX11, TX11, 54) 52 := Or.inl fw_X11_135
set_option maxRecDepth 100000 in
theorem fw_X11_144 : Cond.fieldLink RX11 144 (TX11 9).1 (TX11 9).2.1 (TX11 9).2.2.1 ∈ zgood := zgood_t 904 (by decide +kernel) (by decide +kernel)
set_option maxRecDepth 100000 in
theorem fl_X11_144 : zFL RX11 144 (RX11, TX11, 54) 9 := Or.inl fw_X11_144
set_option maxRecDepth 100000 in
theorem fw_X11_16 : Cond.fieldLink RX11 16 (TX11 2).1 (TX11 2).2.1 (TX11 2).2.2.1 ∈ zgood := zgood_t 897 (by decide +kernel) (by decide +kernel)
set_option maxRecDepth 100000 in
theorem fl_X11_16 : zFL RX11 16 (RX11, TX11, 54) 2 := Or.inl fw_X11_16
set_option maxRecDepth 100000 in
theorem fw_X11_166 : Cond.fieldLink RX11 166 (TX11 17).1 (TX11 17).2.1 (TX11 17).2.2.1 ∈ zgood := zgood_t 912 (by decide +kernel) (by decide +kernel)
set_option maxRecDepth 100000 in
theorem fl_X11_166 : zFL RX11 166 (RX11, TX11, 54) 17 := Or.inl fw_X11_166
set_option maxRecDepth 100000 in
theorem fw_X11_19 : Cond.fieldLink RX11 19 (TX11 3).1 (TX11 3).2.1 (TX11 3).2.2.1 ∈ zgood := zgood_t 898 (by decide +kernel) (by decide +kernel)
set_option maxRecDepth 100000 in
theorem fl_X11_19 : zFL RX11 19 (RX11, TX11, 54) 3 := Or.inl fw_X11_19
set_option maxRecDepth 100000 in
theorem fw_X11_22 : Cond.fieldLink RX11 22 (TX11 4).1 (TX11 4).2.1 (TX11 4).2.2.1 ∈ zgood := zgood_t 899 (by decide +kernel) (by decide +kernel)
set_option maxRecDepth 100000 in
theorem fl_X11_22 : zFL RX11 22 (RX11, TX11, 54) 4 := Or.inl fw_X11_22
set_option maxRecDepth 100000 in
theorem fw_X11_229 : Cond.fieldLink RX11 229 (TX11 22).1 (TX11 22).2.1 (TX11 22).2.2.1 ∈ zgood := zgood_t 917 (by decide +kernel) (by decide +kernel)
set_option maxRecDepth 100000 in
theorem fl_X11_229 : zFL RX11 229 (RX11, TX11, 54) 22 := Or.inl fw_X11_229
set_option maxRecDepth 100000 in
theorem fw_X11_25 : Cond.fieldLink RX11 25 (TX11 5).1 (TX11 5).2.1 (TX11 5).2.2.1 ∈ zgood := zgood_t 900 (by decide +kernel) (by decide +kernel)
set_option maxRecDepth 100000 in
theorem fl_X11_25 : zFL RX11 25 (RX11, TX11, 54) 5 := Or.inl fw_X11_25
set_option maxRecDepth 100000 in
theorem fw_X11_255 : Cond.fieldLink RX11 255 (TX11 24).1 (TX11 24).2.1 (TX11 24).2.2.1 ∈ zgood := zgood_t 919 (by decide +kernel) (by decide +kernel)
set_option maxRecDepth 100000 in
theorem fl_X11_255 : zFL RX11 255 (RX11, TX11, 54) 24 := Or.inl fw_X11_255
set_option maxRecDepth 100000 in
theorem fw_X11_258 : Cond.fieldLink RX11 258 (TX11 25).1 (TX11 25).2.1 (TX11 25).2.2.1 ∈ zgood := zgood_t 920 (by decide +kernel) (by decide +kernel)
set_option maxRecDepth 100000 in
theorem fl_X11_258 : zFL RX11 258 (RX11, TX11, 54) 25 := Or.inl fw_X11_258
set_option maxRecDepth 100000 in
theorem fw_X11_264 : Cond.fieldLink RX11 264 (TX11 28).1 (TX11 28).2.1 (TX11 28).2.2.1 ∈ zgood := zgood_t 923 (by decide +kernel) (by decide +kernel)
set_option maxRecDepth 100000 in
theorem fl_X11_264 : zFL RX11 264 (RX11, TX11, 54) 28 := Or.inl fw_X11_264
set_option maxRecDepth 100000 in
theorem fw_X11_28 : Cond.fieldLink RX11 28 (TX11 6).1 (TX11 6).2.1 (TX11 6).2.2.1 ∈ zgood := zgood_t 901 (by decide +kernel) (by decide +kernel)
set_option maxRecDepth 100000 in
theorem fl_X11_28 : zFL RX11 28 (RX11, TX11, 54) 6 := Or.inl fw_X11_28
set_option maxRecDepth 100000 in
theorem fw_X11_293 : Cond.fieldLink RX11 293 (TX11 39).1 (TX11 39).2.1 (TX11 39).2.2.1 ∈ zgood := zgood_t 934 (by decide +kernel) (by decide +kernel)
set_option maxRecDepth 100000 in
theorem fl_X11_293 : zFL RX11 293 (RX11, TX11, 54) 39 := Or.inl fw_X11_293
set_option maxRecDepth 100000 in
theorem fw_X11_300 : Cond.fieldLink RX11 300 (TX11 41).1 (TX11 41).2.1 (TX11 41).2.2.1 ∈ zgood := zgood_t 936 (by decide +kernel) (by decide +kernel)
set_option maxRecDepth 100000 in
theorem fl_X11_300 : zFL RX11 300 (RX11, TX11, 54) 41 := Or.inl fw_X11_300
set_option maxRecDepth 100000 in
theorem fw_X11_303 : Cond.fieldLink RX11 303 (TX11 42).1 (TX11 42).2.1 (TX11 42).2.2.1 ∈ zgood := zgood_t 937 (by decide +kernel) (by decide +kernel)
set_option maxRecDepth 100000 in
theorem fl_X11_303 : zFL RX11 303 (RX11, TX11, 54) 42 := Or.inl fw_X11_303
set_option maxRecDepth 100000 in
theorem fw_X11_31 : Cond.fieldLink RX11 31 (TX11 7).1 (TX11 7).2.1 (TX11 7).2.2.1 ∈ zgood := zgood_t 902 (by decide +kernel) (by decide +kernel)
set_option maxRecDepth 100000 in
theorem fl_X11_31 : zFL RX11 31 (RX11, TX11, 54) 7 := Or.inl fw_X11_31
set_option maxRecDepth 100000 in
theorem fw_X11_314 : Cond.fieldLink RX11 314 (TX11 40).1 (TX11 40).2.1 (TX11 40).2.2.1 ∈ zgood := zgood_t 935 (by decide +kernel) (by decide +kernel)
set_option maxRecDepth 100000 in
theorem fl_X11_314 : zFL RX11 314 (RX11, TX11, 54) 40 := Or.inl fw_X11_314
set_option maxRecDepth 100000 in
theorem fw_X11_319 : Cond.fieldLink RX11 319 (TX11 46).1 (TX11 46).2.1 (TX11 46).2.2.1 ∈ zgood := zgood_t 941 (by decide +kernel) (by decide +kernel)
set_option maxRecDepth 100000 in
theorem fl_X11_319 : zFL RX11 319 (RX11, TX11, 54) 46 := Or.inl fw_X11_319
set_option maxRecDepth 100000 in
theorem fw_X11_343 : Cond.fieldLink RX11 343 (TX11 53).1 (TX11 53).2.1 (TX11 53).2.2.1 ∈ zgood := zgood_t 948 (by decide +kernel) (by decide +kernel)
set_option maxRecDepth 100000 in
theorem fl_X11_343 : zFL RX11 343 (RX11, TX11, 54) 53 := Or.inl fw_X11_343
set_option maxRecDepth 100000 in
theorem fw_X11_35 : Cond.fieldLink RX11 35 (TX11 8).1 (TX11 8).2.1 (TX11 8).2.2.1 ∈ zgood := zgood_t 903 (by decide +kernel) (by decide +kernel)
set_option maxRecDepth 100000 in
theorem fl_X11_35 : zFL RX11 35 (RX11, TX11, 54) 8 := Or.inl fw_X11_35
set_option maxRecDepth 100000 in
theorem fw_X11_38 : Cond.fieldLink RX11 38 (TX11 10).1 (TX11 10).2.1 (TX11 10).2.2.1 ∈ zgood := zgood_t 905 (by decide +kernel) (by decide +kernel)
set_option maxRecDepth 100000 in
theorem fl_X11_38 : zFL RX11 38 (RX11, TX11, 54) 10 := Or.inl fw_X11_38
set_option maxRecDepth 100000 in
theorem fw_X11_41 : Cond.fieldLink RX11 41 (TX11 11).1 (TX11 11).2.1 (TX11 11).2.2.1 ∈ zgood := zgood_t 906 (by decide +kernel) (by decide +kernel)
set_option maxRecDepth 100000 in
theorem fl_X11_41 : zFL RX11 41 (RX11, TX11, 54) 11 := Or.inl fw_X11_41
set_option maxRecDepth 100000 in
theorem fw_X11_44 : Cond.fieldLink RX11 44 (TX11 12).1 (TX11 12).2.1 (TX11 12).2.2.1 ∈ zgood := zgood_t 907 (by decide +kernel) (by decide +kernel)
set_option maxRecDepth 100000 in
theorem fl_X11_44 : zFL RX11 44 (RX11, TX11, 54) 12 := Or.inl fw_X11_44
set_option maxRecDepth 100000 in
theorem fw_X11_47 : Cond.fieldLink RX11 47 (TX11 13).1 (TX11 13).2.1 (TX11 13).2.2.1 ∈ zgood := zgood_t 908 (by decide +kernel) (by decide +kernel)
set_option maxRecDepth 100000 in
theorem fl_X11_47 : zFL RX11 47 (RX11, TX11, 54) 13 := Or.inl fw_X11_47
set_option maxRecDepth 100000 in
theorem fw_X11_50 : Cond.fieldLink RX11 50 (TX11 14).1 (TX11 14).2.1 (TX11 14).2.2.1 ∈ zgood := zgood_t 909 (by decide +kernel) (by decide +kernel)
set_option maxRecDepth 100000 in
theorem fl_X11_50 : zFL RX11 50 (RX11, TX11, 54) 14 := Or.inl fw_X11_50
set_option maxRecDepth 100000 in
theorem fw_X11_53 : Cond.fieldLink RX11 53 (TX11 15).1 (TX11 15).2.1 (TX11 15).2.2.1 ∈ zgood := zgood_t 910 (by decide +kernel) (by decide +kernel)
set_option maxRecDepth 100000 in
theorem fl_X11_53 : zFL RX11 53 (RX11, TX11, 54) 15 := Or.inl fw_X11_53
set_option maxRecDepth 100000 in
theorem fw_X11_56 : Cond.fieldLink RX11 56 (TX11 16).1 (TX11 16).2.1 (TX11 16).2.2.1 ∈ zgood := zgood_t 911 (by decide +kernel) (by decide +kernel)
set_option maxRecDepth 100000 in
theorem fl_X11_56 : zFL RX11 56 (RX11, TX11, 54) 16 := Or.inl fw_X11_56
set_option maxRecDepth 100000 in
theorem fw_X11_59 : Cond.fieldLink RX11 59 (TX11 18).1 (TX11 18).2.1 (TX11 18).2.2.1 ∈ zgood := zgood_t 913 (by decide +kernel) (by decide +kernel)
set_option maxRecDepth 100000 in
theorem fl_X11_59 : zFL RX11 59 (RX11, TX11, 54) 18 := Or.inl fw_X11_59
set_option maxRecDepth 100000 in
theorem fw_X11_62 : Cond.fieldLink RX11 62 (TX11 19).1 (TX11 19).2.1 (TX11 19).2.2.1 ∈ zgood := zgood_t 914 (by decide +kernel) (by decide +kernel)
set_option maxRecDepth 100000 in
theorem fl_X11_62 : zFL RX11 62 (RX11, TX11, 54) 19 := Or.inl fw_X11_62
set_option maxRecDepth 100000 in
theorem fw_X11_65 : Cond.fieldLink RX11 65 (TX11 20).1 (TX11 20).2.1 (TX11 20).2.2.1 ∈ zgood := zgood_t 915 (by decide +kernel) (by decide +kernel)
set_option maxRecDepth 100000 in
theorem fl_X11_65 : zFL RX11 65 (RX11, TX11, 54) 20 := Or.inl fw_X11_65
set_option maxRecDepth 100000 in
theorem fw_X11_68 : Cond.fieldLink RX11 68 (TX11 21).1 (TX11 21).2.1 (TX11 21).2.2.1 ∈ zgood := zgood_t 916 (by decide +kernel) (by decide +kernel)
set_option maxRecDepth 100000 in
theorem fl_X11_68 : zFL RX11 68 (RX11, TX11, 54) 21 := Or.inl fw_X11_68
set_option maxRecDepth 100000 in
theorem fw_X11_7 : Cond.fieldLink RX11 7 (TX11 0).1 (TX11 0).2.1 (TX11 0).2.2.1 ∈ zgood := zgood_t 895 (by decide +kernel) (by decide +kernel)
set_option maxRecDepth 100000 in
theorem fl_X11_7 : zFL RX11 7 (RX11, TX11, 54) 0 := Or.inl fw_X11_7
set_option maxRecDepth 100000 in
theorem fw_X11_71 : Cond.fieldLink RX11 71 (TX11 23).1 (TX11 23).2.1 (TX11 23).2.2.1 ∈ zgood := zgood_t 918 (by decide +kernel) (by decide +kernel)
set_option maxRecDepth 100000 in
theorem fl_X11_71 : zFL RX11 71 (RX11, TX11, 54) 23 := Or.inl fw_X11_71
set_option maxRecDepth 100000 in
theorem fw_X11_74 : Cond.fieldLink RX11 74 (TX11 26).1 (TX11 26).2.1 (TX11 26).2.2.1 ∈ zgood := zgood_t 921 (by decide +kernel) (by decide +kernel)
set_option maxRecDepth 100000 in
theorem fl_X11_74 : zFL RX11 74 (RX11, TX11, 54) 26 := Or.inl fw_X11_74
set_option maxRecDepth 100000 in
theorem fw_X11_77 : Cond.fieldLink RX11 77 (TX11 27).1 (TX11 27).2.1 (TX11 27).2.2.1 ∈ zgood := zgood_t 922 (by decide +kernel) (by decide +kernel)
set_option maxRecDepth 100000 in
theorem fl_X11_77 : zFL RX11 77 (RX11, TX11, 54) 27 := Or.inl fw_X11_77
set_option maxRecDepth 100000 in
theorem fw_X11_81 : Cond.fieldLink RX11 81 (TX11 29).1 (TX11 29).2.1 (TX11 29).2.2.1 ∈ zgood := zgood_t 924 (by decide +kernel) (by decide +kernel)
set_option maxRecDepth 100000 in
theorem fl_X11_81 : zFL RX11 81 (RX11, TX11, 54) 29 := Or.inl fw_X11_81
set_option maxRecDepth 100000 in
theorem fw_X11_84 : Cond.fieldLink RX11 84 (TX11 30).1 (TX11 30).2.1 (TX11 30).2.2.1 ∈ zgood := zgood_t 925 (by decide +kernel) (by decide +kernel)
set_option maxRecDepth 100000 in
theorem fl_X11_84 : zFL RX11 84 (RX11, TX11, 54) 30 := Or.inl fw_X11_84
set_option maxRecDepth 100000 in
theorem fw_X11_87 : Cond.fieldLink RX11 87 (TX11 31).1 (TX11 31).2.1 (TX11 31).2.2.1 ∈ zgood := zgood_t 926 (by decide +kernel) (by decide +kernel)
set_option maxRecDepth 100000 in
theorem fl_X11_87 : zFL RX11 87 (RX11, TX11, 54) 31 := Or.inl fw_X11_87
set_option maxRecDepth 100000 in
theorem fw_X11_90 : Cond.fieldLink RX11 90 (TX11 32).1 (TX11 32).2.1 (TX11 32).2.2.1 ∈ zgood := zgood_t 927 (by decide +kernel) (by decide +kernel)
set_option maxRecDepth 100000 in
theorem fl_X11_90 : zFL RX11 90 (RX11, TX11, 54) 32 := Or.inl fw_X11_90
set_option maxRecDepth 100000 in
theorem fw_X11_93 : Cond.fieldLink RX11 93 (TX11 33).1 (TX11 33).2.1 (TX11 33).2.2.1 ∈ zgood := zgood_t 928 (by decide +kernel) (by decide +kernel)
set_option maxRecDepth 100000 in
theorem fl_X11_93 : zFL RX11 93 (RX11, TX11, 54) 33 := Or.inl fw_X11_93
set_option maxRecDepth 100000 in
theorem fw_X11_96 : Cond.fieldLink RX11 96 (TX11 34).1 (TX11 34).2.1 (TX11 34).2.2.1 ∈ zgood := zgood_t 929 (by decide +kernel) (by decide +kernel)
set_option maxRecDepth 100000 in
theorem fl_X11_96 : zFL RX11 96 (RX11, TX11, 54) 34 := Or.inl fw_X11_96
set_option maxRecDepth 100000 in
theorem fw_X11_99 : Cond.fieldLink RX11 99 (TX11 35).1 (TX11 35).2.1 (TX11 35).2.2.1 ∈ zgood := zgood_t 930 (by decide +kernel) (by decide +kernel)
set_option maxRecDepth 100000 in
theorem fl_X11_99 : zFL RX11 99 (RX11, TX11, 54) 35 := Or.inl fw_X11_99
set_option maxRecDepth 100000 in
theorem fw_X2_13 : Cond.fieldLink RX2 13 (TX2 0).1 (TX2 0).2.1 (TX2 0).2.2.1 ∈ zgood := zgood_t 79 (by decide +kernel) (by decide +kernel)
set_option maxRecDepth 100000 in
theorem fl_X2_13 : zFL RX2 13 (RX2, TX2, 8) 0 := Or.inl fw_X2_13
set_option maxRecDepth 100000 in
theorem fw_X2_16 : Cond.fieldLink RX2 16 (TX2 1).1 (TX2 1).2.1 (TX2 1).2.2.1 ∈ zgood := zgood_t 81 (by decide +kernel) (by decide +kernel)
set_option maxRecDepth 100000 in
theorem fl_X2_16 : zFL RX2 16 (RX2, TX2, 8) 1 := Or.inl fw_X2_16
set_option maxRecDepth 100000 in
theorem fw_X2_20 : Cond.fieldLink RX2 20 (TX2 2).1 (TX2 2).2.1 (TX2 2).2.2.1 ∈ zgood := zgood_t 82 (by decide +kernel) (by decide +kernel)
set_option maxRecDepth 100000 in
theorem fl_X2_20 : zFL RX2 20 (RX2, TX2, 8) 2 := Or.inl fw_X2_20
set_option maxRecDepth 100000 in
theorem fw_X2_23 : Cond.fieldLink RX2 23 (TX2 3).1 (TX2 3).2.1 (TX2 3).2.2.1 ∈ zgood := zgood_t 83 (by decide +kernel) (by decide +kernel)
set_option maxRecDepth 100000 in
theorem fl_X2_23 : zFL RX2 23 (RX2, TX2, 8) 3 := Or.inl fw_X2_23
set_option maxRecDepth 100000 in
theorem fw_X2_26 : Cond.fieldLink RX2 26 (TX2 4).1 (TX2 4).2.1 (TX2 4).2.2.1 ∈ zgood := zgood_t 84 (by decide +kernel) (by decide +kernel)
set_option maxRecDepth 100000 in
theorem fl_X2_26 : zFL RX2 26 (RX2, TX2, 8) 4 := Or.inl fw_X2_26
set_option maxRecDepth 100000 in
theorem fw_X2_30 : Cond.fieldLink RX2 30 (TX2 5).1 (TX2 5).2.1 (TX2 5).2.2.1 ∈ zgood := zgood_t 85 (by decide +kernel) (by decide +kernel)
set_option maxRecDepth 100000 in
theorem fl_X2_30 : zFL RX2 30 (RX2, TX2, 8) 5 := Or.inl fw_X2_30
set_option maxRecDepth 100000 in
theorem fw_X2_33 : Cond.fieldLink RX2 33 (TX2 6).1 (TX2 6).2.1 (TX2 6).2.2.1 ∈ zgood := zgood_t 86 (by decide +kernel) (by decide +kernel)
set_option maxRecDepth 100000 in
theorem fl_X2_33 : zFL RX2 33 (RX2, TX2, 8) 6 := Or.inl fw_X2_33
set_option maxRecDepth 100000 in
theorem fw_X2_39 : Cond.fieldLink RX2 39 (TX2 7).1 (TX2 7).2.1 (TX2 7).2.2.1 ∈ zgood := zgood_t 87 (by decide +kernel) (by decide +kernel)
set_option maxRecDepth 100000 in
theorem fl_X2_39 : zFL RX2 39 (RX2, TX2, 8) 7 := Or.inl fw_X2_39
set_option maxRecDepth 100000 in
theorem fw_X3_15 : Cond.fieldLink RX3 15 (TX3 1).1 (TX3 1).2.1 (TX3 1).2.2.1 ∈ zgood := zgood_t 59 (by decide +kernel) (by decide +kernel)
set_option maxRecDepth 100000 in
theorem fl_X3_15 : zFL RX3 15 (RX3, TX3, 2) 1 := Or.inl fw_X3_15
set_option maxRecDepth 100000 in
theorem fl_X3_19 : zFL RX3 19 (RX8, TX8, 2) 1 := Or.inr ⟨"PitPact", znest_t 43 (by decide +kernel) (by decide +kernel)⟩
set_option maxRecDepth 100000 in
theorem fl_X3_24 : zFL RX3 24 (RX8, TX8, 2) 0 := Or.inr ⟨"PitPact", znest_t 41 (by decide +kernel) (by decide +kernel)⟩
set_option maxRecDepth 100000 in
theorem fl_X3_43 : zFL RX3 43 (RX1, TX1, 7) 0 := Or.inr ⟨"PitPact", znest_t 414 (by decide +kernel) (by decide +kernel)⟩
set_option maxRecDepth 100000 in
theorem fl_X3_48 : zFL RX3 48 (RX1, TX1, 7) 2 := Or.inr ⟨"PitPact", znest_t 420 (by decide +kernel) (by decide +kernel)⟩
set_option maxRecDepth 100000 in
theorem fl_X3_51 : zFL RX3 51 (RX1, TX1, 7) 1 := Or.inr ⟨"PitPact", znest_t 417 (by decide +kernel) (by decide +kernel)⟩
set_option maxRecDepth 100000 in
theorem fl_X3_54 : zFL RX3 54 (RX1, TX1, 7) 5 := Or.inr ⟨"PitPact", znest_t 427 (by decide +kernel) (by decide +kernel)⟩
set_option maxRecDepth 100000 in
theorem fw_X3_9 : Cond.fieldLink RX3 9 (TX3 0).1 (TX3 0).2.1 (TX3 0).2.2.1 ∈ zgood := zgood_t 58 (by decide +kernel) (by decide +kernel)
set_option maxRecDepth 100000 in
theorem fl_X3_9 : zFL RX3 9 (RX3, TX3, 2) 0 := Or.inl fw_X3_9
set_option maxRecDepth 100000 in
theorem fw_X4_9 : Cond.fieldLink RX4 9 (TX4 4).1 (TX4 4).2.1 (TX4 4).2.2.1 ∈ zgood := zgood_t 357 (by decide +kernel) (by decide +kernel)
set_option maxRecDepth 100000 in
theorem fl_X4_9 : zFL RX4 9 (RX4, TX4, 8) 4 := Or.inl fw_X4_9
set_option maxRecDepth 100000 in
theorem fw_X5_13 : Cond.fieldLink RX5 13 (TX5 1).1 (TX5 1).2.1 (TX5 1).2.2.1 ∈ zgood := zgood_t 269 (by decide +kernel) (by decide +kernel)
set_option maxRecDepth 100000 in
theorem fl_X5_13 : zFL RX5 13 (RX5, TX5, 2) 1 := Or.inl fw_X5_13
set_option maxRecDepth 100000 in
theorem fw_X5_7 : Cond.fieldLink RX5 7 (TX5 0).1 (TX5 0).2.1 (TX5 0).2.2.1 ∈ zgood := zgood_t 267 (by decide +kernel) (by decide +kernel)
set_option maxRecDepth 100000 in
theorem fl_X5_7 : zFL RX5 7 (RX5, TX5, 2) 0 := Or.inl fw_X5_7
set_option maxRecDepth 100000 in
theorem fw_X6_11 : Cond.fieldLink RX6 11 (TX6 0).1 (TX6 0).2.1 (TX6 0).2.2.1 ∈ zgood := zgood_t 213 (by decide +kernel) (by decide +kernel)
set_option maxRecDepth 100000 in
theorem fl_X6_11 : zFL RX6 11 (RX6, TX6, 15) 0 := Or.inl fw_X6_11
set_option maxRecDepth 100000 in
theorem fw_X6_127 : Cond.fieldLink RX6 127 (TX6 14).1 (TX6 14).2.1 (TX6 14).2.2.1 ∈ zgood := zgood_t 229 (by decide +kernel) (by decide +kernel)
set_option maxRecDepth 100000 in
theorem fl_X6_127 : zFL RX6 127 (RX6, TX6, 15) 14 := Or.inl fw_X6_127
set_option maxRecDepth 100000 in
theorem fw_X6_16 : Cond.fieldLink RX6 16 (TX6 1).1 (TX6 1).2.1 (TX6 1).2.2.1 ∈ zgood := zgood_t 215 (by decide +kernel) (by decide +kernel)
set_option maxRecDepth 100000 in
theorem fl_X6_16 : zFL RX6 16 (RX6, TX6, 15) 1 := Or.inl fw_X6_16
set_option maxRecDepth 100000 in
theorem fw_X6_20 : Cond.fieldLink RX6 20 (TX6 2).1 (TX6 2).2.1 (TX6 2).2.2.1 ∈ zgood := zgood_t 216 (by decide +kernel) (by decide +kernel)
set_option maxRecDepth 100000 in
theorem fl_X6_20 : zFL RX6 20 (RX6, TX6, 15) 2 := Or.inl fw_X6_20
set_option maxRecDepth 100000 in
theorem fw_X6_24 : Cond.fieldLink RX6 24 (TX6 3).1 (TX6 3).2.1 (TX6 3).2.2.1 ∈ zgood := zgood_t 217 (by decide +kernel) (by decide +kernel)
set_option maxRecDepth 100000 in
theorem fl_X6_24 : zFL RX6 24 (RX6, TX6, 15) 3 := Or.inl fw_X6_24
set_option maxRecDepth 100000 in
theorem fw_X6_27 : Cond.fieldLink RX6 27 (TX6 4).1 (TX6 4).2.1 (TX6 4).2.2.1 ∈ zgood := zgood_t 218 (by decide +kernel) (by decide +kernel)
set_option maxRecDepth 100000 in
theorem fl_X6_27 : zFL RX6 27 (RX6, TX6, 15) 4 := Or.inl fw_X6_27
set_option maxRecDepth 100000 in
theorem fw_X6_30 : Cond.fieldLink RX6 30 (TX6 5).1 (TX6 5).2.1 (TX6 5).2.2.1 ∈ zgood := zgood_t 219 (by decide +kernel) (by decide +kernel)
set_option maxRecDepth 100000 in
theorem fl_X6_30 : zFL RX6 30 (RX6, TX6, 15) 5 := Or.inl fw_X6_30
set_option maxRecDepth 100000 in
theorem fw_X6_33 : Cond.fieldLink RX6 33 (TX6 6).1 (TX6 6).2.1 (TX6 6).2.2.1 ∈ zgood := zgood_t 220 (by decide +kernel) (by decide +kernel)
set_option maxRecDepth 100000 in
theorem fl_X6_33 : zFL RX6 33 (RX6, TX6, 15) 6 := Or.inl fw_X6_33
set_option maxRecDepth 100000 in
theorem fw_X6_36 : Cond.fieldLink RX6 36 (TX6 7).1 (TX6 7).2.1 (TX6 7).2.2.1 ∈ zgood := zgood_t 221 (by decide +kernel) (by decide +kernel)
set_option maxRecDepth 100000 in
theorem fl_X6_36 : zFL RX6 36 (RX6, TX6, 15) 7 := Or.inl fw_X6_36
set_option maxRecDepth 100000 in
theorem fw_X6_39 : Cond.fieldLink RX6 39 (TX6 8).1 (TX6 8).2.1 (TX6 8).2.2.1 ∈ zgood := zgood_t 222 (by decide +kernel) (by decide +kernel)
set_option maxRecDepth 100000 in
theorem fl_X6_39 : zFL RX6 39 (RX6, TX6, 15) 8 := Or.inl fw_X6_39
set_option maxRecDepth 100000 in
theorem fw_X6_43 : Cond.fieldLink RX6 43 (TX6 9).1 (TX6 9).2.1 (TX6 9).2.2.1 ∈ zgood := zgood_t 223 (by decide +kernel) (by decide +kernel)
set_option maxRecDepth 100000 in
theorem fl_X6_43 : zFL RX6 43 (RX6, TX6, 15) 9 := Or.inl fw_X6_43
set_option maxRecDepth 100000 in
theorem fw_X6_46 : Cond.fieldLink RX6 46 (TX6 10).1 (TX6 10).2.1 (TX6 10).2.2.1 ∈ zgood := zgood_t 224 (by decide +kernel) (by decide +kernel)
set_option maxRecDepth 100000 in
theorem fl_X6_46 : zFL RX6 46 (RX6, TX6, 15) 10 := Or.inl fw_X6_46
set_option maxRecDepth 100000 in
theorem fw_X6_49 : Cond.fieldLink RX6 49 (TX6 11).1 (TX6 11).2.1 (TX6 11).2.2.1 ∈ zgood := zgood_t 225 (by decide +kernel) (by decide +kernel)
set_option maxRecDepth 100000 in
theorem fl_X6_49 : zFL RX6 49 (RX6, TX6, 15) 11 := Or.inl fw_X6_49
set_option maxRecDepth 100000 in
theorem fl_X6_52 : zFL RX6 52 (RX4, TX4, 8) 1 := Or.inr ⟨"PitPact", znest_t 350 (by decide +kernel) (by decide +kernel)⟩
set_option maxRecDepth 100000 in
theorem fl_X6_56 : zFL RX6 56 (RX4, TX4, 8) 5 := Or.inr ⟨"PitPact", znest_t 360 (by decide +kernel) (by decide +kernel)⟩
set_option maxRecDepth 100000 in
theorem fl_X6_63 : zFL RX6 63 (RX4, TX4, 8) 2 := Or.inr ⟨"PitPact", znest_t 353 (by decide +kernel) (by decide +kernel)⟩
set_option maxRecDepth 100000 in
theorem fw_X6_83 : Cond.fieldLink RX6 83 (TX6 12).1 (TX6 12).2.1 (TX6 12).2.2.1 ∈ zgood := zgood_t 226 (by decide +kernel) (by decide +kernel)
set_option maxRecDepth 100000 in
theorem fl_X6_83 : zFL RX6 83 (RX6, TX6, 15) 12 := Or.inl fw_X6_83
set_option maxRecDepth 100000 in
theorem fw_X6_94 : Cond.fieldLink RX6 94 (TX6 13).1 (TX6 13).2.1 (TX6 13).2.2.1 ∈ zgood := zgood_t 227 (by decide +kernel) (by decide +kernel)
set_option maxRecDepth 100000 in
theorem fl_X6_94 : zFL RX6 94 (RX6, TX6, 15) 13 := Or.inl fw_X6_94
set_option maxRecDepth 100000 in
theorem fw_X7_15 : Cond.fieldLink RX7 15 (TX7 1).1 (TX7 1).2.1 (TX7 1).2.2.1 ∈ zgood := zgood_t 109 (by decide +kernel) (by decide +kernel)
set_option maxRecDepth 100000 in
theorem fl_X7_15 : zFL RX7 15 (RX7, TX7, 11) 1 := Or.inl fw_X7_15
set_option maxRecDepth 100000 in
theorem fw_X7_18 : Cond.fieldLink RX7 18 (TX7 3).1 (TX7 3).2.1 (TX7 3).2.2.1 ∈ zgood := zgood_t 113 (by decide +kernel) (by decide +kernel)
set_option maxRecDepth 100000 in
theorem fl_X7_18 : zFL RX7 18 (RX7, TX7, 11) 3 := Or.inl fw_X7_18
set_option maxRecDepth 100000 in
theorem fw_X7_21 : Cond.fieldLink RX7 21 (TX7 5).1 (TX7 5).2.1 (TX7 5).2.2.1 ∈ zgood := zgood_t 117 (by decide +kernel) (by decide +kernel)
set_option maxRecDepth 100000 in
theorem fl_X7_21 : zFL RX7 21 (RX7, TX7, 11) 5 := Or.inl fw_X7_21
set_option maxRecDepth 100000 in
theorem fw_X7_27 : Cond.fieldLink RX7 27 (TX7 6).1 (TX7 6).2.1 (TX7 6).2.2.1 ∈ zgood := zgood_t 119 (by decide +kernel) (by decide +kernel)
set_option maxRecDepth 100000 in
theorem fl_X7_27 : zFL RX7 27 (RX7, TX7, 11) 6 := Or.inl fw_X7_27
set_option maxRecDepth 100000 in
theorem fw_X7_31 : Cond.fieldLink RX7 31 (TX7 2).1 (TX7 2).2.1 (TX7 2).2.2.1 ∈ zgood := zgood_t 111 (by decide +kernel) (by decide +kernel)
set_option maxRecDepth 100000 in
theorem fl_X7_31 : zFL RX7 31 (RX7, TX7, 11) 2 := Or.inl fw_X7_31
set_option maxRecDepth 100000 in
theorem fw_X7_35 : Cond.fieldLink RX7 35 (TX7 4).1 (TX7 4).2.1 (TX7 4).2.2.1 ∈ zgood := zgood_t 115 (by decide +kernel) (by decide +kernel)
set_option maxRecDepth 100000 in
theorem fl_X7_35 : zFL RX7 35 (RX7, TX7, 11) 4 := Or.inl fw_X7_35
set_option maxRecDepth 100000 in
theorem fl_X7_45 : zFL RX7 45 (RX2, TX2, 8) 0 := Or.inr ⟨"PitPact", znest_t 80 (by decide +kernel) (by decide +kernel)⟩
set_option maxRecDepth 100000 in
theorem fw_X7_9 : Cond.fieldLink RX7 9 (TX7 0).1 (TX7 0).2.1 (TX7 0).2.2.1 ∈ zgood := zgood_t 107 (by decide +kernel) (by decide +kernel)
set_option maxRecDepth 100000 in
theorem fl_X7_9 : zFL RX7 9 (RX7, TX7, 11) 0 := Or.inl fw_X7_9
set_option maxRecDepth 100000 in
theorem fw_X8_15 : Cond.fieldLink RX8 15 (TX8 1).1 (TX8 1).2.1 (TX8 1).2.2.1 ∈ zgood := zgood_t 42 (by decide +kernel) (by decide +kernel)
set_option maxRecDepth 100000 in
theorem fl_X8_15 : zFL RX8 15 (RX8, TX8, 2) 1 := Or.inl fw_X8_15
set_option maxRecDepth 100000 in
theorem fw_X8_9 : Cond.fieldLink RX8 9 (TX8 0).1 (TX8 0).2.1 (TX8 0).2.2.1 ∈ zgood := zgood_t 40 (by decide +kernel) (by decide +kernel)
set_option maxRecDepth 100000 in
theorem fl_X8_9 : zFL RX8 9 (RX8, TX8, 2) 0 := Or.inl fw_X8_9
set_option maxRecDepth 100000 in
theorem fw_X9_15 : Cond.fieldLink RX9 15 (TX9 1).1 (TX9 1).2.1 (TX9 1).2.2.1 ∈ zgood := zgood_t 158 (by decide +kernel) (by decide +kernel)
set_option maxRecDepth 100000 in
theorem fl_X9_15 : zFL RX9 15 (RX9, TX9, 13) 1 := Or.inl fw_X9_15
set_option maxRecDepth 100000 in
theorem fw_X9_18 : Cond.fieldLink RX9 18 (TX9 2).1 (TX9 2).2.1 (TX9 2).2.2.1 ∈ zgood := zgood_t 160 (by decide +kernel) (by decide +kernel)
set_option maxRecDepth 100000 in
theorem fl_X9_18 : zFL RX9 18 (RX9, TX9, 13) 2 := Or.inl fw_X9_18
set_option maxRecDepth 100000 in
theorem fw_X9_21 : Cond.fieldLink RX9 21 (TX9 3).1 (TX9 3).2.1 (TX9 3).2.2.1 ∈ zgood := zgood_t 162 (by decide +kernel) (by decide +kernel)
set_option maxRecDepth 100000 in
theorem fl_X9_21 : zFL RX9 21 (RX9, TX9, 13) 3 := Or.inl fw_X9_21
set_option maxRecDepth 100000 in
theorem fw_X9_25 : Cond.fieldLink RX9 25 (TX9 4).1 (TX9 4).2.1 (TX9 4).2.2.1 ∈ zgood := zgood_t 164 (by decide +kernel) (by decide +kernel)
set_option maxRecDepth 100000 in
theorem fl_X9_25 : zFL RX9 25 (RX9, TX9, 13) 4 := Or.inl fw_X9_25
set_option maxRecDepth 100000 in
theorem fw_X9_28 : Cond.fieldLink RX9 28 (TX9 6).1 (TX9 6).2.1 (TX9 6).2.2.1 ∈ zgood := zgood_t 167 (by decide +kernel) (by decide +kernel)
set_option maxRecDepth 100000 in
theorem fl_X9_28 : zFL RX9 28 (RX9, TX9, 13) 6 := Or.inl fw_X9_28
set_option maxRecDepth 100000 in
theorem fw_X9_31 : Cond.fieldLink RX9 31 (TX9 7).1 (TX9 7).2.1 (TX9 7).2.2.1 ∈ zgood := zgood_t 168 (by decide +kernel) (by decide +kernel)
set_option maxRecDepth 100000 in
theorem fl_X9_31 : zFL RX9 31 (RX9, TX9, 13) 7 := Or.inl fw_X9_31
set_option maxRecDepth 100000 in
theorem fw_X9_34 : Cond.fieldLink RX9 34 (TX9 8).1 (TX9 8).2.1 (TX9 8).2.2.1 ∈ zgood := zgood_t 169 (by decide +kernel) (by decide +kernel)
set_option maxRecDepth 100000 in
theorem fl_X9_34 : zFL RX9 34 (RX9, TX9, 13) 8 := Or.inl fw_X9_34
set_option maxRecDepth 100000 in
theorem fw_X9_37 : Cond.fieldLink RX9 37 (TX9 5).1 (TX9 5).2.1 (TX9 5).2.2.1 ∈ zgood := zgood_t 166 (by decide +kernel) (by decide +kernel)
set_option maxRecDepth 100000 in
theorem fl_X9_37 : zFL RX9 37 (RX9, TX9, 13) 5 := Or.inl fw_X9_37
set_option maxRecDepth 100000 in
theorem fw_X9_41 : Cond.fieldLink RX9 41 (TX9 9).1 (TX9 9).2.1 (TX9 9).2.2.1 ∈ zgood := zgood_t 170 (by decide +kernel) (by decide +kernel)
set_option maxRecDepth 100000 in
theorem fl_X9_41 : zFL RX9 41 (RX9, TX9, 13) 9 := Or.inl fw_X9_41
set_option maxRecDepth 100000 in
theorem fw_X9_50 : Cond.fieldLink RX9 50 (TX9 10).1 (TX9 10).2.1 (TX9 10).2.2.1 ∈ zgood := zgood_t 172 (by decide +kernel) (by decide +kernel)
set_option maxRecDepth 100000 in
theorem fl_X9_50 : zFL RX9 50 (RX9, TX9, 13) 10 := Or.inl fw_X9_50
set_option maxRecDepth 100000 in
theorem fw_X9_53 : Cond.fieldLink RX9 53 (TX9 11).1 (TX9 11).2.1 (TX9 11).2.2.1 ∈ zgood := zgood_t 174 (by decide +kernel) (by decide +kernel)
set_option maxRecDepth 100000 in
theorem fl_X9_53 : zFL RX9 53 (RX9, TX9, 13) 11 := Or.inl fw_X9_53
set_option maxRecDepth 100000 in
theorem fw_X9_56 : Cond.fieldLink RX9 56 (TX9 12).1 (TX9 12).2.1 (TX9 12).2.2.1 ∈ zgood := zgood_t 176 (by decide +kernel) (by decide +kernel)
set_option maxRecDepth 100000 in
theorem fl_X9_56 : zFL RX9 56 (RX9, TX9, 13) 12 := Or.inl fw_X9_56
set_option maxRecDepth 100000 in
theorem fw_X9_9 : Cond.fieldLink RX9 9 (TX9 0).1 (TX9 0).2.1 (TX9 0).2.2.1 ∈ zgood := zgood_t 157 (by decide +kernel) (by decide +kernel)
set_option maxRecDepth 100000 in
theorem fl_X9_9 : zFL RX9 9 (RX9, TX9, 13) 0 := Or.inl fw_X9_9
set_option maxRecDepth 100000 in
theorem sw_X10_197 : Cond.fieldLink RX10 197 RX10 "LEAST" "[I" ∈ zgood := zgood_t 470 (by decide +kernel) (by decide +kernel)
set_option maxRecDepth 100000 in
theorem sw_X10_200 : Cond.fieldLink RX10 200 RX10 "MOST" "[I" ∈ zgood := zgood_t 472 (by decide +kernel) (by decide +kernel)
set_option maxRecDepth 100000 in
theorem sw_X10_33 : Cond.fieldLink RX10 33 RX10 "AT_FIRST" "[I" ∈ zgood := zgood_t 32 (by decide +kernel) (by decide +kernel)
set_option maxRecDepth 100000 in
theorem ml_L_12 : zML RL 12 yX11_init := Or.inl (zgood_t 890 (by decide +kernel) (by decide +kernel))
set_option maxRecDepth 100000 in
theorem ii_X11 : Cond.initialized RX11 ∈ zgood := zgood_t 10 (by decide +kernel) (by decide +kernel)
set_option maxRecDepth 100000 in
theorem kw_X11_init : Cond.code yX11_init cX11_init 2 none ∈ zgood := zgood_t 892 (by rfl) (by decide +kernel)
set_option maxRecDepth 100000 in
theorem ok_X11_init : zOK mX11_init 0 := ⟨kw_X11_init, ii_X11, by decide +kernel, by decide +kernel, by decide +kernel⟩
set_option maxRecDepth 100000 in
theorem in_X11_init : Cond.instanceMethod yX11_init ∈ zgood := zgood_t 891 (by decide +kernel) (by decide +kernel)
set_option maxRecDepth 100000 in
theorem ml_L_9 : zML RL 9 yX10_init := Or.inl (zgood_t 18 (by decide +kernel) (by decide +kernel))
set_option maxRecDepth 100000 in
theorem ii_X10 : Cond.initialized RX10 ∈ zgood := zgood_t 1 (by decide +kernel) (by decide +kernel)
set_option maxRecDepth 100000 in
theorem kw_X10_init : Cond.code yX10_init cX10_init 2 none ∈ zgood := zgood_t 20 (by rfl) (by decide +kernel)
set_option maxRecDepth 100000 in
theorem ok_X10_init : zOK mX10_init 0 := ⟨kw_X10_init, ii_X10, by decide +kernel, by decide +kernel, by decide +kernel⟩
set_option maxRecDepth 100000 in
theorem in_X10_init : Cond.instanceMethod yX10_init ∈ zgood := zgood_t 19 (by decide +kernel) (by decide +kernel)
set_option maxRecDepth 100000 in
theorem ow_X0_1 : Cond.methodLink RX0 1 objectInit ∈ zgood := zgood_t 813 (by decide +kernel) (by decide +kernel)
set_option maxRecDepth 100000 in
theorem ow_X1_3 : Cond.methodLink RX1 3 objectInit ∈ zgood := zgood_t 412 (by decide +kernel) (by decide +kernel)
set_option maxRecDepth 100000 in
theorem ow_X10_1 : Cond.methodLink RX10 1 objectInit ∈ zgood := zgood_t 21 (by decide +kernel) (by decide +kernel)
set_option maxRecDepth 100000 in
theorem ml_X10_113 : zML RX10 113 yX4_init := Or.inr ⟨"PitPact", znest_t 343 (by decide +kernel) (by decide +kernel)⟩
set_option maxRecDepth 100000 in
theorem ii_X4 : Cond.initialized RX4 ∈ zgood := zgood_t 11 (by decide +kernel) (by decide +kernel)
set_option maxRecDepth 100000 in
theorem kw_X4_init : Cond.code yX4_init cX4_init 5 none ∈ zgood := zgood_t 345 (by rfl) (by decide +kernel)
set_option maxRecDepth 100000 in
theorem ok_X4_init : zOK mX4_init 4 := ⟨kw_X4_init, ii_X4, by decide +kernel, by decide +kernel, by decide +kernel⟩
set_option maxRecDepth 100000 in
theorem in_X4_init : Cond.instanceMethod yX4_init ∈ zgood := zgood_t 344 (by decide +kernel) (by decide +kernel)
set_option maxRecDepth 100000 in
theorem ml_X10_167 : zML RX10 167 yX1_init := Or.inr ⟨"PitPact", znest_t 409 (by decide +kernel) (by decide +kernel)⟩
set_option maxRecDepth 100000 in
theorem ii_X1 : Cond.initialized RX1 ∈ zgood := zgood_t 12 (by decide +kernel) (by decide +kernel)
set_option maxRecDepth 100000 in
theorem kw_X1_init : Cond.code yX1_init cX1_init 7 none ∈ zgood := zgood_t 411 (by rfl) (by decide +kernel)
set_option maxRecDepth 100000 in
theorem ok_X1_init : zOK mX1_init 6 := ⟨kw_X1_init, ii_X1, by decide +kernel, by decide +kernel, by decide +kernel⟩
set_option maxRecDepth 100000 in
theorem in_X1_init : Cond.instanceMethod yX1_init ∈ zgood := zgood_t 410 (by decide +kernel) (by decide +kernel)
set_option maxRecDepth 100000 in
theorem ml_X10_318 : zML RX10 318 yX0_init := Or.inr ⟨"PitPact", znest_t 810 (by decide +kernel) (by decide +kernel)⟩
set_option maxRecDepth 100000 in
theorem ii_X0 : Cond.initialized RX0 ∈ zgood := zgood_t 14 (by decide +kernel) (by decide +kernel)
set_option maxRecDepth 100000 in
theorem kw_X0_init : Cond.code yX0_init cX0_init 4 none ∈ zgood := zgood_t 812 (by rfl) (by decide +kernel)
set_option maxRecDepth 100000 in
theorem ok_X0_init : zOK mX0_init 3 := ⟨kw_X0_init, ii_X0, by decide +kernel, by decide +kernel, by decide +kernel⟩
set_option maxRecDepth 100000 in
theorem in_X0_init : Cond.instanceMethod yX0_init ∈ zgood := zgood_t 811 (by decide +kernel) (by decide +kernel)
set_option maxRecDepth 100000 in
theorem ml_X10_42 : zML RX10 42 yX8_init := Or.inr ⟨"PitPact", znest_t 36 (by decide +kernel) (by decide +kernel)⟩
set_option maxRecDepth 100000 in
theorem ii_X8 : Cond.initialized RX8 ∈ zgood := zgood_t 2 (by decide +kernel) (by decide +kernel)
set_option maxRecDepth 100000 in
theorem kw_X8_init : Cond.code yX8_init cX8_init 1 none ∈ zgood := zgood_t 38 (by rfl) (by decide +kernel)
set_option maxRecDepth 100000 in
theorem ok_X8_init : zOK mX8_init 0 := ⟨kw_X8_init, ii_X8, by decide +kernel, by decide +kernel, by decide +kernel⟩
set_option maxRecDepth 100000 in
theorem in_X8_init : Cond.instanceMethod yX8_init ∈ zgood := zgood_t 37 (by decide +kernel) (by decide +kernel)
set_option maxRecDepth 100000 in
theorem ml_X10_53 : zML RX10 53 yX3_init := Or.inr ⟨"PitPact", znest_t 54 (by decide +kernel) (by decide +kernel)⟩
set_option maxRecDepth 100000 in
theorem ii_X3 : Cond.initialized RX3 ∈ zgood := zgood_t 3 (by decide +kernel) (by decide +kernel)
set_option maxRecDepth 100000 in
theorem kw_X3_init : Cond.code yX3_init cX3_init 1 none ∈ zgood := zgood_t 56 (by rfl) (by decide +kernel)
set_option maxRecDepth 100000 in
theorem ok_X3_init : zOK mX3_init 0 := ⟨kw_X3_init, ii_X3, by decide +kernel, by decide +kernel, by decide +kernel⟩
set_option maxRecDepth 100000 in
theorem in_X3_init : Cond.instanceMethod yX3_init ∈ zgood := zgood_t 55 (by decide +kernel) (by decide +kernel)
set_option maxRecDepth 100000 in
theorem ml_X10_60 : zML RX10 60 yX7_init := Or.inr ⟨"PitPact", znest_t 67 (by decide +kernel) (by decide +kernel)⟩
set_option maxRecDepth 100000 in
theorem ii_X7 : Cond.initialized RX7 ∈ zgood := zgood_t 4 (by decide +kernel) (by decide +kernel)
set_option maxRecDepth 100000 in
theorem kw_X7_init : Cond.code yX7_init cX7_init 1 none ∈ zgood := zgood_t 69 (by rfl) (by decide +kernel)
set_option maxRecDepth 100000 in
theorem ok_X7_init : zOK mX7_init 0 := ⟨kw_X7_init, ii_X7, by decide +kernel, by decide +kernel, by decide +kernel⟩
set_option maxRecDepth 100000 in
theorem in_X7_init : Cond.instanceMethod yX7_init ∈ zgood := zgood_t 68 (by decide +kernel) (by decide +kernel)
set_option maxRecDepth 100000 in
theorem ml_X10_67 : zML RX10 67 yX9_init := Or.inr ⟨"PitPact", znest_t 153 (by decide +kernel) (by decide +kernel)⟩
set_option maxRecDepth 100000 in
theorem ii_X9 : Cond.initialized RX9 ∈ zgood := zgood_t 6 (by decide +kernel) (by decide +kernel)
set_option maxRecDepth 100000 in
theorem kw_X9_init : Cond.code yX9_init cX9_init 1 none ∈ zgood := zgood_t 155 (by rfl) (by decide +kernel)
set_option maxRecDepth 100000 in
theorem ok_X9_init : zOK mX9_init 0 := ⟨kw_X9_init, ii_X9, by decide +kernel, by decide +kernel, by decide +kernel⟩
set_option maxRecDepth 100000 in
theorem in_X9_init : Cond.instanceMethod yX9_init ∈ zgood := zgood_t 154 (by decide +kernel) (by decide +kernel)
set_option maxRecDepth 100000 in
theorem ml_X10_77 : zML RX10 77 yX6_init := Or.inr ⟨"PitPact", znest_t 207 (by decide +kernel) (by decide +kernel)⟩
set_option maxRecDepth 100000 in
theorem ii_X6 : Cond.initialized RX6 ∈ zgood := zgood_t 7 (by decide +kernel) (by decide +kernel)
set_option maxRecDepth 100000 in
theorem kw_X6_init : Cond.code yX6_init cX6_init 3 none ∈ zgood := zgood_t 209 (by rfl) (by decide +kernel)
set_option maxRecDepth 100000 in
theorem ok_X6_init : zOK mX6_init 0 := ⟨kw_X6_init, ii_X6, by decide +kernel, by decide +kernel, by decide +kernel⟩
set_option maxRecDepth 100000 in
theorem in_X6_init : Cond.instanceMethod yX6_init ∈ zgood := zgood_t 208 (by decide +kernel) (by decide +kernel)
set_option maxRecDepth 100000 in
theorem ml_X10_82 : zML RX10 82 yX5_init := Or.inr ⟨"PitPact", znest_t 263 (by decide +kernel) (by decide +kernel)⟩
set_option maxRecDepth 100000 in
theorem ii_X5 : Cond.initialized RX5 ∈ zgood := zgood_t 8 (by decide +kernel) (by decide +kernel)
set_option maxRecDepth 100000 in
theorem kw_X5_init : Cond.code yX5_init cX5_init 3 none ∈ zgood := zgood_t 265 (by rfl) (by decide +kernel)
set_option maxRecDepth 100000 in
theorem ok_X5_init : zOK mX5_init 2 := ⟨kw_X5_init, ii_X5, by decide +kernel, by decide +kernel, by decide +kernel⟩
set_option maxRecDepth 100000 in
theorem in_X5_init : Cond.instanceMethod yX5_init ∈ zgood := zgood_t 264 (by decide +kernel) (by decide +kernel)
set_option maxRecDepth 100000 in
theorem ow_X11_1 : Cond.methodLink RX11 1 objectInit ∈ zgood := zgood_t 893 (by decide +kernel) (by decide +kernel)
set_option maxRecDepth 100000 in
theorem ow_X2_3 : Cond.methodLink RX2 3 objectInit ∈ zgood := zgood_t 76 (by decide +kernel) (by decide +kernel)
set_option maxRecDepth 100000 in
theorem ow_X3_3 : Cond.methodLink RX3 3 objectInit ∈ zgood := zgood_t 57 (by decide +kernel) (by decide +kernel)
set_option maxRecDepth 100000 in
theorem ow_X4_3 : Cond.methodLink RX4 3 objectInit ∈ zgood := zgood_t 346 (by decide +kernel) (by decide +kernel)
set_option maxRecDepth 100000 in
theorem ow_X5_1 : Cond.methodLink RX5 1 objectInit ∈ zgood := zgood_t 266 (by decide +kernel) (by decide +kernel)
set_option maxRecDepth 100000 in
theorem ow_X6_3 : Cond.methodLink RX6 3 objectInit ∈ zgood := zgood_t 210 (by decide +kernel) (by decide +kernel)
set_option maxRecDepth 100000 in
theorem ml_X7_26 : zML RX7 26 yX2_init := Or.inr ⟨"PitPact", znest_t 73 (by decide +kernel) (by decide +kernel)⟩
set_option maxRecDepth 100000 in
theorem ii_X2 : Cond.initialized RX2 ∈ zgood := zgood_t 5 (by decide +kernel) (by decide +kernel)
set_option maxRecDepth 100000 in
theorem kw_X2_init : Cond.code yX2_init cX2_init 1 none ∈ zgood := zgood_t 75 (by rfl) (by decide +kernel)
set_option maxRecDepth 100000 in
theorem ok_X2_init : zOK mX2_init 0 := ⟨kw_X2_init, ii_X2, by decide +kernel, by decide +kernel, by decide +kernel⟩
set_option maxRecDepth 100000 in
theorem in_X2_init : Cond.instanceMethod yX2_init ∈ zgood := zgood_t 74 (by decide +kernel) (by decide +kernel)
set_option maxRecDepth 100000 in
theorem ow_X7_3 : Cond.methodLink RX7 3 objectInit ∈ zgood := zgood_t 70 (by decide +kernel) (by decide +kernel)
set_option maxRecDepth 100000 in
theorem ow_X8_3 : Cond.methodLink RX8 3 objectInit ∈ zgood := zgood_t 39 (by decide +kernel) (by decide +kernel)
set_option maxRecDepth 100000 in
theorem ow_X9_3 : Cond.methodLink RX9 3 objectInit ∈ zgood := zgood_t 156 (by decide +kernel) (by decide +kernel)
set_option maxRecDepth 100000 in
theorem mw_X1_34 : Cond.methodLink RX1 34 Lib.Math.min.name ∈ zgood := zgood_t 482 (by decide +kernel) (by decide +kernel)
set_option maxRecDepth 100000 in
theorem ml_X10_106 : zML RX10 106 yX10_isWithin := Or.inl (zgood_t 332 (by decide +kernel) (by decide +kernel))
set_option maxRecDepth 100000 in
theorem kw_X10_isWithin : Cond.code yX10_isWithin cX10_isWithin 3 (some .boolean) ∈ zgood := zgood_t 334 (by rfl) (by decide +kernel)
set_option maxRecDepth 100000 in
theorem ok_X10_isWithin : zOK mX10_isWithin 3 := ⟨kw_X10_isWithin, ii_X10, by decide +kernel, by decide +kernel, by decide +kernel⟩
set_option maxRecDepth 100000 in
theorem st_X10_isWithin : Cond.static yX10_isWithin ∈ zgood := zgood_t 333 (by decide +kernel) (by decide +kernel)
set_option maxRecDepth 100000 in
theorem ml_X10_140 : zML RX10 140 yX10_asOne := Or.inl (zgood_t 394 (by decide +kernel) (by decide +kernel))
set_option maxRecDepth 100000 in
theorem kw_X10_asOne : Cond.code yX10_asOne cX10_asOne 1 (some .int) ∈ zgood := zgood_t 396 (by rfl) (by decide +kernel)
set_option maxRecDepth 100000 in
theorem ok_X10_asOne : zOK mX10_asOne 1 := ⟨kw_X10_asOne, ii_X10, by decide +kernel, by decide +kernel, by decide +kernel⟩
set_option maxRecDepth 100000 in
theorem st_X10_asOne : Cond.static yX10_asOne ∈ zgood := zgood_t 395 (by decide +kernel) (by decide +kernel)
set_option maxRecDepth 100000 in
theorem ml_X10_161 : zML RX10 161 yX10_isTrade := Or.inl (zgood_t 405 (by decide +kernel) (by decide +kernel))
set_option maxRecDepth 100000 in
theorem kw_X10_isTrade : Cond.code yX10_isTrade cX10_isTrade 1 (some .boolean) ∈ zgood := zgood_t 407 (by rfl) (by decide +kernel)
set_option maxRecDepth 100000 in
theorem ok_X10_isTrade : zOK mX10_isTrade 1 := ⟨kw_X10_isTrade, ii_X10, by decide +kernel, by decide +kernel, by decide +kernel⟩
set_option maxRecDepth 100000 in
theorem st_X10_isTrade : Cond.static yX10_isTrade ∈ zgood := zgood_t 406 (by decide +kernel) (by decide +kernel)
set_option maxRecDepth 100000 in
theorem ml_X10_216 : zML RX10 216 yX10_isRule := Or.inl (zgood_t 516 (by decide +kernel) (by decide +kernel))
set_option maxRecDepth 100000 in
theorem kw_X10_isRule : Cond.code yX10_isRule cX10_isRule 1 (some .boolean) ∈ zgood := zgood_t 518 (by rfl) (by decide +kernel)
set_option maxRecDepth 100000 in
theorem ok_X10_isRule : zOK mX10_isRule 1 := ⟨kw_X10_isRule, ii_X10, by decide +kernel, by decide +kernel, by decide +kernel⟩
set_option maxRecDepth 100000 in
theorem st_X10_isRule : Cond.static yX10_isRule ∈ zgood := zgood_t 517 (by decide +kernel) (by decide +kernel)
set_option maxRecDepth 100000 in
theorem ml_X10_341 : zML RX10 341 yJ6_bitCount_0f7a4 := Or.inl (zgood_t 870 (by decide +kernel) (by decide +kernel))
set_option maxRecDepth 100000 in
theorem ii_J6 : Cond.initialized RJ6 ∈ zgood := zgood_t 15 (by decide +kernel) (by decide +kernel)
set_option maxRecDepth 100000 in
theorem kw_J6_bitCount_0f7a4 : Cond.code yJ6_bitCount_0f7a4 cJ6_bitCount_0f7a4 1 (some .int) ∈ zgood := zgood_t 872 (by rfl) (by decide +kernel)
set_option maxRecDepth 100000 in
theorem ok_J6_bitCount_0f7a4 : zOK mJ6_bitCount_0f7a4 1 := ⟨kw_J6_bitCount_0f7a4, ii_J6, by decide +kernel, by decide +kernel, by decide +kernel⟩
set_option maxRecDepth 100000 in
theorem st_J6_bitCount_0f7a4 : Cond.static yJ6_bitCount_0f7a4 ∈ zgood := zgood_t 871 (by decide +kernel) (by decide +kernel)
set_option maxRecDepth 100000 in
theorem ml_X10_416 : zML RX10 416 yX10_share := Or.inl (zgood_t 847 (by decide +kernel) (by decide +kernel))
set_option maxRecDepth 100000 in
theorem kw_X10_share : Cond.code yX10_share cX10_share 3 (some .int) ∈ zgood := zgood_t 849 (by rfl) (by decide +kernel)
set_option maxRecDepth 100000 in
theorem ok_X10_share : zOK mX10_share 3 := ⟨kw_X10_share, ii_X10, by decide +kernel, by decide +kernel, by decide +kernel⟩
set_option maxRecDepth 100000 in
theorem st_X10_share : Cond.static yX10_share ∈ zgood := zgood_t 848 (by decide +kernel) (by decide +kernel)
set_option maxRecDepth 100000 in
theorem aw_X10_85 : Cond.methodLink RX10 85 arraycopyName ∈ zgood := zgood_t 276 (by decide +kernel) (by decide +kernel)
set_option maxRecDepth 100000 in
theorem ml_X10_91 : zML RX10 91 yX10_isTown := Or.inl (zgood_t 329 (by decide +kernel) (by decide +kernel))
set_option maxRecDepth 100000 in
theorem kw_X10_isTown : Cond.code yX10_isTown cX10_isTown 1 (some .boolean) ∈ zgood := zgood_t 331 (by rfl) (by decide +kernel)
set_option maxRecDepth 100000 in
theorem ok_X10_isTown : zOK mX10_isTown 1 := ⟨kw_X10_isTown, ii_X10, by decide +kernel, by decide +kernel, by decide +kernel⟩
set_option maxRecDepth 100000 in
theorem st_X10_isTown : Cond.static yX10_isTown ∈ zgood := zgood_t 330 (by decide +kernel) (by decide +kernel)
set_option maxRecDepth 100000 in
theorem ml_X10_95 : zML RX10 95 yX10_isPlace := Or.inl (zgood_t 335 (by decide +kernel) (by decide +kernel))
set_option maxRecDepth 100000 in
theorem kw_X10_isPlace : Cond.code yX10_isPlace cX10_isPlace 2 (some .boolean) ∈ zgood := zgood_t 337 (by rfl) (by decide +kernel)
set_option maxRecDepth 100000 in
theorem ok_X10_isPlace : zOK mX10_isPlace 2 := ⟨kw_X10_isPlace, ii_X10, by decide +kernel, by decide +kernel, by decide +kernel⟩
set_option maxRecDepth 100000 in
theorem st_X10_isPlace : Cond.static yX10_isPlace ∈ zgood := zgood_t 336 (by decide +kernel) (by decide +kernel)
set_option maxRecDepth 100000 in
theorem ml_X11_140 : zML RX11 140 yX11_in := Or.inl (zgood_t 1066 (by decide +kernel) (by decide +kernel))
set_option maxRecDepth 100000 in
theorem kw_X11_in : Cond.code yX11_in cX11_in 6 (some .boolean) ∈ zgood := zgood_t 1068 (by rfl) (by decide +kernel)
set_option maxRecDepth 100000 in
theorem ok_X11_in : zOK mX11_in 3 := ⟨kw_X11_in, ii_X11, by decide +kernel, by decide +kernel, by decide +kernel⟩
set_option maxRecDepth 100000 in
theorem st_X11_in : Cond.static yX11_in ∈ zgood := zgood_t 1067 (by decide +kernel) (by decide +kernel)
set_option maxRecDepth 100000 in
theorem ml_X11_150 : zML RX11 150 yX11_isTown := Or.inl (zgood_t 1062 (by decide +kernel) (by decide +kernel))
set_option maxRecDepth 100000 in
theorem kw_X11_isTown : Cond.code yX11_isTown cX11_isTown 1 (some .boolean) ∈ zgood := zgood_t 1064 (by rfl) (by decide +kernel)
set_option maxRecDepth 100000 in
theorem ok_X11_isTown : zOK mX11_isTown 1 := ⟨kw_X11_isTown, ii_X11, by decide +kernel, by decide +kernel, by decide +kernel⟩
set_option maxRecDepth 100000 in
theorem st_X11_isTown : Cond.static yX11_isTown ∈ zgood := zgood_t 1063 (by decide +kernel) (by decide +kernel)
set_option maxRecDepth 100000 in
theorem ml_X11_154 : zML RX11 154 yX11_isPlace := Or.inl (zgood_t 1069 (by decide +kernel) (by decide +kernel))
set_option maxRecDepth 100000 in
theorem kw_X11_isPlace : Cond.code yX11_isPlace cX11_isPlace 2 (some .boolean) ∈ zgood := zgood_t 1071 (by rfl) (by decide +kernel)
set_option maxRecDepth 100000 in
theorem ok_X11_isPlace : zOK mX11_isPlace 2 := ⟨kw_X11_isPlace, ii_X11, by decide +kernel, by decide +kernel, by decide +kernel⟩
set_option maxRecDepth 100000 in
theorem st_X11_isPlace : Cond.static yX11_isPlace ∈ zgood := zgood_t 1070 (by decide +kernel) (by decide +kernel)
set_option maxRecDepth 100000 in
theorem ml_X11_162 : zML RX11 162 yX11_size := Or.inl (zgood_t 1194 (by decide +kernel) (by decide +kernel))
set_option maxRecDepth 100000 in
theorem kw_X11_size : Cond.code yX11_size cX11_size 1 (some .int) ∈ zgood := zgood_t 1196 (by rfl) (by decide +kernel)
set_option maxRecDepth 100000 in
theorem ok_X11_size : zOK mX11_size 1 := ⟨kw_X11_size, ii_X11, by decide +kernel, by decide +kernel, by decide +kernel⟩
set_option maxRecDepth 100000 in
theorem st_X11_size : Cond.static yX11_size ∈ zgood := zgood_t 1195 (by decide +kernel) (by decide +kernel)
set_option maxRecDepth 100000 in
theorem ml_X11_198 : zML RX11 198 yX11_leastOf := Or.inl (zgood_t 1127 (by decide +kernel) (by decide +kernel))
set_option maxRecDepth 100000 in
theorem kw_X11_leastOf : Cond.code yX11_leastOf cX11_leastOf 1 (some .int) ∈ zgood := zgood_t 1129 (by rfl) (by decide +kernel)
set_option maxRecDepth 100000 in
theorem ok_X11_leastOf : zOK mX11_leastOf 1 := ⟨kw_X11_leastOf, ii_X11, by decide +kernel, by decide +kernel, by decide +kernel⟩
set_option maxRecDepth 100000 in
theorem st_X11_leastOf : Cond.static yX11_leastOf ∈ zgood := zgood_t 1128 (by decide +kernel) (by decide +kernel)
set_option maxRecDepth 100000 in
theorem ml_X11_201 : zML RX11 201 yX11_mostOf := Or.inl (zgood_t 1130 (by decide +kernel) (by decide +kernel))
set_option maxRecDepth 100000 in
theorem kw_X11_mostOf : Cond.code yX11_mostOf cX11_mostOf 1 (some .int) ∈ zgood := zgood_t 1132 (by rfl) (by decide +kernel)
set_option maxRecDepth 100000 in
theorem ok_X11_mostOf : zOK mX11_mostOf 1 := ⟨kw_X11_mostOf, ii_X11, by decide +kernel, by decide +kernel, by decide +kernel⟩
set_option maxRecDepth 100000 in
theorem st_X11_mostOf : Cond.static yX11_mostOf ∈ zgood := zgood_t 1131 (by decide +kernel) (by decide +kernel)
set_option maxRecDepth 100000 in
theorem ml_X11_212 : zML RX11 212 yX11_isDigit := Or.inl (zgood_t 1151 (by decide +kernel) (by decide +kernel))
set_option maxRecDepth 100000 in
theorem kw_X11_isDigit : Cond.code yX11_isDigit cX11_isDigit 1 (some .boolean) ∈ zgood := zgood_t 1153 (by rfl) (by decide +kernel)
set_option maxRecDepth 100000 in
theorem ok_X11_isDigit : zOK mX11_isDigit 1 := ⟨kw_X11_isDigit, ii_X11, by decide +kernel, by decide +kernel, by decide +kernel⟩
set_option maxRecDepth 100000 in
theorem st_X11_isDigit : Cond.static yX11_isDigit ∈ zgood := zgood_t 1152 (by decide +kernel) (by decide +kernel)
set_option maxRecDepth 100000 in
theorem ml_X11_215 : zML RX11 215 yX11_isFact := Or.inl (zgood_t 1156 (by decide +kernel) (by decide +kernel))
set_option maxRecDepth 100000 in
theorem kw_X11_isFact : Cond.code yX11_isFact cX11_isFact 1 (some .boolean) ∈ zgood := zgood_t 1158 (by rfl) (by decide +kernel)
set_option maxRecDepth 100000 in
theorem ok_X11_isFact : zOK mX11_isFact 1 := ⟨kw_X11_isFact, ii_X11, by decide +kernel, by decide +kernel, by decide +kernel⟩
set_option maxRecDepth 100000 in
theorem st_X11_isFact : Cond.static yX11_isFact ∈ zgood := zgood_t 1157 (by decide +kernel) (by decide +kernel)
set_option maxRecDepth 100000 in
theorem ml_X11_218 : zML RX11 218 yX11_isAct := Or.inl (zgood_t 1159 (by decide +kernel) (by decide +kernel))
set_option maxRecDepth 100000 in
theorem kw_X11_isAct : Cond.code yX11_isAct cX11_isAct 1 (some .boolean) ∈ zgood := zgood_t 1161 (by rfl) (by decide +kernel)
set_option maxRecDepth 100000 in
theorem ok_X11_isAct : zOK mX11_isAct 1 := ⟨kw_X11_isAct, ii_X11, by decide +kernel, by decide +kernel, by decide +kernel⟩
set_option maxRecDepth 100000 in
theorem st_X11_isAct : Cond.static yX11_isAct ∈ zgood := zgood_t 1160 (by decide +kernel) (by decide +kernel)
set_option maxRecDepth 100000 in
theorem ml_X11_245 : zML RX11 245 yX11_actOn := Or.inl (zgood_t 1197 (by decide +kernel) (by decide +kernel))
set_option maxRecDepth 100000 in
theorem kw_X11_actOn : Cond.code yX11_actOn cX11_actOn 5 (some .long) ∈ zgood := zgood_t 1199 (by rfl) (by decide +kernel)
set_option maxRecDepth 100000 in
theorem ok_X11_actOn : zOK mX11_actOn 3 := ⟨kw_X11_actOn, ii_X11, by decide +kernel, by decide +kernel, by decide +kernel⟩
set_option maxRecDepth 100000 in
theorem st_X11_actOn : Cond.static yX11_actOn ∈ zgood := zgood_t 1198 (by decide +kernel) (by decide +kernel)
set_option maxRecDepth 100000 in
theorem ml_X11_361 : zML RX11 361 yX11_ones := Or.inl (zgood_t 1357 (by decide +kernel) (by decide +kernel))
set_option maxRecDepth 100000 in
theorem kw_X11_ones : Cond.code yX11_ones cX11_ones 3 (some .int) ∈ zgood := zgood_t 1359 (by rfl) (by decide +kernel)
set_option maxRecDepth 100000 in
theorem ok_X11_ones : zOK mX11_ones 1 := ⟨kw_X11_ones, ii_X11, by decide +kernel, by decide +kernel, by decide +kernel⟩
set_option maxRecDepth 100000 in
theorem st_X11_ones : Cond.static yX11_ones ∈ zgood := zgood_t 1358 (by decide +kernel) (by decide +kernel)
set_option maxRecDepth 100000 in
theorem ml_X3_27 : zML RX3 27 yX8_isDigit := Or.inr ⟨"PitPact", znest_t 550 (by decide +kernel) (by decide +kernel)⟩
set_option maxRecDepth 100000 in
theorem kw_X8_isDigit : Cond.code yX8_isDigit cX8_isDigit 1 (some .boolean) ∈ zgood := zgood_t 508 (by rfl) (by decide +kernel)
set_option maxRecDepth 100000 in
theorem ok_X8_isDigit : zOK mX8_isDigit 1 := ⟨kw_X8_isDigit, ii_X8, by decide +kernel, by decide +kernel, by decide +kernel⟩
set_option maxRecDepth 100000 in
theorem st_X8_isDigit : Cond.static yX8_isDigit ∈ zgood := zgood_t 507 (by decide +kernel) (by decide +kernel)
set_option maxRecDepth 100000 in
theorem ml_X3_58 : zML RX3 58 yX10_asOne := Or.inr ⟨"PitPact", znest_t 555 (by decide +kernel) (by decide +kernel)⟩
set_option maxRecDepth 100000 in
theorem mw_X3_70 : Cond.methodLink RX3 70 Lib.MathLoose.min_long.x ∈ zgood := zgood_t 570 (by decide +kernel) (by decide +kernel)
set_option maxRecDepth 100000 in
theorem mw_X3_76 : Cond.methodLink RX3 76 Lib.MathLoose.max_long.x ∈ zgood := zgood_t 573 (by decide +kernel) (by decide +kernel)
set_option maxRecDepth 100000 in
theorem mw_X5_16 : Cond.methodLink RX5 16 Lib.Math.abs.name ∈ zgood := zgood_t 543 (by decide +kernel) (by decide +kernel)
set_option maxRecDepth 100000 in
theorem ml_X6_100 : zML RX6 100 yX6_choose := Or.inl (zgood_t 776 (by decide +kernel) (by decide +kernel))
set_option maxRecDepth 100000 in
theorem kw_X6_choose : Cond.code yX6_choose cX6_choose 3 none ∈ zgood := zgood_t 778 (by rfl) (by decide +kernel)
set_option maxRecDepth 100000 in
theorem ok_X6_choose {dk : Nat} : zOK (mX6_choose dk) 2 := ⟨kw_X6_choose, ii_X6, (show yX6_choose.cls ≠ "java/lang/invoke/MethodHandle" by decide +kernel), (show yX6_choose.cls ≠ "java/lang/invoke/VarHandle" by decide +kernel), (show (parseMethodDescriptor yX6_choose.desc).map (fun d => d.parameters.length) = some 2 by decide +kernel)⟩
set_option maxRecDepth 100000 in
theorem st_X6_choose : Cond.static yX6_choose ∈ zgood := zgood_t 777 (by decide +kernel) (by decide +kernel)
set_option maxRecDepth 100000 in
theorem mw_X6_107 : Cond.methodLink RX6 107 Lib.Math.min.name ∈ zgood := zgood_t 775 (by decide +kernel) (by decide +kernel)
set_option maxRecDepth 100000 in
theorem mw_X6_66 : Cond.methodLink RX6 66 Lib.Math.max.name ∈ zgood := zgood_t 724 (by decide +kernel) (by decide +kernel)
set_option maxRecDepth 100000 in
theorem ml_X7_49 : zML RX7 49 yX7_weigh := Or.inl (zgood_t 605 (by decide +kernel) (by decide +kernel))
set_option maxRecDepth 100000 in
theorem kw_X7_weigh : Cond.code yX7_weigh cX7_weigh 6 (some .long) ∈ zgood := zgood_t 607 (by rfl) (by decide +kernel)
set_option maxRecDepth 100000 in
theorem ok_X7_weigh : zOK mX7_weigh 3 := ⟨kw_X7_weigh, ii_X7, by decide +kernel, by decide +kernel, by decide +kernel⟩
set_option maxRecDepth 100000 in
theorem st_X7_weigh : Cond.static yX7_weigh ∈ zgood := zgood_t 606 (by decide +kernel) (by decide +kernel)
set_option maxRecDepth 100000 in
theorem aw_X8_19 : Cond.methodLink RX8 19 arraycopyName ∈ zgood := zgood_t 523 (by decide +kernel) (by decide +kernel)
set_option maxRecDepth 100000 in
theorem ml_X8_25 : zML RX8 25 yX8_isDigit := Or.inl (zgood_t 506 (by decide +kernel) (by decide +kernel))
set_option maxRecDepth 100000 in
theorem ml_X8_29 : zML RX8 29 yX8_heightBehind := Or.inl (zgood_t 509 (by decide +kernel) (by decide +kernel))
set_option maxRecDepth 100000 in
theorem kw_X8_heightBehind : Cond.code yX8_heightBehind cX8_heightBehind 2 (some .int) ∈ zgood := zgood_t 511 (by rfl) (by decide +kernel)
set_option maxRecDepth 100000 in
theorem ok_X8_heightBehind : zOK mX8_heightBehind 2 := ⟨kw_X8_heightBehind, ii_X8, by decide +kernel, by decide +kernel, by decide +kernel⟩
set_option maxRecDepth 100000 in
theorem st_X8_heightBehind : Cond.static yX8_heightBehind ∈ zgood := zgood_t 510 (by decide +kernel) (by decide +kernel)
set_option maxRecDepth 100000 in
theorem aw_X9_44 : Cond.methodLink RX9 44 arraycopyName ∈ zgood := zgood_t 707 (by decide +kernel) (by decide +kernel)
set_option maxRecDepth 100000 in
theorem mw_X9_67 : Cond.methodLink RX9 67 Lib.Math.max.name ∈ zgood := zgood_t 692 (by decide +kernel) (by decide +kernel)
set_option maxRecDepth 100000 in
theorem ml_L_100 : zML RL 100 yX10_threat := Or.inl (zgood_t 699 (by decide +kernel) (by decide +kernel))
set_option maxRecDepth 100000 in
theorem kw_X10_threat : Cond.code yX10_threat cX10_threat 4 (some .int) ∈ zgood := zgood_t 702 (by rfl) (by decide +kernel)
set_option maxRecDepth 100000 in
theorem ok_X10_threat : zOK mX10_threat 2 := ⟨kw_X10_threat, ii_X10, by decide +kernel, by decide +kernel, by decide +kernel⟩
set_option maxRecDepth 100000 in
theorem in_X10_threat : Cond.instanceMethod yX10_threat ∈ zgood := zgood_t 700 (by decide +kernel) (by decide +kernel)
set_option maxRecDepth 100000 in
theorem se_X10_threat : Cond.selects RX10 yX10_threat yX10_threat ∈ zgood := zgood_t 701 (by decide +kernel) (by decide +kernel)
set_option maxRecDepth 100000 in
theorem ml_L_103 : zML RL 103 yX11_threat := Or.inl (zgood_t 1267 (by decide +kernel) (by decide +kernel))
set_option maxRecDepth 100000 in
theorem kw_X11_threat : Cond.code yX11_threat cX11_threat 7 (some .int) ∈ zgood := zgood_t 1270 (by rfl) (by decide +kernel)
set_option maxRecDepth 100000 in
theorem ok_X11_threat : zOK mX11_threat 2 := ⟨kw_X11_threat, ii_X11, by decide +kernel, by decide +kernel, by decide +kernel⟩
set_option maxRecDepth 100000 in
theorem in_X11_threat : Cond.instanceMethod yX11_threat ∈ zgood := zgood_t 1268 (by decide +kernel) (by decide +kernel)
set_option maxRecDepth 100000 in
theorem se_X11_threat : Cond.selects RX11 yX11_threat yX11_threat ∈ zgood := zgood_t 1269 (by decide +kernel) (by decide +kernel)
set_option maxRecDepth 100000 in
theorem ml_L_104 : zML RL 104 yX10_price := Or.inl (zgood_t 708 (by decide +kernel) (by decide +kernel))
set_option maxRecDepth 100000 in
theorem kw_X10_price : Cond.code yX10_price cX10_price 5 (some .int) ∈ zgood := zgood_t 711 (by rfl) (by decide +kernel)
set_option maxRecDepth 100000 in
theorem ok_X10_price : zOK mX10_price 3 := ⟨kw_X10_price, ii_X10, by decide +kernel, by decide +kernel, by decide +kernel⟩
set_option maxRecDepth 100000 in
theorem in_X10_price : Cond.instanceMethod yX10_price ∈ zgood := zgood_t 709 (by decide +kernel) (by decide +kernel)
set_option maxRecDepth 100000 in
theorem se_X10_price : Cond.selects RX10 yX10_price yX10_price ∈ zgood := zgood_t 710 (by decide +kernel) (by decide +kernel)
set_option maxRecDepth 100000 in
theorem ml_L_107 : zML RL 107 yX11_price := Or.inl (zgood_t 1271 (by decide +kernel) (by decide +kernel))
set_option maxRecDepth 100000 in
theorem kw_X11_price : Cond.code yX11_price cX11_price 5 (some .int) ∈ zgood := zgood_t 1274 (by rfl) (by decide +kernel)
set_option maxRecDepth 100000 in
theorem ok_X11_price : zOK mX11_price 3 := ⟨kw_X11_price, ii_X11, by decide +kernel, by decide +kernel, by decide +kernel⟩
set_option maxRecDepth 100000 in
theorem in_X11_price : Cond.instanceMethod yX11_price ∈ zgood := zgood_t 1272 (by decide +kernel) (by decide +kernel)
set_option maxRecDepth 100000 in
theorem se_X11_price : Cond.selects RX11 yX11_price yX11_price ∈ zgood := zgood_t 1273 (by decide +kernel) (by decide +kernel)
set_option maxRecDepth 100000 in
theorem ml_L_108 : zML RL 108 yX10_plan := Or.inl (zgood_t 712 (by decide +kernel) (by decide +kernel))
set_option maxRecDepth 100000 in
theorem kw_X10_plan : Cond.code yX10_plan cX10_plan 3 (some .int) ∈ zgood := zgood_t 715 (by rfl) (by decide +kernel)
set_option maxRecDepth 100000 in
theorem ok_X10_plan : zOK mX10_plan 2 := ⟨kw_X10_plan, ii_X10, by decide +kernel, by decide +kernel, by decide +kernel⟩
set_option maxRecDepth 100000 in
theorem in_X10_plan : Cond.instanceMethod yX10_plan ∈ zgood := zgood_t 713 (by decide +kernel) (by decide +kernel)
set_option maxRecDepth 100000 in
theorem se_X10_plan : Cond.selects RX10 yX10_plan yX10_plan ∈ zgood := zgood_t 714 (by decide +kernel) (by decide +kernel)
set_option maxRecDepth 100000 in
theorem ml_L_111 : zML RL 111 yX11_plan := Or.inl (zgood_t 1276 (by decide +kernel) (by decide +kernel))
set_option maxRecDepth 100000 in
theorem kw_X11_plan : Cond.code yX11_plan cX11_plan 4 (some .int) ∈ zgood := zgood_t 1279 (by rfl) (by decide +kernel)
set_option maxRecDepth 100000 in
theorem ok_X11_plan : zOK mX11_plan 2 := ⟨kw_X11_plan, ii_X11, by decide +kernel, by decide +kernel, by decide +kernel⟩
set_option maxRecDepth 100000 in
theorem in_X11_plan : Cond.instanceMethod yX11_plan ∈ zgood := zgood_t 1277 (by decide +kernel) (by decide +kernel)
set_option maxRecDepth 100000 in
theorem se_X11_plan : Cond.selects RX11 yX11_plan yX11_plan ∈ zgood := zgood_t 1278 (by decide +kernel) (by decide +kernel)
set_option maxRecDepth 100000 in
theorem ml_L_112 : zML RL 112 yX10_best := Or.inl (zgood_t 758 (by decide +kernel) (by decide +kernel))
set_option maxRecDepth 100000 in
theorem kw_X10_best : Cond.code yX10_best cX10_best 2 (some .int) ∈ zgood := zgood_t 761 (by rfl) (by decide +kernel)
set_option maxRecDepth 100000 in
theorem ok_X10_best : zOK mX10_best 1 := ⟨kw_X10_best, ii_X10, by decide +kernel, by decide +kernel, by decide +kernel⟩
set_option maxRecDepth 100000 in
theorem in_X10_best : Cond.instanceMethod yX10_best ∈ zgood := zgood_t 759 (by decide +kernel) (by decide +kernel)
set_option maxRecDepth 100000 in
theorem se_X10_best : Cond.selects RX10 yX10_best yX10_best ∈ zgood := zgood_t 760 (by decide +kernel) (by decide +kernel)
set_option maxRecDepth 100000 in
theorem ml_L_115 : zML RL 115 yX11_best := Or.inl (zgood_t 1296 (by decide +kernel) (by decide +kernel))
set_option maxRecDepth 100000 in
theorem kw_X11_best : Cond.code yX11_best cX11_best 6 (some .int) ∈ zgood := zgood_t 1299 (by rfl) (by decide +kernel)
set_option maxRecDepth 100000 in
theorem ok_X11_best : zOK mX11_best 1 := ⟨kw_X11_best, ii_X11, by decide +kernel, by decide +kernel, by decide +kernel⟩
set_option maxRecDepth 100000 in
theorem in_X11_best : Cond.instanceMethod yX11_best ∈ zgood := zgood_t 1297 (by decide +kernel) (by decide +kernel)
set_option maxRecDepth 100000 in
theorem se_X11_best : Cond.selects RX11 yX11_best yX11_best ∈ zgood := zgood_t 1298 (by decide +kernel) (by decide +kernel)
set_option maxRecDepth 100000 in
theorem ml_L_116 : zML RL 116 yX10_vote := Or.inl (zgood_t 796 (by decide +kernel) (by decide +kernel))
set_option maxRecDepth 100000 in
theorem kw_X10_vote : Cond.code yX10_vote cX10_vote 5 (some .int) ∈ zgood := zgood_t 799 (by rfl) (by decide +kernel)
set_option maxRecDepth 100000 in
theorem ok_X10_vote : zOK mX10_vote 2 := ⟨kw_X10_vote, ii_X10, by decide +kernel, by decide +kernel, by decide +kernel⟩
set_option maxRecDepth 100000 in
theorem in_X10_vote : Cond.instanceMethod yX10_vote ∈ zgood := zgood_t 797 (by decide +kernel) (by decide +kernel)
set_option maxRecDepth 100000 in
theorem se_X10_vote : Cond.selects RX10 yX10_vote yX10_vote ∈ zgood := zgood_t 798 (by decide +kernel) (by decide +kernel)
set_option maxRecDepth 100000 in
theorem ml_L_119 : zML RL 119 yX11_vote := Or.inl (zgood_t 1308 (by decide +kernel) (by decide +kernel))
set_option maxRecDepth 100000 in
theorem kw_X11_vote : Cond.code yX11_vote cX11_vote 5 (some .int) ∈ zgood := zgood_t 1311 (by rfl) (by decide +kernel)
set_option maxRecDepth 100000 in
theorem ok_X11_vote : zOK mX11_vote 2 := ⟨kw_X11_vote, ii_X11, by decide +kernel, by decide +kernel, by decide +kernel⟩
set_option maxRecDepth 100000 in
theorem in_X11_vote : Cond.instanceMethod yX11_vote ∈ zgood := zgood_t 1309 (by decide +kernel) (by decide +kernel)
set_option maxRecDepth 100000 in
theorem se_X11_vote : Cond.selects RX11 yX11_vote yX11_vote ∈ zgood := zgood_t 1310 (by decide +kernel) (by decide +kernel)
set_option maxRecDepth 100000 in
theorem ml_L_120 : zML RL 120 yX10_worked := Or.inl (zgood_t 800 (by decide +kernel) (by decide +kernel))
set_option maxRecDepth 100000 in
theorem kw_X10_worked : Cond.code yX10_worked cX10_worked 4 (some .int) ∈ zgood := zgood_t 803 (by rfl) (by decide +kernel)
set_option maxRecDepth 100000 in
theorem ok_X10_worked : zOK mX10_worked 3 := ⟨kw_X10_worked, ii_X10, by decide +kernel, by decide +kernel, by decide +kernel⟩
set_option maxRecDepth 100000 in
theorem in_X10_worked : Cond.instanceMethod yX10_worked ∈ zgood := zgood_t 801 (by decide +kernel) (by decide +kernel)
set_option maxRecDepth 100000 in
theorem se_X10_worked : Cond.selects RX10 yX10_worked yX10_worked ∈ zgood := zgood_t 802 (by decide +kernel) (by decide +kernel)
set_option maxRecDepth 100000 in
theorem ml_L_123 : zML RL 123 yX11_worked := Or.inl (zgood_t 1312 (by decide +kernel) (by decide +kernel))
set_option maxRecDepth 100000 in
theorem kw_X11_worked : Cond.code yX11_worked cX11_worked 4 (some .int) ∈ zgood := zgood_t 1315 (by rfl) (by decide +kernel)
set_option maxRecDepth 100000 in
theorem ok_X11_worked : zOK mX11_worked 3 := ⟨kw_X11_worked, ii_X11, by decide +kernel, by decide +kernel, by decide +kernel⟩
set_option maxRecDepth 100000 in
theorem in_X11_worked : Cond.instanceMethod yX11_worked ∈ zgood := zgood_t 1313 (by decide +kernel) (by decide +kernel)
set_option maxRecDepth 100000 in
theorem se_X11_worked : Cond.selects RX11 yX11_worked yX11_worked ∈ zgood := zgood_t 1314 (by decide +kernel) (by decide +kernel)
set_option maxRecDepth 100000 in
theorem ml_L_124 : zML RL 124 yX10_harm := Or.inl (zgood_t 804 (by decide +kernel) (by decide +kernel))
set_option maxRecDepth 100000 in
theorem kw_X10_harm : Cond.code yX10_harm cX10_harm 5 (some .int) ∈ zgood := zgood_t 807 (by rfl) (by decide +kernel)
set_option maxRecDepth 100000 in
theorem ok_X10_harm : zOK mX10_harm 4 := ⟨kw_X10_harm, ii_X10, by decide +kernel, by decide +kernel, by decide +kernel⟩
set_option maxRecDepth 100000 in
theorem in_X10_harm : Cond.instanceMethod yX10_harm ∈ zgood := zgood_t 805 (by decide +kernel) (by decide +kernel)
set_option maxRecDepth 100000 in
theorem se_X10_harm : Cond.selects RX10 yX10_harm yX10_harm ∈ zgood := zgood_t 806 (by decide +kernel) (by decide +kernel)
set_option maxRecDepth 100000 in
theorem ml_L_128 : zML RL 128 yX11_harm := Or.inl (zgood_t 1316 (by decide +kernel) (by decide +kernel))
set_option maxRecDepth 100000 in
theorem kw_X11_harm : Cond.code yX11_harm cX11_harm 5 (some .int) ∈ zgood := zgood_t 1319 (by rfl) (by decide +kernel)
set_option maxRecDepth 100000 in
theorem ok_X11_harm : zOK mX11_harm 4 := ⟨kw_X11_harm, ii_X11, by decide +kernel, by decide +kernel, by decide +kernel⟩
set_option maxRecDepth 100000 in
theorem in_X11_harm : Cond.instanceMethod yX11_harm ∈ zgood := zgood_t 1317 (by decide +kernel) (by decide +kernel)
set_option maxRecDepth 100000 in
theorem se_X11_harm : Cond.selects RX11 yX11_harm yX11_harm ∈ zgood := zgood_t 1318 (by decide +kernel) (by decide +kernel)
set_option maxRecDepth 100000 in
theorem ml_L_129 : zML RL 129 yX10_whose := Or.inl (zgood_t 827 (by decide +kernel) (by decide +kernel))
set_option maxRecDepth 100000 in
theorem kw_X10_whose : Cond.code yX10_whose cX10_whose 4 (some .int) ∈ zgood := zgood_t 830 (by rfl) (by decide +kernel)
set_option maxRecDepth 100000 in
theorem ok_X10_whose : zOK mX10_whose 1 := ⟨kw_X10_whose, ii_X10, by decide +kernel, by decide +kernel, by decide +kernel⟩
set_option maxRecDepth 100000 in
theorem in_X10_whose : Cond.instanceMethod yX10_whose ∈ zgood := zgood_t 828 (by decide +kernel) (by decide +kernel)
set_option maxRecDepth 100000 in
theorem se_X10_whose : Cond.selects RX10 yX10_whose yX10_whose ∈ zgood := zgood_t 829 (by decide +kernel) (by decide +kernel)
set_option maxRecDepth 100000 in
theorem ml_L_13 : zML RL 13 yX10_town := Or.inl (zgood_t 325 (by decide +kernel) (by decide +kernel))
set_option maxRecDepth 100000 in
theorem kw_X10_town : Cond.code yX10_town cX10_town 4 (some .int) ∈ zgood := zgood_t 328 (by rfl) (by decide +kernel)
set_option maxRecDepth 100000 in
theorem ok_X10_town : zOK mX10_town 3 := ⟨kw_X10_town, ii_X10, by decide +kernel, by decide +kernel, by decide +kernel⟩
set_option maxRecDepth 100000 in
theorem in_X10_town : Cond.instanceMethod yX10_town ∈ zgood := zgood_t 326 (by decide +kernel) (by decide +kernel)
set_option maxRecDepth 100000 in
theorem se_X10_town : Cond.selects RX10 yX10_town yX10_town ∈ zgood := zgood_t 327 (by decide +kernel) (by decide +kernel)
set_option maxRecDepth 100000 in
theorem ml_L_132 : zML RL 132 yX11_whose := Or.inl (zgood_t 1321 (by decide +kernel) (by decide +kernel))
set_option maxRecDepth 100000 in
theorem kw_X11_whose : Cond.code yX11_whose cX11_whose 2 (some .int) ∈ zgood := zgood_t 1324 (by rfl) (by decide +kernel)
set_option maxRecDepth 100000 in
theorem ok_X11_whose : zOK mX11_whose 1 := ⟨kw_X11_whose, ii_X11, by decide +kernel, by decide +kernel, by decide +kernel⟩
set_option maxRecDepth 100000 in
theorem in_X11_whose : Cond.instanceMethod yX11_whose ∈ zgood := zgood_t 1322 (by decide +kernel) (by decide +kernel)
set_option maxRecDepth 100000 in
theorem se_X11_whose : Cond.selects RX11 yX11_whose yX11_whose ∈ zgood := zgood_t 1323 (by decide +kernel) (by decide +kernel)
set_option maxRecDepth 100000 in
theorem ml_L_133 : zML RL 133 yX10_part := Or.inl (zgood_t 839 (by decide +kernel) (by decide +kernel))
set_option maxRecDepth 100000 in
theorem kw_X10_part : Cond.code yX10_part cX10_part 3 (some .int) ∈ zgood := zgood_t 842 (by rfl) (by decide +kernel)
set_option maxRecDepth 100000 in
theorem ok_X10_part : zOK mX10_part 2 := ⟨kw_X10_part, ii_X10, by decide +kernel, by decide +kernel, by decide +kernel⟩
set_option maxRecDepth 100000 in
theorem in_X10_part : Cond.instanceMethod yX10_part ∈ zgood := zgood_t 840 (by decide +kernel) (by decide +kernel)
set_option maxRecDepth 100000 in
theorem se_X10_part : Cond.selects RX10 yX10_part yX10_part ∈ zgood := zgood_t 841 (by decide +kernel) (by decide +kernel)
set_option maxRecDepth 100000 in
theorem ml_L_136 : zML RL 136 yX11_part := Or.inl (zgood_t 1337 (by decide +kernel) (by decide +kernel))
set_option maxRecDepth 100000 in
theorem kw_X11_part : Cond.code yX11_part cX11_part 7 (some .int) ∈ zgood := zgood_t 1340 (by rfl) (by decide +kernel)
set_option maxRecDepth 100000 in
theorem ok_X11_part : zOK mX11_part 2 := ⟨kw_X11_part, ii_X11, by decide +kernel, by decide +kernel, by decide +kernel⟩
set_option maxRecDepth 100000 in
theorem in_X11_part : Cond.instanceMethod yX11_part ∈ zgood := zgood_t 1338 (by decide +kernel) (by decide +kernel)
set_option maxRecDepth 100000 in
theorem se_X11_part : Cond.selects RX11 yX11_part yX11_part ∈ zgood := zgood_t 1339 (by decide +kernel) (by decide +kernel)
set_option maxRecDepth 100000 in
theorem ml_L_137 : zML RL 137 yX10_work := Or.inl (zgood_t 850 (by decide +kernel) (by decide +kernel))
set_option maxRecDepth 100000 in
theorem kw_X10_work : Cond.code yX10_work cX10_work 3 (some .int) ∈ zgood := zgood_t 853 (by rfl) (by decide +kernel)
set_option maxRecDepth 100000 in
theorem ok_X10_work : zOK mX10_work 2 := ⟨kw_X10_work, ii_X10, by decide +kernel, by decide +kernel, by decide +kernel⟩
set_option maxRecDepth 100000 in
theorem in_X10_work : Cond.instanceMethod yX10_work ∈ zgood := zgood_t 851 (by decide +kernel) (by decide +kernel)
set_option maxRecDepth 100000 in
theorem se_X10_work : Cond.selects RX10 yX10_work yX10_work ∈ zgood := zgood_t 852 (by decide +kernel) (by decide +kernel)
set_option maxRecDepth 100000 in
theorem ml_L_140 : zML RL 140 yX11_work := Or.inl (zgood_t 1345 (by decide +kernel) (by decide +kernel))
set_option maxRecDepth 100000 in
theorem kw_X11_work : Cond.code yX11_work cX11_work 6 (some .int) ∈ zgood := zgood_t 1348 (by rfl) (by decide +kernel)
set_option maxRecDepth 100000 in
theorem ok_X11_work : zOK mX11_work 2 := ⟨kw_X11_work, ii_X11, by decide +kernel, by decide +kernel, by decide +kernel⟩
set_option maxRecDepth 100000 in
theorem in_X11_work : Cond.instanceMethod yX11_work ∈ zgood := zgood_t 1346 (by decide +kernel) (by decide +kernel)
set_option maxRecDepth 100000 in
theorem se_X11_work : Cond.selects RX11 yX11_work yX11_work ∈ zgood := zgood_t 1347 (by decide +kernel) (by decide +kernel)
set_option maxRecDepth 100000 in
theorem ml_L_141 : zML RL 141 yX10_lone := Or.inl (zgood_t 866 (by decide +kernel) (by decide +kernel))
set_option maxRecDepth 100000 in
theorem kw_X10_lone : Cond.code yX10_lone cX10_lone 3 (some .int) ∈ zgood := zgood_t 869 (by rfl) (by decide +kernel)
set_option maxRecDepth 100000 in
theorem ok_X10_lone : zOK mX10_lone 0 := ⟨kw_X10_lone, ii_X10, by decide +kernel, by decide +kernel, by decide +kernel⟩
set_option maxRecDepth 100000 in
theorem in_X10_lone : Cond.instanceMethod yX10_lone ∈ zgood := zgood_t 867 (by decide +kernel) (by decide +kernel)
set_option maxRecDepth 100000 in
theorem se_X10_lone : Cond.selects RX10 yX10_lone yX10_lone ∈ zgood := zgood_t 868 (by decide +kernel) (by decide +kernel)
set_option maxRecDepth 100000 in
theorem ml_L_144 : zML RL 144 yX11_lone := Or.inl (zgood_t 1353 (by decide +kernel) (by decide +kernel))
set_option maxRecDepth 100000 in
theorem kw_X11_lone : Cond.code yX11_lone cX11_lone 3 (some .int) ∈ zgood := zgood_t 1356 (by rfl) (by decide +kernel)
set_option maxRecDepth 100000 in
theorem ok_X11_lone : zOK mX11_lone 0 := ⟨kw_X11_lone, ii_X11, by decide +kernel, by decide +kernel, by decide +kernel⟩
set_option maxRecDepth 100000 in
theorem in_X11_lone : Cond.instanceMethod yX11_lone ∈ zgood := zgood_t 1354 (by decide +kernel) (by decide +kernel)
set_option maxRecDepth 100000 in
theorem se_X11_lone : Cond.selects RX11 yX11_lone yX11_lone ∈ zgood := zgood_t 1355 (by decide +kernel) (by decide +kernel)
set_option maxRecDepth 100000 in
theorem ml_L_145 : zML RL 145 yX10_told := Or.inl (zgood_t 876 (by decide +kernel) (by decide +kernel))
set_option maxRecDepth 100000 in
theorem kw_X10_told : Cond.code yX10_told cX10_told 2 (some .int) ∈ zgood := zgood_t 879 (by rfl) (by decide +kernel)
set_option maxRecDepth 100000 in
theorem ok_X10_told : zOK mX10_told 1 := ⟨kw_X10_told, ii_X10, by decide +kernel, by decide +kernel, by decide +kernel⟩
set_option maxRecDepth 100000 in
theorem in_X10_told : Cond.instanceMethod yX10_told ∈ zgood := zgood_t 877 (by decide +kernel) (by decide +kernel)
set_option maxRecDepth 100000 in
theorem se_X10_told : Cond.selects RX10 yX10_told yX10_told ∈ zgood := zgood_t 878 (by decide +kernel) (by decide +kernel)
set_option maxRecDepth 100000 in
theorem ml_L_148 : zML RL 148 yX11_told := Or.inl (zgood_t 1360 (by decide +kernel) (by decide +kernel))
set_option maxRecDepth 100000 in
theorem kw_X11_told : Cond.code yX11_told cX11_told 4 (some .int) ∈ zgood := zgood_t 1363 (by rfl) (by decide +kernel)
set_option maxRecDepth 100000 in
theorem ok_X11_told : zOK mX11_told 1 := ⟨kw_X11_told, ii_X11, by decide +kernel, by decide +kernel, by decide +kernel⟩
set_option maxRecDepth 100000 in
theorem in_X11_told : Cond.instanceMethod yX11_told ∈ zgood := zgood_t 1361 (by decide +kernel) (by decide +kernel)
set_option maxRecDepth 100000 in
theorem se_X11_told : Cond.selects RX11 yX11_told yX11_told ∈ zgood := zgood_t 1362 (by decide +kernel) (by decide +kernel)
set_option maxRecDepth 100000 in
theorem ml_L_17 : zML RL 17 yX11_town := Or.inl (zgood_t 1058 (by decide +kernel) (by decide +kernel))
set_option maxRecDepth 100000 in
theorem kw_X11_town : Cond.code yX11_town cX11_town 4 (some .int) ∈ zgood := zgood_t 1061 (by rfl) (by decide +kernel)
set_option maxRecDepth 100000 in
theorem ok_X11_town : zOK mX11_town 3 := ⟨kw_X11_town, ii_X11, by decide +kernel, by decide +kernel, by decide +kernel⟩
set_option maxRecDepth 100000 in
theorem in_X11_town : Cond.instanceMethod yX11_town ∈ zgood := zgood_t 1059 (by decide +kernel) (by decide +kernel)
set_option maxRecDepth 100000 in
theorem se_X11_town : Cond.selects RX11 yX11_town yX11_town ∈ zgood := zgood_t 1060 (by decide +kernel) (by decide +kernel)
set_option maxRecDepth 100000 in
theorem ml_L_18 : zML RL 18 yX10_pit := Or.inl (zgood_t 338 (by decide +kernel) (by decide +kernel))
set_option maxRecDepth 100000 in
theorem kw_X10_pit : Cond.code yX10_pit cX10_pit 6 (some .int) ∈ zgood := zgood_t 341 (by rfl) (by decide +kernel)
set_option maxRecDepth 100000 in
theorem ok_X10_pit : zOK mX10_pit 5 := ⟨kw_X10_pit, ii_X10, by decide +kernel, by decide +kernel, by decide +kernel⟩
set_option maxRecDepth 100000 in
theorem in_X10_pit : Cond.instanceMethod yX10_pit ∈ zgood := zgood_t 339 (by decide +kernel) (by decide +kernel)
set_option maxRecDepth 100000 in
theorem se_X10_pit : Cond.selects RX10 yX10_pit yX10_pit ∈ zgood := zgood_t 340 (by decide +kernel) (by decide +kernel)
set_option maxRecDepth 100000 in
theorem ml_L_22 : zML RL 22 yX11_pit := Or.inl (zgood_t 1073 (by decide +kernel) (by decide +kernel))
set_option maxRecDepth 100000 in
theorem kw_X11_pit : Cond.code yX11_pit cX11_pit 6 (some .int) ∈ zgood := zgood_t 1076 (by rfl) (by decide +kernel)
set_option maxRecDepth 100000 in
theorem ok_X11_pit : zOK mX11_pit 5 := ⟨kw_X11_pit, ii_X11, by decide +kernel, by decide +kernel, by decide +kernel⟩
set_option maxRecDepth 100000 in
theorem in_X11_pit : Cond.instanceMethod yX11_pit ∈ zgood := zgood_t 1074 (by decide +kernel) (by decide +kernel)
set_option maxRecDepth 100000 in
theorem se_X11_pit : Cond.selects RX11 yX11_pit yX11_pit ∈ zgood := zgood_t 1075 (by decide +kernel) (by decide +kernel)
set_option maxRecDepth 100000 in
theorem ml_L_23 : zML RL 23 yX10_about := Or.inl (zgood_t 386 (by decide +kernel) (by decide +kernel))
set_option maxRecDepth 100000 in
theorem kw_X10_about : Cond.code yX10_about cX10_about 4 (some .int) ∈ zgood := zgood_t 389 (by rfl) (by decide +kernel)
set_option maxRecDepth 100000 in
theorem ok_X10_about : zOK mX10_about 2 := ⟨kw_X10_about, ii_X10, by decide +kernel, by decide +kernel, by decide +kernel⟩
set_option maxRecDepth 100000 in
theorem in_X10_about : Cond.instanceMethod yX10_about ∈ zgood := zgood_t 387 (by decide +kernel) (by decide +kernel)
set_option maxRecDepth 100000 in
theorem se_X10_about : Cond.selects RX10 yX10_about yX10_about ∈ zgood := zgood_t 388 (by decide +kernel) (by decide +kernel)
set_option maxRecDepth 100000 in
theorem ml_L_27 : zML RL 27 yX11_about := Or.inl (zgood_t 1079 (by decide +kernel) (by decide +kernel))
set_option maxRecDepth 100000 in
theorem kw_X11_about : Cond.code yX11_about cX11_about 3 (some .int) ∈ zgood := zgood_t 1082 (by rfl) (by decide +kernel)
set_option maxRecDepth 100000 in
theorem ok_X11_about : zOK mX11_about 2 := ⟨kw_X11_about, ii_X11, by decide +kernel, by decide +kernel, by decide +kernel⟩
set_option maxRecDepth 100000 in
theorem in_X11_about : Cond.instanceMethod yX11_about ∈ zgood := zgood_t 1080 (by decide +kernel) (by decide +kernel)
set_option maxRecDepth 100000 in
theorem se_X11_about : Cond.selects RX11 yX11_about yX11_about ∈ zgood := zgood_t 1081 (by decide +kernel) (by decide +kernel)
set_option maxRecDepth 100000 in
theorem ml_L_28 : zML RL 28 yX10_man := Or.inl (zgood_t 401 (by decide +kernel) (by decide +kernel))
set_option maxRecDepth 100000 in
theorem kw_X10_man : Cond.code yX10_man cX10_man 7 (some .int) ∈ zgood := zgood_t 404 (by rfl) (by decide +kernel)
set_option maxRecDepth 100000 in
theorem ok_X10_man : zOK mX10_man 6 := ⟨kw_X10_man, ii_X10, by decide +kernel, by decide +kernel, by decide +kernel⟩
set_option maxRecDepth 100000 in
theorem in_X10_man : Cond.instanceMethod yX10_man ∈ zgood := zgood_t 402 (by decide +kernel) (by decide +kernel)
set_option maxRecDepth 100000 in
theorem se_X10_man : Cond.selects RX10 yX10_man yX10_man ∈ zgood := zgood_t 403 (by decide +kernel) (by decide +kernel)
set_option maxRecDepth 100000 in
theorem ml_L_32 : zML RL 32 yX11_man := Or.inl (zgood_t 1093 (by decide +kernel) (by decide +kernel))
set_option maxRecDepth 100000 in
theorem kw_X11_man : Cond.code yX11_man cX11_man 7 (some .int) ∈ zgood := zgood_t 1096 (by rfl) (by decide +kernel)
set_option maxRecDepth 100000 in
theorem ok_X11_man : zOK mX11_man 6 := ⟨kw_X11_man, ii_X11, by decide +kernel, by decide +kernel, by decide +kernel⟩
set_option maxRecDepth 100000 in
theorem in_X11_man : Cond.instanceMethod yX11_man ∈ zgood := zgood_t 1094 (by decide +kernel) (by decide +kernel)
set_option maxRecDepth 100000 in
theorem se_X11_man : Cond.selects RX11 yX11_man yX11_man ∈ zgood := zgood_t 1095 (by decide +kernel) (by decide +kernel)
set_option maxRecDepth 100000 in
theorem ml_L_33 : zML RL 33 yX10_ofMan := Or.inl (zgood_t 446 (by decide +kernel) (by decide +kernel))
set_option maxRecDepth 100000 in
theorem kw_X10_ofMan : Cond.code yX10_ofMan cX10_ofMan 4 (some .int) ∈ zgood := zgood_t 449 (by rfl) (by decide +kernel)
set_option maxRecDepth 100000 in
theorem ok_X10_ofMan : zOK mX10_ofMan 2 := ⟨kw_X10_ofMan, ii_X10, by decide +kernel, by decide +kernel, by decide +kernel⟩
set_option maxRecDepth 100000 in
theorem in_X10_ofMan : Cond.instanceMethod yX10_ofMan ∈ zgood := zgood_t 447 (by decide +kernel) (by decide +kernel)
set_option maxRecDepth 100000 in
theorem se_X10_ofMan : Cond.selects RX10 yX10_ofMan yX10_ofMan ∈ zgood := zgood_t 448 (by decide +kernel) (by decide +kernel)
set_option maxRecDepth 100000 in
theorem ml_L_36 : zML RL 36 yX11_ofMan := Or.inl (zgood_t 1101 (by decide +kernel) (by decide +kernel))
set_option maxRecDepth 100000 in
theorem kw_X11_ofMan : Cond.code yX11_ofMan cX11_ofMan 3 (some .int) ∈ zgood := zgood_t 1104 (by rfl) (by decide +kernel)
set_option maxRecDepth 100000 in
theorem ok_X11_ofMan : zOK mX11_ofMan 2 := ⟨kw_X11_ofMan, ii_X11, by decide +kernel, by decide +kernel, by decide +kernel⟩
set_option maxRecDepth 100000 in
theorem in_X11_ofMan : Cond.instanceMethod yX11_ofMan ∈ zgood := zgood_t 1102 (by decide +kernel) (by decide +kernel)
set_option maxRecDepth 100000 in
theorem se_X11_ofMan : Cond.selects RX11 yX11_ofMan yX11_ofMan ∈ zgood := zgood_t 1103 (by decide +kernel) (by decide +kernel)
set_option maxRecDepth 100000 in
theorem ml_L_37 : zML RL 37 yX10_leave := Or.inl (zgood_t 454 (by decide +kernel) (by decide +kernel))
set_option maxRecDepth 100000 in
theorem kw_X10_leave : Cond.code yX10_leave cX10_leave 3 (some .int) ∈ zgood := zgood_t 457 (by rfl) (by decide +kernel)
set_option maxRecDepth 100000 in
theorem ok_X10_leave : zOK mX10_leave 1 := ⟨kw_X10_leave, ii_X10, by decide +kernel, by decide +kernel, by decide +kernel⟩
set_option maxRecDepth 100000 in
theorem in_X10_leave : Cond.instanceMethod yX10_leave ∈ zgood := zgood_t 455 (by decide +kernel) (by decide +kernel)
set_option maxRecDepth 100000 in
theorem se_X10_leave : Cond.selects RX10 yX10_leave yX10_leave ∈ zgood := zgood_t 456 (by decide +kernel) (by decide +kernel)
set_option maxRecDepth 100000 in
theorem ml_L_41 : zML RL 41 yX11_leave := Or.inl (zgood_t 1109 (by decide +kernel) (by decide +kernel))
set_option maxRecDepth 100000 in
theorem kw_X11_leave : Cond.code yX11_leave cX11_leave 3 (some .int) ∈ zgood := zgood_t 1112 (by rfl) (by decide +kernel)
set_option maxRecDepth 100000 in
theorem ok_X11_leave : zOK mX11_leave 1 := ⟨kw_X11_leave, ii_X11, by decide +kernel, by decide +kernel, by decide +kernel⟩
set_option maxRecDepth 100000 in
theorem in_X11_leave : Cond.instanceMethod yX11_leave ∈ zgood := zgood_t 1110 (by decide +kernel) (by decide +kernel)
set_option maxRecDepth 100000 in
theorem se_X11_leave : Cond.selects RX11 yX11_leave yX11_leave ∈ zgood := zgood_t 1111 (by decide +kernel) (by decide +kernel)
set_option maxRecDepth 100000 in
theorem ml_L_42 : zML RL 42 yX10_posts := Or.inl (zgood_t 462 (by decide +kernel) (by decide +kernel))
set_option maxRecDepth 100000 in
theorem kw_X10_posts : Cond.code yX10_posts cX10_posts 5 (some .int) ∈ zgood := zgood_t 465 (by rfl) (by decide +kernel)
set_option maxRecDepth 100000 in
theorem ok_X10_posts : zOK mX10_posts 3 := ⟨kw_X10_posts, ii_X10, by decide +kernel, by decide +kernel, by decide +kernel⟩
set_option maxRecDepth 100000 in
theorem in_X10_posts : Cond.instanceMethod yX10_posts ∈ zgood := zgood_t 463 (by decide +kernel) (by decide +kernel)
set_option maxRecDepth 100000 in
theorem se_X10_posts : Cond.selects RX10 yX10_posts yX10_posts ∈ zgood := zgood_t 464 (by decide +kernel) (by decide +kernel)
set_option maxRecDepth 100000 in
theorem ml_L_45 : zML RL 45 yX11_posts := Or.inl (zgood_t 1117 (by decide +kernel) (by decide +kernel))
set_option maxRecDepth 100000 in
theorem kw_X11_posts : Cond.code yX11_posts cX11_posts 5 (some .int) ∈ zgood := zgood_t 1120 (by rfl) (by decide +kernel)
set_option maxRecDepth 100000 in
theorem ok_X11_posts : zOK mX11_posts 3 := ⟨kw_X11_posts, ii_X11, by decide +kernel, by decide +kernel, by decide +kernel⟩
set_option maxRecDepth 100000 in
theorem in_X11_posts : Cond.instanceMethod yX11_posts ∈ zgood := zgood_t 1118 (by decide +kernel) (by decide +kernel)
set_option maxRecDepth 100000 in
theorem se_X11_posts : Cond.selects RX11 yX11_posts yX11_posts ∈ zgood := zgood_t 1119 (by decide +kernel) (by decide +kernel)
set_option maxRecDepth 100000 in
theorem ml_L_46 : zML RL 46 yX10_set := Or.inl (zgood_t 466 (by decide +kernel) (by decide +kernel))
set_option maxRecDepth 100000 in
theorem kw_X10_set : Cond.code yX10_set cX10_set 4 (some .int) ∈ zgood := zgood_t 469 (by rfl) (by decide +kernel)
set_option maxRecDepth 100000 in
theorem ok_X10_set : zOK mX10_set 2 := ⟨kw_X10_set, ii_X10, by decide +kernel, by decide +kernel, by decide +kernel⟩
set_option maxRecDepth 100000 in
theorem in_X10_set : Cond.instanceMethod yX10_set ∈ zgood := zgood_t 467 (by decide +kernel) (by decide +kernel)
set_option maxRecDepth 100000 in
theorem se_X10_set : Cond.selects RX10 yX10_set yX10_set ∈ zgood := zgood_t 468 (by decide +kernel) (by decide +kernel)
set_option maxRecDepth 100000 in
theorem ml_L_49 : zML RL 49 yX11_set := Or.inl (zgood_t 1122 (by decide +kernel) (by decide +kernel))
set_option maxRecDepth 100000 in
theorem kw_X11_set : Cond.code yX11_set cX11_set 4 (some .int) ∈ zgood := zgood_t 1125 (by rfl) (by decide +kernel)
set_option maxRecDepth 100000 in
theorem ok_X11_set : zOK mX11_set 2 := ⟨kw_X11_set, ii_X11, by decide +kernel, by decide +kernel, by decide +kernel⟩
set_option maxRecDepth 100000 in
theorem in_X11_set : Cond.instanceMethod yX11_set ∈ zgood := zgood_t 1123 (by decide +kernel) (by decide +kernel)
set_option maxRecDepth 100000 in
theorem se_X11_set : Cond.selects RX11 yX11_set yX11_set ∈ zgood := zgood_t 1124 (by decide +kernel) (by decide +kernel)
set_option maxRecDepth 100000 in
theorem ml_L_50 : zML RL 50 yX10_year := Or.inl (zgood_t 474 (by decide +kernel) (by decide +kernel))
set_option maxRecDepth 100000 in
theorem kw_X10_year : Cond.code yX10_year cX10_year 3 (some .int) ∈ zgood := zgood_t 477 (by rfl) (by decide +kernel)
set_option maxRecDepth 100000 in
theorem ok_X10_year : zOK mX10_year 0 := ⟨kw_X10_year, ii_X10, by decide +kernel, by decide +kernel, by decide +kernel⟩
set_option maxRecDepth 100000 in
theorem in_X10_year : Cond.instanceMethod yX10_year ∈ zgood := zgood_t 475 (by decide +kernel) (by decide +kernel)
set_option maxRecDepth 100000 in
theorem se_X10_year : Cond.selects RX10 yX10_year yX10_year ∈ zgood := zgood_t 476 (by decide +kernel) (by decide +kernel)
set_option maxRecDepth 100000 in
theorem ml_L_54 : zML RL 54 yX11_year := Or.inl (zgood_t 1133 (by decide +kernel) (by decide +kernel))
set_option maxRecDepth 100000 in
theorem kw_X11_year : Cond.code yX11_year cX11_year 3 (some .int) ∈ zgood := zgood_t 1136 (by rfl) (by decide +kernel)
set_option maxRecDepth 100000 in
theorem ok_X11_year : zOK mX11_year 0 := ⟨kw_X11_year, ii_X11, by decide +kernel, by decide +kernel, by decide +kernel⟩
set_option maxRecDepth 100000 in
theorem in_X11_year : Cond.instanceMethod yX11_year ∈ zgood := zgood_t 1134 (by decide +kernel) (by decide +kernel)
set_option maxRecDepth 100000 in
theorem se_X11_year : Cond.selects RX11 yX11_year yX11_year ∈ zgood := zgood_t 1135 (by decide +kernel) (by decide +kernel)
set_option maxRecDepth 100000 in
theorem ml_L_55 : zML RL 55 yX10_say := Or.inl (zgood_t 486 (by decide +kernel) (by decide +kernel))
set_option maxRecDepth 100000 in
theorem kw_X10_say : Cond.code yX10_say cX10_say 2 (some .int) ∈ zgood := zgood_t 489 (by rfl) (by decide +kernel)
set_option maxRecDepth 100000 in
theorem ok_X10_say : zOK mX10_say 1 := ⟨kw_X10_say, ii_X10, by decide +kernel, by decide +kernel, by decide +kernel⟩
set_option maxRecDepth 100000 in
theorem in_X10_say : Cond.instanceMethod yX10_say ∈ zgood := zgood_t 487 (by decide +kernel) (by decide +kernel)
set_option maxRecDepth 100000 in
theorem se_X10_say : Cond.selects RX10 yX10_say yX10_say ∈ zgood := zgood_t 488 (by decide +kernel) (by decide +kernel)
set_option maxRecDepth 100000 in
theorem ml_L_58 : zML RL 58 yX11_say := Or.inl (zgood_t 1137 (by decide +kernel) (by decide +kernel))
set_option maxRecDepth 100000 in
theorem kw_X11_say : Cond.code yX11_say cX11_say 2 (some .int) ∈ zgood := zgood_t 1140 (by rfl) (by decide +kernel)
set_option maxRecDepth 100000 in
theorem ok_X11_say : zOK mX11_say 1 := ⟨kw_X11_say, ii_X11, by decide +kernel, by decide +kernel, by decide +kernel⟩
set_option maxRecDepth 100000 in
theorem in_X11_say : Cond.instanceMethod yX11_say ∈ zgood := zgood_t 1138 (by decide +kernel) (by decide +kernel)
set_option maxRecDepth 100000 in
theorem se_X11_say : Cond.selects RX11 yX11_say yX11_say ∈ zgood := zgood_t 1139 (by decide +kernel) (by decide +kernel)
set_option maxRecDepth 100000 in
theorem ml_L_59 : zML RL 59 yX10_wipe := Or.inl (zgood_t 494 (by decide +kernel) (by decide +kernel))
set_option maxRecDepth 100000 in
theorem kw_X10_wipe : Cond.code yX10_wipe cX10_wipe 2 (some .int) ∈ zgood := zgood_t 497 (by rfl) (by decide +kernel)
set_option maxRecDepth 100000 in
theorem ok_X10_wipe : zOK mX10_wipe 0 := ⟨kw_X10_wipe, ii_X10, by decide +kernel, by decide +kernel, by decide +kernel⟩
set_option maxRecDepth 100000 in
theorem in_X10_wipe : Cond.instanceMethod yX10_wipe ∈ zgood := zgood_t 495 (by decide +kernel) (by decide +kernel)
set_option maxRecDepth 100000 in
theorem se_X10_wipe : Cond.selects RX10 yX10_wipe yX10_wipe ∈ zgood := zgood_t 496 (by decide +kernel) (by decide +kernel)
set_option maxRecDepth 100000 in
theorem ml_L_62 : zML RL 62 yX11_wipe := Or.inl (zgood_t 1143 (by decide +kernel) (by decide +kernel))
set_option maxRecDepth 100000 in
theorem kw_X11_wipe : Cond.code yX11_wipe cX11_wipe 2 (some .int) ∈ zgood := zgood_t 1146 (by rfl) (by decide +kernel)
set_option maxRecDepth 100000 in
theorem ok_X11_wipe : zOK mX11_wipe 0 := ⟨kw_X11_wipe, ii_X11, by decide +kernel, by decide +kernel, by decide +kernel⟩
set_option maxRecDepth 100000 in
theorem in_X11_wipe : Cond.instanceMethod yX11_wipe ∈ zgood := zgood_t 1144 (by decide +kernel) (by decide +kernel)
set_option maxRecDepth 100000 in
theorem se_X11_wipe : Cond.selects RX11 yX11_wipe yX11_wipe ∈ zgood := zgood_t 1145 (by decide +kernel) (by decide +kernel)
set_option maxRecDepth 100000 in
theorem ml_L_63 : zML RL 63 yX10_fault := Or.inl (zgood_t 498 (by decide +kernel) (by decide +kernel))
set_option maxRecDepth 100000 in
theorem kw_X10_fault : Cond.code yX10_fault cX10_fault 1 (some .int) ∈ zgood := zgood_t 501 (by rfl) (by decide +kernel)
set_option maxRecDepth 100000 in
theorem ok_X10_fault : zOK mX10_fault 0 := ⟨kw_X10_fault, ii_X10, by decide +kernel, by decide +kernel, by decide +kernel⟩
set_option maxRecDepth 100000 in
theorem in_X10_fault : Cond.instanceMethod yX10_fault ∈ zgood := zgood_t 499 (by decide +kernel) (by decide +kernel)
set_option maxRecDepth 100000 in
theorem se_X10_fault : Cond.selects RX10 yX10_fault yX10_fault ∈ zgood := zgood_t 500 (by decide +kernel) (by decide +kernel)
set_option maxRecDepth 100000 in
theorem ml_L_66 : zML RL 66 yX11_fault := Or.inl (zgood_t 1147 (by decide +kernel) (by decide +kernel))
set_option maxRecDepth 100000 in
theorem kw_X11_fault : Cond.code yX11_fault cX11_fault 6 (some .int) ∈ zgood := zgood_t 1150 (by rfl) (by decide +kernel)
set_option maxRecDepth 100000 in
theorem ok_X11_fault : zOK mX11_fault 0 := ⟨kw_X11_fault, ii_X11, by decide +kernel, by decide +kernel, by decide +kernel⟩
set_option maxRecDepth 100000 in
theorem in_X11_fault : Cond.instanceMethod yX11_fault ∈ zgood := zgood_t 1148 (by decide +kernel) (by decide +kernel)
set_option maxRecDepth 100000 in
theorem se_X11_fault : Cond.selects RX11 yX11_fault yX11_fault ∈ zgood := zgood_t 1149 (by decide +kernel) (by decide +kernel)
set_option maxRecDepth 100000 in
theorem ml_L_67 : zML RL 67 yX10_rule := Or.inl (zgood_t 512 (by decide +kernel) (by decide +kernel))
set_option maxRecDepth 100000 in
theorem kw_X10_rule : Cond.code yX10_rule cX10_rule 3 (some .int) ∈ zgood := zgood_t 515 (by rfl) (by decide +kernel)
set_option maxRecDepth 100000 in
theorem ok_X10_rule : zOK mX10_rule 1 := ⟨kw_X10_rule, ii_X10, by decide +kernel, by decide +kernel, by decide +kernel⟩
set_option maxRecDepth 100000 in
theorem in_X10_rule : Cond.instanceMethod yX10_rule ∈ zgood := zgood_t 513 (by decide +kernel) (by decide +kernel)
set_option maxRecDepth 100000 in
theorem se_X10_rule : Cond.selects RX10 yX10_rule yX10_rule ∈ zgood := zgood_t 514 (by decide +kernel) (by decide +kernel)
set_option maxRecDepth 100000 in
theorem ml_L_70 : zML RL 70 yX11_rule := Or.inl (zgood_t 1162 (by decide +kernel) (by decide +kernel))
set_option maxRecDepth 100000 in
theorem kw_X11_rule : Cond.code yX11_rule cX11_rule 4 (some .int) ∈ zgood := zgood_t 1165 (by rfl) (by decide +kernel)
set_option maxRecDepth 100000 in
theorem ok_X11_rule : zOK mX11_rule 1 := ⟨kw_X11_rule, ii_X11, by decide +kernel, by decide +kernel, by decide +kernel⟩
set_option maxRecDepth 100000 in
theorem in_X11_rule : Cond.instanceMethod yX11_rule ∈ zgood := zgood_t 1163 (by decide +kernel) (by decide +kernel)
set_option maxRecDepth 100000 in
theorem se_X11_rule : Cond.selects RX11 yX11_rule yX11_rule ∈ zgood := zgood_t 1164 (by decide +kernel) (by decide +kernel)
set_option maxRecDepth 100000 in
theorem ml_L_71 : zML RL 71 yX10_worth := Or.inl (zgood_t 524 (by decide +kernel) (by decide +kernel))
set_option maxRecDepth 100000 in
theorem kw_X10_worth : Cond.code yX10_worth cX10_worth 3 (some .int) ∈ zgood := zgood_t 527 (by rfl) (by decide +kernel)
set_option maxRecDepth 100000 in
theorem ok_X10_worth : zOK mX10_worth 2 := ⟨kw_X10_worth, ii_X10, by decide +kernel, by decide +kernel, by decide +kernel⟩
set_option maxRecDepth 100000 in
theorem in_X10_worth : Cond.instanceMethod yX10_worth ∈ zgood := zgood_t 525 (by decide +kernel) (by decide +kernel)
set_option maxRecDepth 100000 in
theorem se_X10_worth : Cond.selects RX10 yX10_worth yX10_worth ∈ zgood := zgood_t 526 (by decide +kernel) (by decide +kernel)
set_option maxRecDepth 100000 in
theorem ml_L_74 : zML RL 74 yX11_worth := Or.inl (zgood_t 1167 (by decide +kernel) (by decide +kernel))
set_option maxRecDepth 100000 in
theorem kw_X11_worth : Cond.code yX11_worth cX11_worth 3 (some .int) ∈ zgood := zgood_t 1170 (by rfl) (by decide +kernel)
set_option maxRecDepth 100000 in
theorem ok_X11_worth : zOK mX11_worth 2 := ⟨kw_X11_worth, ii_X11, by decide +kernel, by decide +kernel, by decide +kernel⟩
set_option maxRecDepth 100000 in
theorem in_X11_worth : Cond.instanceMethod yX11_worth ∈ zgood := zgood_t 1168 (by decide +kernel) (by decide +kernel)
set_option maxRecDepth 100000 in
theorem se_X11_worth : Cond.selects RX11 yX11_worth yX11_worth ∈ zgood := zgood_t 1169 (by decide +kernel) (by decide +kernel)
set_option maxRecDepth 100000 in
theorem ml_L_75 : zML RL 75 yX10_move := Or.inl (zgood_t 576 (by decide +kernel) (by decide +kernel))
set_option maxRecDepth 100000 in
theorem kw_X10_move : Cond.code yX10_move cX10_move 3 (some .int) ∈ zgood := zgood_t 579 (by rfl) (by decide +kernel)
set_option maxRecDepth 100000 in
theorem ok_X10_move : zOK mX10_move 2 := ⟨kw_X10_move, ii_X10, by decide +kernel, by decide +kernel, by decide +kernel⟩
set_option maxRecDepth 100000 in
theorem in_X10_move : Cond.instanceMethod yX10_move ∈ zgood := zgood_t 577 (by decide +kernel) (by decide +kernel)
set_option maxRecDepth 100000 in
theorem se_X10_move : Cond.selects RX10 yX10_move yX10_move ∈ zgood := zgood_t 578 (by decide +kernel) (by decide +kernel)
set_option maxRecDepth 100000 in
theorem ml_L_78 : zML RL 78 yX11_move := Or.inl (zgood_t 1200 (by decide +kernel) (by decide +kernel))
set_option maxRecDepth 100000 in
theorem kw_X11_move : Cond.code yX11_move cX11_move 4 (some .int) ∈ zgood := zgood_t 1203 (by rfl) (by decide +kernel)
set_option maxRecDepth 100000 in
theorem ok_X11_move : zOK mX11_move 2 := ⟨kw_X11_move, ii_X11, by decide +kernel, by decide +kernel, by decide +kernel⟩
set_option maxRecDepth 100000 in
theorem in_X11_move : Cond.instanceMethod yX11_move ∈ zgood := zgood_t 1201 (by decide +kernel) (by decide +kernel)
set_option maxRecDepth 100000 in
theorem se_X11_move : Cond.selects RX11 yX11_move yX11_move ∈ zgood := zgood_t 1202 (by decide +kernel) (by decide +kernel)
set_option maxRecDepth 100000 in
theorem ml_L_79 : zML RL 79 yX10_close := Or.inl (zgood_t 651 (by decide +kernel) (by decide +kernel))
set_option maxRecDepth 100000 in
theorem kw_X10_close : Cond.code yX10_close cX10_close 2 (some .int) ∈ zgood := zgood_t 654 (by rfl) (by decide +kernel)
set_option maxRecDepth 100000 in
theorem ok_X10_close : zOK mX10_close 1 := ⟨kw_X10_close, ii_X10, by decide +kernel, by decide +kernel, by decide +kernel⟩
set_option maxRecDepth 100000 in
theorem in_X10_close : Cond.instanceMethod yX10_close ∈ zgood := zgood_t 652 (by decide +kernel) (by decide +kernel)
set_option maxRecDepth 100000 in
theorem se_X10_close : Cond.selects RX10 yX10_close yX10_close ∈ zgood := zgood_t 653 (by decide +kernel) (by decide +kernel)
set_option maxRecDepth 100000 in
theorem ml_L_82 : zML RL 82 yX11_close := Or.inl (zgood_t 1229 (by decide +kernel) (by decide +kernel))
set_option maxRecDepth 100000 in
theorem kw_X11_close : Cond.code yX11_close cX11_close 4 (some .int) ∈ zgood := zgood_t 1232 (by rfl) (by decide +kernel)
set_option maxRecDepth 100000 in
theorem ok_X11_close : zOK mX11_close 1 := ⟨kw_X11_close, ii_X11, by decide +kernel, by decide +kernel, by decide +kernel⟩
set_option maxRecDepth 100000 in
theorem in_X11_close : Cond.instanceMethod yX11_close ∈ zgood := zgood_t 1230 (by decide +kernel) (by decide +kernel)
set_option maxRecDepth 100000 in
theorem se_X11_close : Cond.selects RX11 yX11_close yX11_close ∈ zgood := zgood_t 1231 (by decide +kernel) (by decide +kernel)
set_option maxRecDepth 100000 in
theorem ml_L_83 : zML RL 83 yX10_inflow := Or.inl (zgood_t 664 (by decide +kernel) (by decide +kernel))
set_option maxRecDepth 100000 in
theorem kw_X10_inflow : Cond.code yX10_inflow cX10_inflow 4 (some .int) ∈ zgood := zgood_t 667 (by rfl) (by decide +kernel)
set_option maxRecDepth 100000 in
theorem ok_X10_inflow : zOK mX10_inflow 2 := ⟨kw_X10_inflow, ii_X10, by decide +kernel, by decide +kernel, by decide +kernel⟩
set_option maxRecDepth 100000 in
theorem in_X10_inflow : Cond.instanceMethod yX10_inflow ∈ zgood := zgood_t 665 (by decide +kernel) (by decide +kernel)
set_option maxRecDepth 100000 in
theorem se_X10_inflow : Cond.selects RX10 yX10_inflow yX10_inflow ∈ zgood := zgood_t 666 (by decide +kernel) (by decide +kernel)
set_option maxRecDepth 100000 in
theorem ml_L_86 : zML RL 86 yX11_inflow := Or.inl (zgood_t 1237 (by decide +kernel) (by decide +kernel))
set_option maxRecDepth 100000 in
theorem kw_X11_inflow : Cond.code yX11_inflow cX11_inflow 4 (some .int) ∈ zgood := zgood_t 1240 (by rfl) (by decide +kernel)
set_option maxRecDepth 100000 in
theorem ok_X11_inflow : zOK mX11_inflow 2 := ⟨kw_X11_inflow, ii_X11, by decide +kernel, by decide +kernel, by decide +kernel⟩
set_option maxRecDepth 100000 in
theorem in_X11_inflow : Cond.instanceMethod yX11_inflow ∈ zgood := zgood_t 1238 (by decide +kernel) (by decide +kernel)
set_option maxRecDepth 100000 in
theorem se_X11_inflow : Cond.selects RX11 yX11_inflow yX11_inflow ∈ zgood := zgood_t 1239 (by decide +kernel) (by decide +kernel)
set_option maxRecDepth 100000 in
theorem ml_L_87 : zML RL 87 yX10_pump := Or.inl (zgood_t 668 (by decide +kernel) (by decide +kernel))
set_option maxRecDepth 100000 in
theorem kw_X10_pump : Cond.code yX10_pump cX10_pump 4 (some .int) ∈ zgood := zgood_t 671 (by rfl) (by decide +kernel)
set_option maxRecDepth 100000 in
theorem ok_X10_pump : zOK mX10_pump 2 := ⟨kw_X10_pump, ii_X10, by decide +kernel, by decide +kernel, by decide +kernel⟩
set_option maxRecDepth 100000 in
theorem in_X10_pump : Cond.instanceMethod yX10_pump ∈ zgood := zgood_t 669 (by decide +kernel) (by decide +kernel)
set_option maxRecDepth 100000 in
theorem se_X10_pump : Cond.selects RX10 yX10_pump yX10_pump ∈ zgood := zgood_t 670 (by decide +kernel) (by decide +kernel)
set_option maxRecDepth 100000 in
theorem ml_L_91 : zML RL 91 yX11_pump := Or.inl (zgood_t 1242 (by decide +kernel) (by decide +kernel))
set_option maxRecDepth 100000 in
theorem kw_X11_pump : Cond.code yX11_pump cX11_pump 4 (some .int) ∈ zgood := zgood_t 1245 (by rfl) (by decide +kernel)
set_option maxRecDepth 100000 in
theorem ok_X11_pump : zOK mX11_pump 2 := ⟨kw_X11_pump, ii_X11, by decide +kernel, by decide +kernel, by decide +kernel⟩
set_option maxRecDepth 100000 in
theorem in_X11_pump : Cond.instanceMethod yX11_pump ∈ zgood := zgood_t 1243 (by decide +kernel) (by decide +kernel)
set_option maxRecDepth 100000 in
theorem se_X11_pump : Cond.selects RX11 yX11_pump yX11_pump ∈ zgood := zgood_t 1244 (by decide +kernel) (by decide +kernel)
set_option maxRecDepth 100000 in
theorem ml_L_92 : zML RL 92 yX10_way := Or.inl (zgood_t 672 (by decide +kernel) (by decide +kernel))
set_option maxRecDepth 100000 in
theorem kw_X10_way : Cond.code yX10_way cX10_way 4 (some .int) ∈ zgood := zgood_t 675 (by rfl) (by decide +kernel)
set_option maxRecDepth 100000 in
theorem ok_X10_way : zOK mX10_way 3 := ⟨kw_X10_way, ii_X10, by decide +kernel, by decide +kernel, by decide +kernel⟩
set_option maxRecDepth 100000 in
theorem in_X10_way : Cond.instanceMethod yX10_way ∈ zgood := zgood_t 673 (by decide +kernel) (by decide +kernel)
set_option maxRecDepth 100000 in
theorem se_X10_way : Cond.selects RX10 yX10_way yX10_way ∈ zgood := zgood_t 674 (by decide +kernel) (by decide +kernel)
set_option maxRecDepth 100000 in
theorem ml_L_95 : zML RL 95 yX11_way := Or.inl (zgood_t 1246 (by decide +kernel) (by decide +kernel))
set_option maxRecDepth 100000 in
theorem kw_X11_way : Cond.code yX11_way cX11_way 4 (some .int) ∈ zgood := zgood_t 1249 (by rfl) (by decide +kernel)
set_option maxRecDepth 100000 in
theorem ok_X11_way : zOK mX11_way 3 := ⟨kw_X11_way, ii_X11, by decide +kernel, by decide +kernel, by decide +kernel⟩
set_option maxRecDepth 100000 in
theorem in_X11_way : Cond.instanceMethod yX11_way ∈ zgood := zgood_t 1247 (by decide +kernel) (by decide +kernel)
set_option maxRecDepth 100000 in
theorem se_X11_way : Cond.selects RX11 yX11_way yX11_way ∈ zgood := zgood_t 1248 (by decide +kernel) (by decide +kernel)
set_option maxRecDepth 100000 in
theorem ml_L_96 : zML RL 96 yX10_months := Or.inl (zgood_t 680 (by decide +kernel) (by decide +kernel))
set_option maxRecDepth 100000 in
theorem kw_X10_months : Cond.code yX10_months cX10_months 4 (some .int) ∈ zgood := zgood_t 683 (by rfl) (by decide +kernel)
set_option maxRecDepth 100000 in
theorem ok_X10_months : zOK mX10_months 1 := ⟨kw_X10_months, ii_X10, by decide +kernel, by decide +kernel, by decide +kernel⟩
set_option maxRecDepth 100000 in
theorem in_X10_months : Cond.instanceMethod yX10_months ∈ zgood := zgood_t 681 (by decide +kernel) (by decide +kernel)
set_option maxRecDepth 100000 in
theorem se_X10_months : Cond.selects RX10 yX10_months yX10_months ∈ zgood := zgood_t 682 (by decide +kernel) (by decide +kernel)
set_option maxRecDepth 100000 in
theorem ml_L_99 : zML RL 99 yX11_months := Or.inl (zgood_t 1250 (by decide +kernel) (by decide +kernel))
set_option maxRecDepth 100000 in
theorem kw_X11_months : Cond.code yX11_months cX11_months 5 (some .int) ∈ zgood := zgood_t 1253 (by rfl) (by decide +kernel)
set_option maxRecDepth 100000 in
theorem ok_X11_months : zOK mX11_months 1 := ⟨kw_X11_months, ii_X11, by decide +kernel, by decide +kernel, by decide +kernel⟩
set_option maxRecDepth 100000 in
theorem in_X11_months : Cond.instanceMethod yX11_months ∈ zgood := zgood_t 1251 (by decide +kernel) (by decide +kernel)
set_option maxRecDepth 100000 in
theorem se_X11_months : Cond.selects RX11 yX11_months yX11_months ∈ zgood := zgood_t 1252 (by decide +kernel) (by decide +kernel)
set_option maxRecDepth 100000 in
theorem ml_X1_40 : zML RX1 40 yX1_quit := Or.inl (zgood_t 485 (by decide +kernel) (by decide +kernel))
set_option maxRecDepth 100000 in
theorem kw_X1_quit : Cond.code yX1_quit cX1_quit 2 none ∈ zgood := zgood_t 461 (by rfl) (by decide +kernel)
set_option maxRecDepth 100000 in
theorem ok_X1_quit : zOK mX1_quit 1 := ⟨kw_X1_quit, ii_X1, by decide +kernel, by decide +kernel, by decide +kernel⟩
set_option maxRecDepth 100000 in
theorem in_X1_quit : Cond.instanceMethod yX1_quit ∈ zgood := zgood_t 460 (by decide +kernel) (by decide +kernel)
set_option maxRecDepth 100000 in
theorem se_X1_quit : Cond.selects RX1 yX1_quit yX1_quit ∈ zgood := zgood_p 4 (by decide +kernel) (by decide +kernel)
set_option maxRecDepth 100000 in
theorem ml_X10_116 : zML RX10 116 yX9_addBasin := Or.inr ⟨"PitPact", znest_t 382 (by decide +kernel) (by decide +kernel)⟩
set_option maxRecDepth 100000 in
theorem kw_X9_addBasin : Cond.code yX9_addBasin cX9_addBasin 2 none ∈ zgood := zgood_t 385 (by rfl) (by decide +kernel)
set_option maxRecDepth 100000 in
theorem ok_X9_addBasin : zOK mX9_addBasin 1 := ⟨kw_X9_addBasin, ii_X9, by decide +kernel, by decide +kernel, by decide +kernel⟩
set_option maxRecDepth 100000 in
theorem in_X9_addBasin : Cond.instanceMethod yX9_addBasin ∈ zgood := zgood_t 384 (by decide +kernel) (by decide +kernel)
set_option maxRecDepth 100000 in
theorem se_X9_addBasin : Cond.selects RX9 yX9_addBasin yX9_addBasin ∈ zgood := zgood_p 0 (by decide +kernel) (by decide +kernel)
set_option maxRecDepth 100000 in
theorem ml_X10_120 : zML RX10 120 yX10_isPit := Or.inl (zgood_t 390 (by decide +kernel) (by decide +kernel))
set_option maxRecDepth 100000 in
theorem kw_X10_isPit : Cond.code yX10_isPit cX10_isPit 2 (some .boolean) ∈ zgood := zgood_t 393 (by rfl) (by decide +kernel)
set_option maxRecDepth 100000 in
theorem ok_X10_isPit : zOK mX10_isPit 1 := ⟨kw_X10_isPit, ii_X10, by decide +kernel, by decide +kernel, by decide +kernel⟩
set_option maxRecDepth 100000 in
theorem in_X10_isPit : Cond.instanceMethod yX10_isPit ∈ zgood := zgood_t 392 (by decide +kernel) (by decide +kernel)
set_option maxRecDepth 100000 in
theorem se_X10_isPit : Cond.selects RX10 yX10_isPit yX10_isPit ∈ zgood := zgood_p 1 (by decide +kernel) (by decide +kernel)
set_option maxRecDepth 100000 in
theorem ml_X10_144 : zML RX10 144 yX10_menAt := Or.inl (zgood_t 397 (by decide +kernel) (by decide +kernel))
set_option maxRecDepth 100000 in
theorem kw_X10_menAt : Cond.code yX10_menAt cX10_menAt 4 (some .int) ∈ zgood := zgood_t 400 (by rfl) (by decide +kernel)
set_option maxRecDepth 100000 in
theorem ok_X10_menAt : zOK mX10_menAt 1 := ⟨kw_X10_menAt, ii_X10, by decide +kernel, by decide +kernel, by decide +kernel⟩
set_option maxRecDepth 100000 in
theorem in_X10_menAt : Cond.instanceMethod yX10_menAt ∈ zgood := zgood_t 399 (by decide +kernel) (by decide +kernel)
set_option maxRecDepth 100000 in
theorem se_X10_menAt : Cond.selects RX10 yX10_menAt yX10_menAt ∈ zgood := zgood_p 2 (by decide +kernel) (by decide +kernel)
set_option maxRecDepth 100000 in
theorem ml_X10_170 : zML RX10 170 yX10_isMan := Or.inl (zgood_t 450 (by decide +kernel) (by decide +kernel))
set_option maxRecDepth 100000 in
theorem kw_X10_isMan : Cond.code yX10_isMan cX10_isMan 2 (some .boolean) ∈ zgood := zgood_t 453 (by rfl) (by decide +kernel)
set_option maxRecDepth 100000 in
theorem ok_X10_isMan : zOK mX10_isMan 1 := ⟨kw_X10_isMan, ii_X10, by decide +kernel, by decide +kernel, by decide +kernel⟩
set_option maxRecDepth 100000 in
theorem in_X10_isMan : Cond.instanceMethod yX10_isMan ∈ zgood := zgood_t 452 (by decide +kernel) (by decide +kernel)
set_option maxRecDepth 100000 in
theorem se_X10_isMan : Cond.selects RX10 yX10_isMan yX10_isMan ∈ zgood := zgood_p 3 (by decide +kernel) (by decide +kernel)
set_option maxRecDepth 100000 in
theorem ml_X10_194 : zML RX10 194 yX1_quit := Or.inr ⟨"PitPact", znest_t 458 (by decide +kernel) (by decide +kernel)⟩
set_option maxRecDepth 100000 in
theorem ml_X10_203 : zML RX10 203 yX1_growOlder := Or.inr ⟨"PitPact", znest_t 478 (by decide +kernel) (by decide +kernel)⟩
set_option maxRecDepth 100000 in
theorem kw_X1_growOlder : Cond.code yX1_growOlder cX1_growOlder 2 (some .boolean) ∈ zgood := zgood_t 481 (by rfl) (by decide +kernel)
set_option maxRecDepth 100000 in
theorem ok_X1_growOlder : zOK mX1_growOlder 1 := ⟨kw_X1_growOlder, ii_X1, by decide +kernel, by decide +kernel, by decide +kernel⟩
set_option maxRecDepth 100000 in
theorem in_X1_growOlder : Cond.instanceMethod yX1_growOlder ∈ zgood := zgood_t 480 (by decide +kernel) (by decide +kernel)
set_option maxRecDepth 100000 in
theorem se_X1_growOlder : Cond.selects RX1 yX1_growOlder yX1_growOlder ∈ zgood := zgood_p 5 (by decide +kernel) (by decide +kernel)
set_option maxRecDepth 100000 in
theorem ml_X10_206 : zML RX10 206 yX8_add := Or.inr ⟨"PitPact", znest_t 490 (by decide +kernel) (by decide +kernel)⟩
set_option maxRecDepth 100000 in
theorem kw_X8_add : Cond.code yX8_add cX8_add 2 (some .boolean) ∈ zgood := zgood_t 493 (by rfl) (by decide +kernel)
set_option maxRecDepth 100000 in
theorem ok_X8_add : zOK mX8_add 1 := ⟨kw_X8_add, ii_X8, by decide +kernel, by decide +kernel, by decide +kernel⟩
set_option maxRecDepth 100000 in
theorem in_X8_add : Cond.instanceMethod yX8_add ∈ zgood := zgood_t 492 (by decide +kernel) (by decide +kernel)
set_option maxRecDepth 100000 in
theorem se_X8_add : Cond.selects RX8 yX8_add yX8_add ∈ zgood := zgood_p 6 (by decide +kernel) (by decide +kernel)
set_option maxRecDepth 100000 in
theorem ml_X10_212 : zML RX10 212 yX8_firstFault := Or.inr ⟨"PitPact", znest_t 502 (by decide +kernel) (by decide +kernel)⟩
set_option maxRecDepth 100000 in
theorem kw_X8_firstFault : Cond.code yX8_firstFault cX8_firstFault 5 (some .int) ∈ zgood := zgood_t 505 (by rfl) (by decide +kernel)
set_option maxRecDepth 100000 in
theorem ok_X8_firstFault : zOK mX8_firstFault 0 := ⟨kw_X8_firstFault, ii_X8, by decide +kernel, by decide +kernel, by decide +kernel⟩
set_option maxRecDepth 100000 in
theorem in_X8_firstFault : Cond.instanceMethod yX8_firstFault ∈ zgood := zgood_t 504 (by decide +kernel) (by decide +kernel)
set_option maxRecDepth 100000 in
theorem se_X8_firstFault : Cond.selects RX8 yX8_firstFault yX8_firstFault ∈ zgood := zgood_p 7 (by decide +kernel) (by decide +kernel)
set_option maxRecDepth 100000 in
theorem ml_X10_219 : zML RX10 219 yX8_copyFrom := Or.inr ⟨"PitPact", znest_t 519 (by decide +kernel) (by decide +kernel)⟩
set_option maxRecDepth 100000 in
theorem kw_X8_copyFrom : Cond.code yX8_copyFrom cX8_copyFrom 2 none ∈ zgood := zgood_t 522 (by rfl) (by decide +kernel)
set_option maxRecDepth 100000 in
theorem ok_X8_copyFrom : zOK mX8_copyFrom 1 := ⟨kw_X8_copyFrom, ii_X8, by decide +kernel, by decide +kernel, by decide +kernel⟩
set_option maxRecDepth 100000 in
theorem in_X8_copyFrom : Cond.instanceMethod yX8_copyFrom ∈ zgood := zgood_t 521 (by decide +kernel) (by decide +kernel)
set_option maxRecDepth 100000 in
theorem se_X8_copyFrom : Cond.selects RX8 yX8_copyFrom yX8_copyFrom ∈ zgood := zgood_p 8 (by decide +kernel) (by decide +kernel)
set_option maxRecDepth 100000 in
theorem ml_X10_226 : zML RX10 226 yX10_wayToWork := Or.inl (zgood_t 531 (by decide +kernel) (by decide +kernel))
set_option maxRecDepth 100000 in
theorem kw_X10_wayToWork : Cond.code yX10_wayToWork cX10_wayToWork 2 (some .int) ∈ zgood := zgood_t 534 (by rfl) (by decide +kernel)
set_option maxRecDepth 100000 in
theorem ok_X10_wayToWork : zOK mX10_wayToWork 1 := ⟨kw_X10_wayToWork, ii_X10, by decide +kernel, by decide +kernel, by decide +kernel⟩
set_option maxRecDepth 100000 in
theorem in_X10_wayToWork : Cond.instanceMethod yX10_wayToWork ∈ zgood := zgood_t 533 (by decide +kernel) (by decide +kernel)
set_option maxRecDepth 100000 in
theorem se_X10_wayToWork : Cond.selects RX10 yX10_wayToWork yX10_wayToWork ∈ zgood := zgood_p 9 (by decide +kernel) (by decide +kernel)
set_option maxRecDepth 100000 in
theorem ml_X10_230 : zML RX10 230 yX3_result := Or.inr ⟨"PitPact", znest_t 546 (by decide +kernel) (by decide +kernel)⟩
set_option maxRecDepth 100000 in
theorem kw_X3_result : Cond.code yX3_result cX3_result 7 (some .int) ∈ zgood := zgood_t 549 (by rfl) (by decide +kernel)
set_option maxRecDepth 100000 in
theorem ok_X3_result : zOK mX3_result 3 := ⟨kw_X3_result, ii_X3, by decide +kernel, by decide +kernel, by decide +kernel⟩
set_option maxRecDepth 100000 in
theorem in_X3_result : Cond.instanceMethod yX3_result ∈ zgood := zgood_t 548 (by decide +kernel) (by decide +kernel)
set_option maxRecDepth 100000 in
theorem se_X3_result : Cond.selects RX3 yX3_result yX3_result ∈ zgood := zgood_p 12 (by decide +kernel) (by decide +kernel)
set_option maxRecDepth 100000 in
theorem ml_X10_234 : zML RX10 234 yX10_workOutMove := Or.inl (zgood_t 580 (by decide +kernel) (by decide +kernel))
set_option maxRecDepth 100000 in
theorem kw_X10_workOutMove : Cond.code yX10_workOutMove cX10_workOutMove 3 (some .boolean) ∈ zgood := zgood_t 583 (by rfl) (by decide +kernel)
set_option maxRecDepth 100000 in
theorem ok_X10_workOutMove : zOK mX10_workOutMove 1 := ⟨kw_X10_workOutMove, ii_X10, by decide +kernel, by decide +kernel, by decide +kernel⟩
set_option maxRecDepth 100000 in
theorem in_X10_workOutMove : Cond.instanceMethod yX10_workOutMove ∈ zgood := zgood_t 582 (by decide +kernel) (by decide +kernel)
set_option maxRecDepth 100000 in
theorem se_X10_workOutMove : Cond.selects RX10 yX10_workOutMove yX10_workOutMove ∈ zgood := zgood_p 17 (by decide +kernel) (by decide +kernel)
set_option maxRecDepth 100000 in
theorem ml_X10_249 : zML RX10 249 yX7_newPitOf := Or.inr ⟨"PitPact", znest_t 643 (by decide +kernel) (by decide +kernel)⟩
set_option maxRecDepth 100000 in
theorem kw_X7_newPitOf : Cond.code yX7_newPitOf cX7_newPitOf 3 (some .int) ∈ zgood := zgood_t 646 (by rfl) (by decide +kernel)
set_option maxRecDepth 100000 in
theorem ok_X7_newPitOf : zOK mX7_newPitOf 1 := ⟨kw_X7_newPitOf, ii_X7, by decide +kernel, by decide +kernel, by decide +kernel⟩
set_option maxRecDepth 100000 in
theorem in_X7_newPitOf : Cond.instanceMethod yX7_newPitOf ∈ zgood := zgood_t 645 (by decide +kernel) (by decide +kernel)
set_option maxRecDepth 100000 in
theorem se_X7_newPitOf : Cond.selects RX7 yX7_newPitOf yX7_newPitOf ∈ zgood := zgood_p 31 (by decide +kernel) (by decide +kernel)
set_option maxRecDepth 100000 in
theorem ml_X10_252 : zML RX10 252 yX10_carryOutMove := Or.inl (zgood_t 655 (by decide +kernel) (by decide +kernel))
set_option maxRecDepth 100000 in
theorem kw_X10_carryOutMove : Cond.code yX10_carryOutMove cX10_carryOutMove 5 none ∈ zgood := zgood_t 658 (by rfl) (by decide +kernel)
set_option maxRecDepth 100000 in
theorem ok_X10_carryOutMove : zOK mX10_carryOutMove 1 := ⟨kw_X10_carryOutMove, ii_X10, by decide +kernel, by decide +kernel, by decide +kernel⟩
set_option maxRecDepth 100000 in
theorem in_X10_carryOutMove : Cond.instanceMethod yX10_carryOutMove ∈ zgood := zgood_t 657 (by decide +kernel) (by decide +kernel)
set_option maxRecDepth 100000 in
theorem se_X10_carryOutMove : Cond.selects RX10 yX10_carryOutMove yX10_carryOutMove ∈ zgood := zgood_p 33 (by decide +kernel) (by decide +kernel)
set_option maxRecDepth 100000 in
theorem ml_X10_255 : zML RX10 255 yX4_shut := Or.inr ⟨"PitPact", znest_t 660 (by decide +kernel) (by decide +kernel)⟩
set_option maxRecDepth 100000 in
theorem kw_X4_shut : Cond.code yX4_shut cX4_shut 2 none ∈ zgood := zgood_t 663 (by rfl) (by decide +kernel)
set_option maxRecDepth 100000 in
theorem ok_X4_shut : zOK mX4_shut 0 := ⟨kw_X4_shut, ii_X4, by decide +kernel, by decide +kernel, by decide +kernel⟩
set_option maxRecDepth 100000 in
theorem in_X4_shut : Cond.instanceMethod yX4_shut ∈ zgood := zgood_t 662 (by decide +kernel) (by decide +kernel)
set_option maxRecDepth 100000 in
theorem se_X4_shut : Cond.selects RX4 yX4_shut yX4_shut ∈ zgood := zgood_p 34 (by decide +kernel) (by decide +kernel)
set_option maxRecDepth 100000 in
theorem ml_X10_264 : zML RX10 264 yX9_addWay := Or.inr ⟨"PitPact", znest_t 676 (by decide +kernel) (by decide +kernel)⟩
set_option maxRecDepth 100000 in
theorem kw_X9_addWay : Cond.code yX9_addWay cX9_addWay 4 none ∈ zgood := zgood_t 679 (by rfl) (by decide +kernel)
set_option maxRecDepth 100000 in
theorem ok_X9_addWay : zOK mX9_addWay 3 := ⟨kw_X9_addWay, ii_X9, by decide +kernel, by decide +kernel, by decide +kernel⟩
set_option maxRecDepth 100000 in
theorem in_X9_addWay : Cond.instanceMethod yX9_addWay ∈ zgood := zgood_t 678 (by decide +kernel) (by decide +kernel)
set_option maxRecDepth 100000 in
theorem se_X9_addWay : Cond.selects RX9 yX9_addWay yX9_addWay ∈ zgood := zgood_p 35 (by decide +kernel) (by decide +kernel)
set_option maxRecDepth 100000 in
theorem ml_X10_268 : zML RX10 268 yX9_passMonth := Or.inr ⟨"PitPact", znest_t 684 (by decide +kernel) (by decide +kernel)⟩
set_option maxRecDepth 100000 in
theorem kw_X9_passMonth : Cond.code yX9_passMonth cX9_passMonth 3 (some .int) ∈ zgood := zgood_t 687 (by rfl) (by decide +kernel)
set_option maxRecDepth 100000 in
theorem ok_X9_passMonth : zOK mX9_passMonth 0 := ⟨kw_X9_passMonth, ii_X9, by decide +kernel, by decide +kernel, by decide +kernel⟩
set_option maxRecDepth 100000 in
theorem in_X9_passMonth : Cond.instanceMethod yX9_passMonth ∈ zgood := zgood_t 686 (by decide +kernel) (by decide +kernel)
set_option maxRecDepth 100000 in
theorem se_X9_passMonth : Cond.selects RX9 yX9_passMonth yX9_passMonth ∈ zgood := zgood_p 36 (by decide +kernel) (by decide +kernel)
set_option maxRecDepth 100000 in
theorem ml_X10_271 : zML RX10 271 yX9_copyFrom := Or.inr ⟨"PitPact", znest_t 703 (by decide +kernel) (by decide +kernel)⟩
set_option maxRecDepth 100000 in
theorem kw_X9_copyFrom : Cond.code yX9_copyFrom cX9_copyFrom 3 none ∈ zgood := zgood_t 706 (by rfl) (by decide +kernel)
set_option maxRecDepth 100000 in
theorem ok_X9_copyFrom : zOK mX9_copyFrom 1 := ⟨kw_X9_copyFrom, ii_X9, by decide +kernel, by decide +kernel, by decide +kernel⟩
set_option maxRecDepth 100000 in
theorem in_X9_copyFrom : Cond.instanceMethod yX9_copyFrom ∈ zgood := zgood_t 705 (by decide +kernel) (by decide +kernel)
set_option maxRecDepth 100000 in
theorem se_X9_copyFrom : Cond.selects RX9 yX9_copyFrom yX9_copyFrom ∈ zgood := zgood_p 39 (by decide +kernel) (by decide +kernel)
set_option maxRecDepth 100000 in
theorem ml_X10_278 : zML RX10 278 yX6_prepare := Or.inr ⟨"PitPact", znest_t 716 (by decide +kernel) (by decide +kernel)⟩
set_option maxRecDepth 100000 in
theorem kw_X6_prepare : Cond.code yX6_prepare cX6_prepare 6 none ∈ zgood := zgood_t 719 (by rfl) (by decide +kernel)
set_option maxRecDepth 100000 in
theorem ok_X6_prepare : zOK mX6_prepare 3 := ⟨kw_X6_prepare, ii_X6, by decide +kernel, by decide +kernel, by decide +kernel⟩
set_option maxRecDepth 100000 in
theorem in_X6_prepare : Cond.instanceMethod yX6_prepare ∈ zgood := zgood_t 718 (by decide +kernel) (by decide +kernel)
set_option maxRecDepth 100000 in
theorem se_X6_prepare : Cond.selects RX6 yX6_prepare yX6_prepare ∈ zgood := zgood_p 40 (by decide +kernel) (by decide +kernel)
set_option maxRecDepth 100000 in
theorem ml_X10_282 : zML RX10 282 yX6_readDigits := Or.inr ⟨"PitPact", znest_t 725 (by decide +kernel) (by decide +kernel)⟩
set_option maxRecDepth 100000 in
theorem kw_X6_readDigits : Cond.code yX6_readDigits cX6_readDigits 4 (some .boolean) ∈ zgood := zgood_t 728 (by rfl) (by decide +kernel)
set_option maxRecDepth 100000 in
theorem ok_X6_readDigits : zOK mX6_readDigits 1 := ⟨kw_X6_readDigits, ii_X6, by decide +kernel, by decide +kernel, by decide +kernel⟩
set_option maxRecDepth 100000 in
theorem in_X6_readDigits : Cond.instanceMethod yX6_readDigits ∈ zgood := zgood_t 727 (by decide +kernel) (by decide +kernel)
set_option maxRecDepth 100000 in
theorem se_X6_readDigits : Cond.selects RX6 yX6_readDigits yX6_readDigits ∈ zgood := zgood_p 42 (by decide +kernel) (by decide +kernel)
set_option maxRecDepth 100000 in
theorem ml_X10_285 : zML RX10 285 yX6_isKept := Or.inr ⟨"PitPact", znest_t 729 (by decide +kernel) (by decide +kernel)⟩
set_option maxRecDepth 100000 in
theorem kw_X6_isKept : Cond.code yX6_isKept cX6_isKept 2 (some .boolean) ∈ zgood := zgood_t 732 (by rfl) (by decide +kernel)
set_option maxRecDepth 100000 in
theorem ok_X6_isKept : zOK mX6_isKept 0 := ⟨kw_X6_isKept, ii_X6, by decide +kernel, by decide +kernel, by decide +kernel⟩
set_option maxRecDepth 100000 in
theorem in_X6_isKept : Cond.instanceMethod yX6_isKept ∈ zgood := zgood_t 731 (by decide +kernel) (by decide +kernel)
set_option maxRecDepth 100000 in
theorem se_X6_isKept : Cond.selects RX6 yX6_isKept yX6_isKept ∈ zgood := zgood_p 43 (by decide +kernel) (by decide +kernel)
set_option maxRecDepth 100000 in
theorem ml_X10_289 : zML RX10 289 yX6_worstRow := Or.inr ⟨"PitPact", znest_t 749 (by decide +kernel) (by decide +kernel)⟩
set_option maxRecDepth 100000 in
theorem kw_X6_worstRow : Cond.code yX6_worstRow cX6_worstRow 3 (some .int) ∈ zgood := zgood_t 752 (by rfl) (by decide +kernel)
set_option maxRecDepth 100000 in
theorem ok_X6_worstRow : zOK mX6_worstRow 0 := ⟨kw_X6_worstRow, ii_X6, by decide +kernel, by decide +kernel, by decide +kernel⟩
set_option maxRecDepth 100000 in
theorem in_X6_worstRow : Cond.instanceMethod yX6_worstRow ∈ zgood := zgood_t 751 (by decide +kernel) (by decide +kernel)
set_option maxRecDepth 100000 in
theorem se_X6_worstRow : Cond.selects RX6 yX6_worstRow yX6_worstRow ∈ zgood := zgood_p 48 (by decide +kernel) (by decide +kernel)
set_option maxRecDepth 100000 in
theorem ml_X10_292 : zML RX10 292 yX6_costByRow := Or.inr ⟨"PitPact", znest_t 757 (by decide +kernel) (by decide +kernel)⟩
set_option maxRecDepth 100000 in
theorem kw_X6_costByRow : Cond.code yX6_costByRow cX6_costByRow 4 (some .int) ∈ zgood := zgood_t 756 (by rfl) (by decide +kernel)
set_option maxRecDepth 100000 in
theorem ok_X6_costByRow : zOK mX6_costByRow 1 := ⟨kw_X6_costByRow, ii_X6, by decide +kernel, by decide +kernel, by decide +kernel⟩
set_option maxRecDepth 100000 in
theorem in_X6_costByRow : Cond.instanceMethod yX6_costByRow ∈ zgood := zgood_t 755 (by decide +kernel) (by decide +kernel)
set_option maxRecDepth 100000 in
theorem se_X6_costByRow : Cond.selects RX6 yX6_costByRow yX6_costByRow ∈ zgood := zgood_p 49 (by decide +kernel) (by decide +kernel)
set_option maxRecDepth 100000 in
theorem ml_X10_295 : zML RX10 295 yX6_findBest := Or.inr ⟨"PitPact", znest_t 762 (by decide +kernel) (by decide +kernel)⟩
set_option maxRecDepth 100000 in
theorem kw_X6_findBest : Cond.code yX6_findBest cX6_findBest 2 (some .boolean) ∈ zgood := zgood_t 765 (by rfl) (by decide +kernel)
set_option maxRecDepth 100000 in
theorem ok_X6_findBest : zOK mX6_findBest 0 := ⟨kw_X6_findBest, ii_X6, by decide +kernel, by decide +kernel, by decide +kernel⟩
set_option maxRecDepth 100000 in
theorem in_X6_findBest : Cond.instanceMethod yX6_findBest ∈ zgood := zgood_t 764 (by decide +kernel) (by decide +kernel)
set_option maxRecDepth 100000 in
theorem se_X6_findBest : Cond.selects RX6 yX6_findBest yX6_findBest ∈ zgood := zgood_p 50 (by decide +kernel) (by decide +kernel)
set_option maxRecDepth 100000 in
theorem ml_X10_304 : zML RX10 304 yX10_isTrue := Or.inl (zgood_t 592 (by decide +kernel) (by decide +kernel))
set_option maxRecDepth 100000 in
theorem kw_X10_isTrue : Cond.code yX10_isTrue cX10_isTrue 3 (some .boolean) ∈ zgood := zgood_t 595 (by rfl) (by decide +kernel)
set_option maxRecDepth 100000 in
theorem ok_X10_isTrue : zOK mX10_isTrue 2 := ⟨kw_X10_isTrue, ii_X10, by decide +kernel, by decide +kernel, by decide +kernel⟩
set_option maxRecDepth 100000 in
theorem in_X10_isTrue : Cond.instanceMethod yX10_isTrue ∈ zgood := zgood_t 594 (by decide +kernel) (by decide +kernel)
set_option maxRecDepth 100000 in
theorem se_X10_isTrue : Cond.selects RX10 yX10_isTrue yX10_isTrue ∈ zgood := zgood_p 20 (by decide +kernel) (by decide +kernel)
set_option maxRecDepth 100000 in
theorem ml_X10_321 : zML RX10 321 yX10_isHarm := Or.inl (zgood_t 831 (by decide +kernel) (by decide +kernel))
set_option maxRecDepth 100000 in
theorem kw_X10_isHarm : Cond.code yX10_isHarm cX10_isHarm 2 (some .boolean) ∈ zgood := zgood_t 834 (by rfl) (by decide +kernel)
set_option maxRecDepth 100000 in
theorem ok_X10_isHarm : zOK mX10_isHarm 1 := ⟨kw_X10_isHarm, ii_X10, by decide +kernel, by decide +kernel, by decide +kernel⟩
set_option maxRecDepth 100000 in
theorem in_X10_isHarm : Cond.instanceMethod yX10_isHarm ∈ zgood := zgood_t 833 (by decide +kernel) (by decide +kernel)
set_option maxRecDepth 100000 in
theorem se_X10_isHarm : Cond.selects RX10 yX10_isHarm yX10_isHarm ∈ zgood := zgood_p 57 (by decide +kernel) (by decide +kernel)
set_option maxRecDepth 100000 in
theorem ml_X10_324 : zML RX10 324 yX10_canBe := Or.inl (zgood_t 835 (by decide +kernel) (by decide +kernel))
set_option maxRecDepth 100000 in
theorem kw_X10_canBe : Cond.code yX10_canBe cX10_canBe 5 (some .boolean) ∈ zgood := zgood_t 838 (by rfl) (by decide +kernel)
set_option maxRecDepth 100000 in
theorem ok_X10_canBe : zOK mX10_canBe 2 := ⟨kw_X10_canBe, ii_X10, by decide +kernel, by decide +kernel, by decide +kernel⟩
set_option maxRecDepth 100000 in
theorem in_X10_canBe : Cond.instanceMethod yX10_canBe ∈ zgood := zgood_t 837 (by decide +kernel) (by decide +kernel)
set_option maxRecDepth 100000 in
theorem se_X10_canBe : Cond.selects RX10 yX10_canBe yX10_canBe ∈ zgood := zgood_p 58 (by decide +kernel) (by decide +kernel)
set_option maxRecDepth 100000 in
theorem ml_X10_328 : zML RX10 328 yX10_partOf := Or.inl (zgood_t 843 (by decide +kernel) (by decide +kernel))
set_option maxRecDepth 100000 in
theorem kw_X10_partOf : Cond.code yX10_partOf cX10_partOf 7 (some .int) ∈ zgood := zgood_t 846 (by rfl) (by decide +kernel)
set_option maxRecDepth 100000 in
theorem ok_X10_partOf : zOK mX10_partOf 2 := ⟨kw_X10_partOf, ii_X10, by decide +kernel, by decide +kernel, by decide +kernel⟩
set_option maxRecDepth 100000 in
theorem in_X10_partOf : Cond.instanceMethod yX10_partOf ∈ zgood := zgood_t 845 (by decide +kernel) (by decide +kernel)
set_option maxRecDepth 100000 in
theorem se_X10_partOf : Cond.selects RX10 yX10_partOf yX10_partOf ∈ zgood := zgood_p 59 (by decide +kernel) (by decide +kernel)
set_option maxRecDepth 100000 in
theorem ml_X10_332 : zML RX10 332 yX10_workersOf := Or.inl (zgood_t 854 (by decide +kernel) (by decide +kernel))
set_option maxRecDepth 100000 in
theorem kw_X10_workersOf : Cond.code yX10_workersOf cX10_workersOf 4 (some .int) ∈ zgood := zgood_t 857 (by rfl) (by decide +kernel)
set_option maxRecDepth 100000 in
theorem ok_X10_workersOf : zOK mX10_workersOf 1 := ⟨kw_X10_workersOf, ii_X10, by decide +kernel, by decide +kernel, by decide +kernel⟩
set_option maxRecDepth 100000 in
theorem in_X10_workersOf : Cond.instanceMethod yX10_workersOf ∈ zgood := zgood_t 856 (by decide +kernel) (by decide +kernel)
set_option maxRecDepth 100000 in
theorem se_X10_workersOf : Cond.selects RX10 yX10_workersOf yX10_workersOf ∈ zgood := zgood_p 60 (by decide +kernel) (by decide +kernel)
set_option maxRecDepth 100000 in
theorem ml_X10_335 : zML RX10 335 yX10_dwellersOf := Or.inl (zgood_t 858 (by decide +kernel) (by decide +kernel))
set_option maxRecDepth 100000 in
theorem kw_X10_dwellersOf : Cond.code yX10_dwellersOf cX10_dwellersOf 4 (some .int) ∈ zgood := zgood_t 861 (by rfl) (by decide +kernel)
set_option maxRecDepth 100000 in
theorem ok_X10_dwellersOf : zOK mX10_dwellersOf 1 := ⟨kw_X10_dwellersOf, ii_X10, by decide +kernel, by decide +kernel, by decide +kernel⟩
set_option maxRecDepth 100000 in
theorem in_X10_dwellersOf : Cond.instanceMethod yX10_dwellersOf ∈ zgood := zgood_t 860 (by decide +kernel) (by decide +kernel)
set_option maxRecDepth 100000 in
theorem se_X10_dwellersOf : Cond.selects RX10 yX10_dwellersOf yX10_dwellersOf ∈ zgood := zgood_p 61 (by decide +kernel) (by decide +kernel)
set_option maxRecDepth 100000 in
theorem ml_X10_338 : zML RX10 338 yX10_pitsOf := Or.inl (zgood_t 862 (by decide +kernel) (by decide +kernel))
set_option maxRecDepth 100000 in
theorem kw_X10_pitsOf : Cond.code yX10_pitsOf cX10_pitsOf 4 (some .int) ∈ zgood := zgood_t 865 (by rfl) (by decide +kernel)
set_option maxRecDepth 100000 in
theorem ok_X10_pitsOf : zOK mX10_pitsOf 1 := ⟨kw_X10_pitsOf, ii_X10, by decide +kernel, by decide +kernel, by decide +kernel⟩
set_option maxRecDepth 100000 in
theorem in_X10_pitsOf : Cond.instanceMethod yX10_pitsOf ∈ zgood := zgood_t 864 (by decide +kernel) (by decide +kernel)
set_option maxRecDepth 100000 in
theorem se_X10_pitsOf : Cond.selects RX10 yX10_pitsOf yX10_pitsOf ∈ zgood := zgood_p 62 (by decide +kernel) (by decide +kernel)
set_option maxRecDepth 100000 in
theorem ml_X10_346 : zML RX10 346 yX10_menWhoAre := Or.inl (zgood_t 880 (by decide +kernel) (by decide +kernel))
set_option maxRecDepth 100000 in
theorem kw_X10_menWhoAre : Cond.code yX10_menWhoAre cX10_menWhoAre 4 (some .int) ∈ zgood := zgood_t 883 (by rfl) (by decide +kernel)
set_option maxRecDepth 100000 in
theorem ok_X10_menWhoAre : zOK mX10_menWhoAre 1 := ⟨kw_X10_menWhoAre, ii_X10, by decide +kernel, by decide +kernel, by decide +kernel⟩
set_option maxRecDepth 100000 in
theorem in_X10_menWhoAre : Cond.instanceMethod yX10_menWhoAre ∈ zgood := zgood_t 882 (by decide +kernel) (by decide +kernel)
set_option maxRecDepth 100000 in
theorem se_X10_menWhoAre : Cond.selects RX10 yX10_menWhoAre yX10_menWhoAre ∈ zgood := zgood_p 63 (by decide +kernel) (by decide +kernel)
set_option maxRecDepth 100000 in
theorem ml_X10_358 : zML RX10 358 yX10_openPits := Or.inl (zgood_t 884 (by decide +kernel) (by decide +kernel))
set_option maxRecDepth 100000 in
theorem kw_X10_openPits : Cond.code yX10_openPits cX10_openPits 3 (some .int) ∈ zgood := zgood_t 887 (by rfl) (by decide +kernel)
set_option maxRecDepth 100000 in
theorem ok_X10_openPits : zOK mX10_openPits 0 := ⟨kw_X10_openPits, ii_X10, by decide +kernel, by decide +kernel, by decide +kernel⟩
set_option maxRecDepth 100000 in
theorem in_X10_openPits : Cond.instanceMethod yX10_openPits ∈ zgood := zgood_t 886 (by decide +kernel) (by decide +kernel)
set_option maxRecDepth 100000 in
theorem se_X10_openPits : Cond.selects RX10 yX10_openPits yX10_openPits ∈ zgood := zgood_p 64 (by decide +kernel) (by decide +kernel)
set_option maxRecDepth 100000 in
theorem ml_X10_361 : zML RX10 361 yX10_wayTo := Or.inl (zgood_t 535 (by decide +kernel) (by decide +kernel))
set_option maxRecDepth 100000 in
theorem kw_X10_wayTo : Cond.code yX10_wayTo cX10_wayTo 3 (some .int) ∈ zgood := zgood_t 538 (by rfl) (by decide +kernel)
set_option maxRecDepth 100000 in
theorem ok_X10_wayTo : zOK mX10_wayTo 2 := ⟨kw_X10_wayTo, ii_X10, by decide +kernel, by decide +kernel, by decide +kernel⟩
set_option maxRecDepth 100000 in
theorem in_X10_wayTo : Cond.instanceMethod yX10_wayTo ∈ zgood := zgood_t 537 (by decide +kernel) (by decide +kernel)
set_option maxRecDepth 100000 in
theorem se_X10_wayTo : Cond.selects RX10 yX10_wayTo yX10_wayTo ∈ zgood := zgood_p 10 (by decide +kernel) (by decide +kernel)
set_option maxRecDepth 100000 in
theorem ml_X10_365 : zML RX10 365 yX5_farFrom := Or.inr ⟨"PitPact", znest_t 539 (by decide +kernel) (by decide +kernel)⟩
set_option maxRecDepth 100000 in
theorem kw_X5_farFrom : Cond.code yX5_farFrom cX5_farFrom 2 (some .int) ∈ zgood := zgood_t 542 (by rfl) (by decide +kernel)
set_option maxRecDepth 100000 in
theorem ok_X5_farFrom : zOK mX5_farFrom 1 := ⟨kw_X5_farFrom, ii_X5, by decide +kernel, by decide +kernel, by decide +kernel⟩
set_option maxRecDepth 100000 in
theorem in_X5_farFrom : Cond.instanceMethod yX5_farFrom ∈ zgood := zgood_t 541 (by decide +kernel) (by decide +kernel)
set_option maxRecDepth 100000 in
theorem se_X5_farFrom : Cond.selects RX5 yX5_farFrom yX5_farFrom ∈ zgood := zgood_p 11 (by decide +kernel) (by decide +kernel)
set_option maxRecDepth 100000 in
theorem ml_X10_369 : zML RX10 369 yX7_clear := Or.inr ⟨"PitPact", znest_t 584 (by decide +kernel) (by decide +kernel)⟩
set_option maxRecDepth 100000 in
theorem kw_X7_clear : Cond.code yX7_clear cX7_clear 1 none ∈ zgood := zgood_t 587 (by rfl) (by decide +kernel)
set_option maxRecDepth 100000 in
theorem ok_X7_clear : zOK mX7_clear 0 := ⟨kw_X7_clear, ii_X7, by decide +kernel, by decide +kernel, by decide +kernel⟩
set_option maxRecDepth 100000 in
theorem in_X7_clear : Cond.instanceMethod yX7_clear ∈ zgood := zgood_t 586 (by decide +kernel) (by decide +kernel)
set_option maxRecDepth 100000 in
theorem se_X7_clear : Cond.selects RX7 yX7_clear yX7_clear ∈ zgood := zgood_p 18 (by decide +kernel) (by decide +kernel)
set_option maxRecDepth 100000 in
theorem ml_X10_372 : zML RX10 372 yX7_addSlots := Or.inr ⟨"PitPact", znest_t 588 (by decide +kernel) (by decide +kernel)⟩
set_option maxRecDepth 100000 in
theorem kw_X7_addSlots : Cond.code yX7_addSlots cX7_addSlots 5 none ∈ zgood := zgood_t 591 (by rfl) (by decide +kernel)
set_option maxRecDepth 100000 in
theorem ok_X7_addSlots : zOK mX7_addSlots 2 := ⟨kw_X7_addSlots, ii_X7, by decide +kernel, by decide +kernel, by decide +kernel⟩
set_option maxRecDepth 100000 in
theorem in_X7_addSlots : Cond.instanceMethod yX7_addSlots ∈ zgood := zgood_t 590 (by decide +kernel) (by decide +kernel)
set_option maxRecDepth 100000 in
theorem se_X7_addSlots : Cond.selects RX7 yX7_addSlots yX7_addSlots ∈ zgood := zgood_p 19 (by decide +kernel) (by decide +kernel)
set_option maxRecDepth 100000 in
theorem ml_X10_376 : zML RX10 376 yX7_addMan := Or.inr ⟨"PitPact", znest_t 596 (by decide +kernel) (by decide +kernel)⟩
set_option maxRecDepth 100000 in
theorem kw_X7_addMan : Cond.code yX7_addMan cX7_addMan 3 (some .boolean) ∈ zgood := zgood_t 599 (by rfl) (by decide +kernel)
set_option maxRecDepth 100000 in
theorem ok_X7_addMan : zOK mX7_addMan 1 := ⟨kw_X7_addMan, ii_X7, by decide +kernel, by decide +kernel, by decide +kernel⟩
set_option maxRecDepth 100000 in
theorem in_X7_addMan : Cond.instanceMethod yX7_addMan ∈ zgood := zgood_t 598 (by decide +kernel) (by decide +kernel)
set_option maxRecDepth 100000 in
theorem se_X7_addMan : Cond.selects RX7 yX7_addMan yX7_addMan ∈ zgood := zgood_p 21 (by decide +kernel) (by decide +kernel)
set_option maxRecDepth 100000 in
theorem ml_X10_385 : zML RX10 385 yX10_offerSlots := Or.inl (zgood_t 610 (by decide +kernel) (by decide +kernel))
set_option maxRecDepth 100000 in
theorem kw_X10_offerSlots : Cond.code yX10_offerSlots cX10_offerSlots 7 none ∈ zgood := zgood_t 613 (by rfl) (by decide +kernel)
set_option maxRecDepth 100000 in
theorem ok_X10_offerSlots : zOK mX10_offerSlots 2 := ⟨kw_X10_offerSlots, ii_X10, by decide +kernel, by decide +kernel, by decide +kernel⟩
set_option maxRecDepth 100000 in
theorem in_X10_offerSlots : Cond.instanceMethod yX10_offerSlots ∈ zgood := zgood_t 612 (by decide +kernel) (by decide +kernel)
set_option maxRecDepth 100000 in
theorem se_X10_offerSlots : Cond.selects RX10 yX10_offerSlots yX10_offerSlots ∈ zgood := zgood_p 23 (by decide +kernel) (by decide +kernel)
set_option maxRecDepth 100000 in
theorem ml_X10_389 : zML RX10 389 yX7_settle := Or.inr ⟨"PitPact", znest_t 618 (by decide +kernel) (by decide +kernel)⟩
set_option maxRecDepth 100000 in
theorem kw_X7_settle : Cond.code yX7_settle cX7_settle 5 none ∈ zgood := zgood_t 621 (by rfl) (by decide +kernel)
set_option maxRecDepth 100000 in
theorem ok_X7_settle : zOK mX7_settle 0 := ⟨kw_X7_settle, ii_X7, by decide +kernel, by decide +kernel, by decide +kernel⟩
set_option maxRecDepth 100000 in
theorem in_X7_settle : Cond.instanceMethod yX7_settle ∈ zgood := zgood_t 620 (by decide +kernel) (by decide +kernel)
set_option maxRecDepth 100000 in
theorem se_X7_settle : Cond.selects RX7 yX7_settle yX7_settle ∈ zgood := zgood_p 25 (by decide +kernel) (by decide +kernel)
set_option maxRecDepth 100000 in
theorem ml_X10_401 : zML RX10 401 yX7_offer := Or.inr ⟨"PitPact", znest_t 614 (by decide +kernel) (by decide +kernel)⟩
set_option maxRecDepth 100000 in
theorem kw_X7_offer : Cond.code yX7_offer cX7_offer 5 none ∈ zgood := zgood_t 617 (by rfl) (by decide +kernel)
set_option maxRecDepth 100000 in
theorem ok_X7_offer : zOK mX7_offer 4 := ⟨kw_X7_offer, ii_X7, by decide +kernel, by decide +kernel, by decide +kernel⟩
set_option maxRecDepth 100000 in
theorem in_X7_offer : Cond.instanceMethod yX7_offer ∈ zgood := zgood_t 616 (by decide +kernel) (by decide +kernel)
set_option maxRecDepth 100000 in
theorem se_X7_offer : Cond.selects RX7 yX7_offer yX7_offer ∈ zgood := zgood_p 24 (by decide +kernel) (by decide +kernel)
set_option maxRecDepth 100000 in
theorem ml_X10_405 : zML RX10 405 yX7_indexOf := Or.inr ⟨"PitPact", znest_t 659 (by decide +kernel) (by decide +kernel)⟩
set_option maxRecDepth 100000 in
theorem kw_X7_indexOf : Cond.code yX7_indexOf cX7_indexOf 3 (some .int) ∈ zgood := zgood_t 650 (by rfl) (by decide +kernel)
set_option maxRecDepth 100000 in
theorem ok_X7_indexOf : zOK mX7_indexOf 1 := ⟨kw_X7_indexOf, ii_X7, by decide +kernel, by decide +kernel, by decide +kernel⟩
set_option maxRecDepth 100000 in
theorem in_X7_indexOf : Cond.instanceMethod yX7_indexOf ∈ zgood := zgood_t 649 (by decide +kernel) (by decide +kernel)
set_option maxRecDepth 100000 in
theorem se_X7_indexOf : Cond.selects RX7 yX7_indexOf yX7_indexOf ∈ zgood := zgood_p 32 (by decide +kernel) (by decide +kernel)
set_option maxRecDepth 100000 in
theorem ml_X11_169 : zML RX11 169 yX11_isPit := Or.inl (zgood_t 1083 (by decide +kernel) (by decide +kernel))
set_option maxRecDepth 100000 in
theorem kw_X11_isPit : Cond.code yX11_isPit cX11_isPit 2 (some .boolean) ∈ zgood := zgood_t 1086 (by rfl) (by decide +kernel)
set_option maxRecDepth 100000 in
theorem ok_X11_isPit : zOK mX11_isPit 1 := ⟨kw_X11_isPit, ii_X11, by decide +kernel, by decide +kernel, by decide +kernel⟩
set_option maxRecDepth 100000 in
theorem in_X11_isPit : Cond.instanceMethod yX11_isPit ∈ zgood := zgood_t 1085 (by decide +kernel) (by decide +kernel)
set_option maxRecDepth 100000 in
theorem se_X11_isPit : Cond.selects RX11 yX11_isPit yX11_isPit ∈ zgood := zgood_p 65 (by decide +kernel) (by decide +kernel)
set_option maxRecDepth 100000 in
theorem ml_X11_172 : zML RX11 172 yX11_menAt := Or.inl (zgood_t 1087 (by decide +kernel) (by decide +kernel))
set_option maxRecDepth 100000 in
theorem kw_X11_menAt : Cond.code yX11_menAt cX11_menAt 4 (some .int) ∈ zgood := zgood_t 1090 (by rfl) (by decide +kernel)
set_option maxRecDepth 100000 in
theorem ok_X11_menAt : zOK mX11_menAt 1 := ⟨kw_X11_menAt, ii_X11, by decide +kernel, by decide +kernel, by decide +kernel⟩
set_option maxRecDepth 100000 in
theorem in_X11_menAt : Cond.instanceMethod yX11_menAt ∈ zgood := zgood_t 1089 (by decide +kernel) (by decide +kernel)
set_option maxRecDepth 100000 in
theorem se_X11_menAt : Cond.selects RX11 yX11_menAt yX11_menAt ∈ zgood := zgood_p 66 (by decide +kernel) (by decide +kernel)
set_option maxRecDepth 100000 in
theorem ml_X11_187 : zML RX11 187 yX11_isMan := Or.inl (zgood_t 1105 (by decide +kernel) (by decide +kernel))
set_option maxRecDepth 100000 in
theorem kw_X11_isMan : Cond.code yX11_isMan cX11_isMan 2 (some .boolean) ∈ zgood := zgood_t 1108 (by rfl) (by decide +kernel)
set_option maxRecDepth 100000 in
theorem ok_X11_isMan : zOK mX11_isMan 1 := ⟨kw_X11_isMan, ii_X11, by decide +kernel, by decide +kernel, by decide +kernel⟩
set_option maxRecDepth 100000 in
theorem in_X11_isMan : Cond.instanceMethod yX11_isMan ∈ zgood := zgood_t 1107 (by decide +kernel) (by decide +kernel)
set_option maxRecDepth 100000 in
theorem se_X11_isMan : Cond.selects RX11 yX11_isMan yX11_isMan ∈ zgood := zgood_p 67 (by decide +kernel) (by decide +kernel)
set_option maxRecDepth 100000 in
theorem ml_X11_190 : zML RX11 190 yX11_become := Or.inl (zgood_t 1113 (by decide +kernel) (by decide +kernel))
set_option maxRecDepth 100000 in
theorem kw_X11_become : Cond.code yX11_become cX11_become 3 none ∈ zgood := zgood_t 1116 (by rfl) (by decide +kernel)
set_option maxRecDepth 100000 in
theorem ok_X11_become : zOK mX11_become 2 := ⟨kw_X11_become, ii_X11, by decide +kernel, by decide +kernel, by decide +kernel⟩
set_option maxRecDepth 100000 in
theorem in_X11_become : Cond.instanceMethod yX11_become ∈ zgood := zgood_t 1115 (by decide +kernel) (by decide +kernel)
set_option maxRecDepth 100000 in
theorem se_X11_become : Cond.selects RX11 yX11_become yX11_become ∈ zgood := zgood_p 68 (by decide +kernel) (by decide +kernel)
set_option maxRecDepth 100000 in
theorem ml_X11_221 : zML RX11 221 yX11_fault := Or.inl (zgood_t 1166 (by decide +kernel) (by decide +kernel))
set_option maxRecDepth 100000 in
theorem ml_X11_225 : zML RX11 225 yX11_farTo := Or.inl (zgood_t 1190 (by decide +kernel) (by decide +kernel))
set_option maxRecDepth 100000 in
theorem kw_X11_farTo : Cond.code yX11_farTo cX11_farTo 3 (some .int) ∈ zgood := zgood_t 1193 (by rfl) (by decide +kernel)
set_option maxRecDepth 100000 in
theorem ok_X11_farTo : zOK mX11_farTo 2 := ⟨kw_X11_farTo, ii_X11, by decide +kernel, by decide +kernel, by decide +kernel⟩
set_option maxRecDepth 100000 in
theorem in_X11_farTo : Cond.instanceMethod yX11_farTo ∈ zgood := zgood_t 1192 (by decide +kernel) (by decide +kernel)
set_option maxRecDepth 100000 in
theorem se_X11_farTo : Cond.selects RX11 yX11_farTo yX11_farTo ∈ zgood := zgood_p 72 (by decide +kernel) (by decide +kernel)
set_option maxRecDepth 100000 in
theorem ml_X11_238 : zML RX11 238 yX11_lay := Or.inl (zgood_t 1178 (by decide +kernel) (by decide +kernel))
set_option maxRecDepth 100000 in
theorem kw_X11_lay : Cond.code yX11_lay cX11_lay 3 none ∈ zgood := zgood_t 1181 (by rfl) (by decide +kernel)
set_option maxRecDepth 100000 in
theorem ok_X11_lay : zOK mX11_lay 1 := ⟨kw_X11_lay, ii_X11, by decide +kernel, by decide +kernel, by decide +kernel⟩
set_option maxRecDepth 100000 in
theorem in_X11_lay : Cond.instanceMethod yX11_lay ∈ zgood := zgood_t 1180 (by decide +kernel) (by decide +kernel)
set_option maxRecDepth 100000 in
theorem se_X11_lay : Cond.selects RX11 yX11_lay yX11_lay ∈ zgood := zgood_p 70 (by decide +kernel) (by decide +kernel)
set_option maxRecDepth 100000 in
theorem ml_X11_242 : zML RX11 242 yX11_factOf := Or.inl (zgood_t 1186 (by decide +kernel) (by decide +kernel))
set_option maxRecDepth 100000 in
theorem kw_X11_factOf : Cond.code yX11_factOf cX11_factOf 3 (some .int) ∈ zgood := zgood_t 1189 (by rfl) (by decide +kernel)
set_option maxRecDepth 100000 in
theorem ok_X11_factOf : zOK mX11_factOf 2 := ⟨kw_X11_factOf, ii_X11, by decide +kernel, by decide +kernel, by decide +kernel⟩
set_option maxRecDepth 100000 in
theorem in_X11_factOf : Cond.instanceMethod yX11_factOf ∈ zgood := zgood_t 1188 (by decide +kernel) (by decide +kernel)
set_option maxRecDepth 100000 in
theorem se_X11_factOf : Cond.selects RX11 yX11_factOf yX11_factOf ∈ zgood := zgood_p 71 (by decide +kernel) (by decide +kernel)
set_option maxRecDepth 100000 in
theorem ml_X11_252 : zML RX11 252 yX11_worthOf := Or.inl (zgood_t 1174 (by decide +kernel) (by decide +kernel))
set_option maxRecDepth 100000 in
theorem kw_X11_worthOf : Cond.code yX11_worthOf cX11_worthOf 6 (some .int) ∈ zgood := zgood_t 1177 (by rfl) (by decide +kernel)
set_option maxRecDepth 100000 in
theorem ok_X11_worthOf : zOK mX11_worthOf 2 := ⟨kw_X11_worthOf, ii_X11, by decide +kernel, by decide +kernel, by decide +kernel⟩
set_option maxRecDepth 100000 in
theorem in_X11_worthOf : Cond.instanceMethod yX11_worthOf ∈ zgood := zgood_t 1176 (by decide +kernel) (by decide +kernel)
set_option maxRecDepth 100000 in
theorem se_X11_worthOf : Cond.selects RX11 yX11_worthOf yX11_worthOf ∈ zgood := zgood_p 69 (by decide +kernel) (by decide +kernel)
set_option maxRecDepth 100000 in
theorem ml_X11_261 : zML RX11 261 yX11_isSo := Or.inl (zgood_t 1214 (by decide +kernel) (by decide +kernel))
set_option maxRecDepth 100000 in
theorem kw_X11_isSo : Cond.code yX11_isSo cX11_isSo 3 (some .boolean) ∈ zgood := zgood_t 1217 (by rfl) (by decide +kernel)
set_option maxRecDepth 100000 in
theorem ok_X11_isSo : zOK mX11_isSo 2 := ⟨kw_X11_isSo, ii_X11, by decide +kernel, by decide +kernel, by decide +kernel⟩
set_option maxRecDepth 100000 in
theorem in_X11_isSo : Cond.instanceMethod yX11_isSo ∈ zgood := zgood_t 1216 (by decide +kernel) (by decide +kernel)
set_option maxRecDepth 100000 in
theorem se_X11_isSo : Cond.selects RX11 yX11_isSo yX11_isSo ∈ zgood := zgood_p 75 (by decide +kernel) (by decide +kernel)
set_option maxRecDepth 100000 in
theorem ml_X11_269 : zML RX11 269 yX11_findMovers := Or.inl (zgood_t 1210 (by decide +kernel) (by decide +kernel))
set_option maxRecDepth 100000 in
theorem kw_X11_findMovers : Cond.code yX11_findMovers cX11_findMovers 5 none ∈ zgood := zgood_t 1213 (by rfl) (by decide +kernel)
set_option maxRecDepth 100000 in
theorem ok_X11_findMovers : zOK mX11_findMovers 1 := ⟨kw_X11_findMovers, ii_X11, by decide +kernel, by decide +kernel, by decide +kernel⟩
set_option maxRecDepth 100000 in
theorem in_X11_findMovers : Cond.instanceMethod yX11_findMovers ∈ zgood := zgood_t 1212 (by decide +kernel) (by decide +kernel)
set_option maxRecDepth 100000 in
theorem se_X11_findMovers : Cond.selects RX11 yX11_findMovers yX11_findMovers ∈ zgood := zgood_p 74 (by decide +kernel) (by decide +kernel)
set_option maxRecDepth 100000 in
theorem ml_X11_274 : zML RX11 274 yX11_byslot := Or.inl (zgood_t 1219 (by decide +kernel) (by decide +kernel))
set_option maxRecDepth 100000 in
theorem kw_X11_byslot : Cond.code yX11_byslot cX11_byslot 7 (some .int) ∈ zgood := zgood_t 1222 (by rfl) (by decide +kernel)
set_option maxRecDepth 100000 in
theorem ok_X11_byslot : zOK mX11_byslot 3 := ⟨kw_X11_byslot, ii_X11, by decide +kernel, by decide +kernel, by decide +kernel⟩
set_option maxRecDepth 100000 in
theorem in_X11_byslot : Cond.instanceMethod yX11_byslot ∈ zgood := zgood_t 1221 (by decide +kernel) (by decide +kernel)
set_option maxRecDepth 100000 in
theorem se_X11_byslot : Cond.selects RX11 yX11_byslot yX11_byslot ∈ zgood := zgood_p 76 (by decide +kernel) (by decide +kernel)
set_option maxRecDepth 100000 in
theorem ml_X11_282 : zML RX11 282 yX11_findMove := Or.inl (zgood_t 1206 (by decide +kernel) (by decide +kernel))
set_option maxRecDepth 100000 in
theorem kw_X11_findMove : Cond.code yX11_findMove cX11_findMove 7 none ∈ zgood := zgood_t 1209 (by rfl) (by decide +kernel)
set_option maxRecDepth 100000 in
theorem ok_X11_findMove : zOK mX11_findMove 1 := ⟨kw_X11_findMove, ii_X11, by decide +kernel, by decide +kernel, by decide +kernel⟩
set_option maxRecDepth 100000 in
theorem in_X11_findMove : Cond.instanceMethod yX11_findMove ∈ zgood := zgood_t 1208 (by decide +kernel) (by decide +kernel)
set_option maxRecDepth 100000 in
theorem se_X11_findMove : Cond.selects RX11 yX11_findMove yX11_findMove ∈ zgood := zgood_p 73 (by decide +kernel) (by decide +kernel)
set_option maxRecDepth 100000 in
theorem ml_X11_285 : zML RX11 285 yX11_newPit := Or.inl (zgood_t 1225 (by decide +kernel) (by decide +kernel))
set_option maxRecDepth 100000 in
theorem kw_X11_newPit : Cond.code yX11_newPit cX11_newPit 3 (some .int) ∈ zgood := zgood_t 1228 (by rfl) (by decide +kernel)
set_option maxRecDepth 100000 in
theorem ok_X11_newPit : zOK mX11_newPit 1 := ⟨kw_X11_newPit, ii_X11, by decide +kernel, by decide +kernel, by decide +kernel⟩
set_option maxRecDepth 100000 in
theorem in_X11_newPit : Cond.instanceMethod yX11_newPit ∈ zgood := zgood_t 1227 (by decide +kernel) (by decide +kernel)
set_option maxRecDepth 100000 in
theorem se_X11_newPit : Cond.selects RX11 yX11_newPit yX11_newPit ∈ zgood := zgood_p 77 (by decide +kernel) (by decide +kernel)
set_option maxRecDepth 100000 in
theorem ml_X11_288 : zML RX11 288 yX11_isMover := Or.inl (zgood_t 1233 (by decide +kernel) (by decide +kernel))
set_option maxRecDepth 100000 in
theorem kw_X11_isMover : Cond.code yX11_isMover cX11_isMover 4 (some .boolean) ∈ zgood := zgood_t 1236 (by rfl) (by decide +kernel)
set_option maxRecDepth 100000 in
theorem ok_X11_isMover : zOK mX11_isMover 1 := ⟨kw_X11_isMover, ii_X11, by decide +kernel, by decide +kernel, by decide +kernel⟩
set_option maxRecDepth 100000 in
theorem in_X11_isMover : Cond.instanceMethod yX11_isMover ∈ zgood := zgood_t 1235 (by decide +kernel) (by decide +kernel)
set_option maxRecDepth 100000 in
theorem se_X11_isMover : Cond.selects RX11 yX11_isMover yX11_isMover ∈ zgood := zgood_p 78 (by decide +kernel) (by decide +kernel)
set_option maxRecDepth 100000 in
theorem ml_X11_296 : zML RX11 296 yX11_run := Or.inl (zgood_t 1259 (by decide +kernel) (by decide +kernel))
set_option maxRecDepth 100000 in
theorem kw_X11_run : Cond.code yX11_run cX11_run 6 none ∈ zgood := zgood_t 1262 (by rfl) (by decide +kernel)
set_option maxRecDepth 100000 in
theorem ok_X11_run : zOK mX11_run 3 := ⟨kw_X11_run, ii_X11, by decide +kernel, by decide +kernel, by decide +kernel⟩
set_option maxRecDepth 100000 in
theorem in_X11_run : Cond.instanceMethod yX11_run ∈ zgood := zgood_t 1261 (by decide +kernel) (by decide +kernel)
set_option maxRecDepth 100000 in
theorem se_X11_run : Cond.selects RX11 yX11_run yX11_run ∈ zgood := zgood_p 80 (by decide +kernel) (by decide +kernel)
set_option maxRecDepth 100000 in
theorem ml_X11_308 : zML RX11 308 yX11_monthOn := Or.inl (zgood_t 1255 (by decide +kernel) (by decide +kernel))
set_option maxRecDepth 100000 in
theorem kw_X11_monthOn : Cond.code yX11_monthOn cX11_monthOn 4 none ∈ zgood := zgood_t 1258 (by rfl) (by decide +kernel)
set_option maxRecDepth 100000 in
theorem ok_X11_monthOn : zOK mX11_monthOn 1 := ⟨kw_X11_monthOn, ii_X11, by decide +kernel, by decide +kernel, by decide +kernel⟩
set_option maxRecDepth 100000 in
theorem in_X11_monthOn : Cond.instanceMethod yX11_monthOn ∈ zgood := zgood_t 1257 (by decide +kernel) (by decide +kernel)
set_option maxRecDepth 100000 in
theorem se_X11_monthOn : Cond.selects RX11 yX11_monthOn yX11_monthOn ∈ zgood := zgood_p 79 (by decide +kernel) (by decide +kernel)
set_option maxRecDepth 100000 in
theorem ml_X11_311 : zML RX11 311 yX11_isDrowned := Or.inl (zgood_t 1263 (by decide +kernel) (by decide +kernel))
set_option maxRecDepth 100000 in
theorem kw_X11_isDrowned : Cond.code yX11_isDrowned cX11_isDrowned 2 (some .boolean) ∈ zgood := zgood_t 1266 (by rfl) (by decide +kernel)
set_option maxRecDepth 100000 in
theorem ok_X11_isDrowned : zOK mX11_isDrowned 1 := ⟨kw_X11_isDrowned, ii_X11, by decide +kernel, by decide +kernel, by decide +kernel⟩
set_option maxRecDepth 100000 in
theorem in_X11_isDrowned : Cond.instanceMethod yX11_isDrowned ∈ zgood := zgood_t 1265 (by decide +kernel) (by decide +kernel)
set_option maxRecDepth 100000 in
theorem se_X11_isDrowned : Cond.selects RX11 yX11_isDrowned yX11_isDrowned ∈ zgood := zgood_p 81 (by decide +kernel) (by decide +kernel)
set_option maxRecDepth 100000 in
theorem ml_X11_322 : zML RX11 322 yX11_costBy := Or.inl (zgood_t 1288 (by decide +kernel) (by decide +kernel))
set_option maxRecDepth 100000 in
theorem kw_X11_costBy : Cond.code yX11_costBy cX11_costBy 7 (some .int) ∈ zgood := zgood_t 1291 (by rfl) (by decide +kernel)
set_option maxRecDepth 100000 in
theorem ok_X11_costBy : zOK mX11_costBy 1 := ⟨kw_X11_costBy, ii_X11, by decide +kernel, by decide +kernel, by decide +kernel⟩
set_option maxRecDepth 100000 in
theorem in_X11_costBy : Cond.instanceMethod yX11_costBy ∈ zgood := zgood_t 1290 (by decide +kernel) (by decide +kernel)
set_option maxRecDepth 100000 in
theorem se_X11_costBy : Cond.selects RX11 yX11_costBy yX11_costBy ∈ zgood := zgood_p 84 (by decide +kernel) (by decide +kernel)
set_option maxRecDepth 100000 in
theorem ml_X11_325 : zML RX11 325 yX11_layPlan := Or.inl (zgood_t 1280 (by decide +kernel) (by decide +kernel))
set_option maxRecDepth 100000 in
theorem kw_X11_layPlan : Cond.code yX11_layPlan cX11_layPlan 5 (some .boolean) ∈ zgood := zgood_t 1283 (by rfl) (by decide +kernel)
set_option maxRecDepth 100000 in
theorem ok_X11_layPlan : zOK mX11_layPlan 1 := ⟨kw_X11_layPlan, ii_X11, by decide +kernel, by decide +kernel, by decide +kernel⟩
set_option maxRecDepth 100000 in
theorem in_X11_layPlan : Cond.instanceMethod yX11_layPlan ∈ zgood := zgood_t 1282 (by decide +kernel) (by decide +kernel)
set_option maxRecDepth 100000 in
theorem se_X11_layPlan : Cond.selects RX11 yX11_layPlan yX11_layPlan ∈ zgood := zgood_p 82 (by decide +kernel) (by decide +kernel)
set_option maxRecDepth 100000 in
theorem ml_X11_328 : zML RX11 328 yX11_worst := Or.inl (zgood_t 1284 (by decide +kernel) (by decide +kernel))
set_option maxRecDepth 100000 in
theorem kw_X11_worst : Cond.code yX11_worst cX11_worst 4 (some .int) ∈ zgood := zgood_t 1287 (by rfl) (by decide +kernel)
set_option maxRecDepth 100000 in
theorem ok_X11_worst : zOK mX11_worst 0 := ⟨kw_X11_worst, ii_X11, by decide +kernel, by decide +kernel, by decide +kernel⟩
set_option maxRecDepth 100000 in
theorem in_X11_worst : Cond.instanceMethod yX11_worst ∈ zgood := zgood_t 1286 (by decide +kernel) (by decide +kernel)
set_option maxRecDepth 100000 in
theorem se_X11_worst : Cond.selects RX11 yX11_worst yX11_worst ∈ zgood := zgood_p 83 (by decide +kernel) (by decide +kernel)
set_option maxRecDepth 100000 in
theorem ml_X11_331 : zML RX11 331 yX11_isKept := Or.inl (zgood_t 1292 (by decide +kernel) (by decide +kernel))
set_option maxRecDepth 100000 in
theorem kw_X11_isKept : Cond.code yX11_isKept cX11_isKept 5 (some .boolean) ∈ zgood := zgood_t 1295 (by rfl) (by decide +kernel)
set_option maxRecDepth 100000 in
theorem ok_X11_isKept : zOK mX11_isKept 0 := ⟨kw_X11_isKept, ii_X11, by decide +kernel, by decide +kernel, by decide +kernel⟩
set_option maxRecDepth 100000 in
theorem in_X11_isKept : Cond.instanceMethod yX11_isKept ∈ zgood := zgood_t 1294 (by decide +kernel) (by decide +kernel)
set_option maxRecDepth 100000 in
theorem se_X11_isKept : Cond.selects RX11 yX11_isKept yX11_isKept ∈ zgood := zgood_p 85 (by decide +kernel) (by decide +kernel)
set_option maxRecDepth 100000 in
theorem ml_X11_335 : zML RX11 335 yX11_digitsOf := Or.inl (zgood_t 1300 (by decide +kernel) (by decide +kernel))
set_option maxRecDepth 100000 in
theorem kw_X11_digitsOf : Cond.code yX11_digitsOf cX11_digitsOf 3 (some .int) ∈ zgood := zgood_t 1303 (by rfl) (by decide +kernel)
set_option maxRecDepth 100000 in
theorem ok_X11_digitsOf : zOK mX11_digitsOf 0 := ⟨kw_X11_digitsOf, ii_X11, by decide +kernel, by decide +kernel, by decide +kernel⟩
set_option maxRecDepth 100000 in
theorem in_X11_digitsOf : Cond.instanceMethod yX11_digitsOf ∈ zgood := zgood_t 1302 (by decide +kernel) (by decide +kernel)
set_option maxRecDepth 100000 in
theorem se_X11_digitsOf : Cond.selects RX11 yX11_digitsOf yX11_digitsOf ∈ zgood := zgood_p 86 (by decide +kernel) (by decide +kernel)
set_option maxRecDepth 100000 in
theorem ml_X11_338 : zML RX11 338 yX11_nextPlan := Or.inl (zgood_t 1304 (by decide +kernel) (by decide +kernel))
set_option maxRecDepth 100000 in
theorem kw_X11_nextPlan : Cond.code yX11_nextPlan cX11_nextPlan 2 (some .boolean) ∈ zgood := zgood_t 1307 (by rfl) (by decide +kernel)
set_option maxRecDepth 100000 in
theorem ok_X11_nextPlan : zOK mX11_nextPlan 0 := ⟨kw_X11_nextPlan, ii_X11, by decide +kernel, by decide +kernel, by decide +kernel⟩
set_option maxRecDepth 100000 in
theorem in_X11_nextPlan : Cond.instanceMethod yX11_nextPlan ∈ zgood := zgood_t 1306 (by decide +kernel) (by decide +kernel)
set_option maxRecDepth 100000 in
theorem se_X11_nextPlan : Cond.selects RX11 yX11_nextPlan yX11_nextPlan ∈ zgood := zgood_p 87 (by decide +kernel) (by decide +kernel)
set_option maxRecDepth 100000 in
theorem ml_X11_346 : zML RX11 346 yX11_canBe := Or.inl (zgood_t 1333 (by decide +kernel) (by decide +kernel))
set_option maxRecDepth 100000 in
theorem kw_X11_canBe : Cond.code yX11_canBe cX11_canBe 5 (some .boolean) ∈ zgood := zgood_t 1336 (by rfl) (by decide +kernel)
set_option maxRecDepth 100000 in
theorem ok_X11_canBe : zOK mX11_canBe 2 := ⟨kw_X11_canBe, ii_X11, by decide +kernel, by decide +kernel, by decide +kernel⟩
set_option maxRecDepth 100000 in
theorem in_X11_canBe : Cond.instanceMethod yX11_canBe ∈ zgood := zgood_t 1335 (by decide +kernel) (by decide +kernel)
set_option maxRecDepth 100000 in
theorem se_X11_canBe : Cond.selects RX11 yX11_canBe yX11_canBe ∈ zgood := zgood_p 90 (by decide +kernel) (by decide +kernel)
set_option maxRecDepth 100000 in
theorem ml_X11_349 : zML RX11 349 yX11_isHarm := Or.inl (zgood_t 1325 (by decide +kernel) (by decide +kernel))
set_option maxRecDepth 100000 in
theorem kw_X11_isHarm : Cond.code yX11_isHarm cX11_isHarm 2 (some .boolean) ∈ zgood := zgood_t 1328 (by rfl) (by decide +kernel)
set_option maxRecDepth 100000 in
theorem ok_X11_isHarm : zOK mX11_isHarm 1 := ⟨kw_X11_isHarm, ii_X11, by decide +kernel, by decide +kernel, by decide +kernel⟩
set_option maxRecDepth 100000 in
theorem in_X11_isHarm : Cond.instanceMethod yX11_isHarm ∈ zgood := zgood_t 1327 (by decide +kernel) (by decide +kernel)
set_option maxRecDepth 100000 in
theorem se_X11_isHarm : Cond.selects RX11 yX11_isHarm yX11_isHarm ∈ zgood := zgood_p 88 (by decide +kernel) (by decide +kernel)
set_option maxRecDepth 100000 in
theorem ml_X11_352 : zML RX11 352 yX11_whoseOf := Or.inl (zgood_t 1329 (by decide +kernel) (by decide +kernel))
set_option maxRecDepth 100000 in
theorem kw_X11_whoseOf : Cond.code yX11_whoseOf cX11_whoseOf 4 (some .int) ∈ zgood := zgood_t 1332 (by rfl) (by decide +kernel)
set_option maxRecDepth 100000 in
theorem ok_X11_whoseOf : zOK mX11_whoseOf 1 := ⟨kw_X11_whoseOf, ii_X11, by decide +kernel, by decide +kernel, by decide +kernel⟩
set_option maxRecDepth 100000 in
theorem in_X11_whoseOf : Cond.instanceMethod yX11_whoseOf ∈ zgood := zgood_t 1331 (by decide +kernel) (by decide +kernel)
set_option maxRecDepth 100000 in
theorem se_X11_whoseOf : Cond.selects RX11 yX11_whoseOf yX11_whoseOf ∈ zgood := zgood_p 89 (by decide +kernel) (by decide +kernel)
set_option maxRecDepth 100000 in
theorem ml_X11_355 : zML RX11 355 yX11_shareOf := Or.inl (zgood_t 1341 (by decide +kernel) (by decide +kernel))
set_option maxRecDepth 100000 in
theorem kw_X11_shareOf : Cond.code yX11_shareOf cX11_shareOf 4 (some .int) ∈ zgood := zgood_t 1344 (by rfl) (by decide +kernel)
set_option maxRecDepth 100000 in
theorem ok_X11_shareOf : zOK mX11_shareOf 3 := ⟨kw_X11_shareOf, ii_X11, by decide +kernel, by decide +kernel, by decide +kernel⟩
set_option maxRecDepth 100000 in
theorem in_X11_shareOf : Cond.instanceMethod yX11_shareOf ∈ zgood := zgood_t 1343 (by decide +kernel) (by decide +kernel)
set_option maxRecDepth 100000 in
theorem se_X11_shareOf : Cond.selects RX11 yX11_shareOf yX11_shareOf ∈ zgood := zgood_p 91 (by decide +kernel) (by decide +kernel)
set_option maxRecDepth 100000 in
theorem ml_X11_358 : zML RX11 358 yX11_pitsOf := Or.inl (zgood_t 1349 (by decide +kernel) (by decide +kernel))
set_option maxRecDepth 100000 in
theorem kw_X11_pitsOf : Cond.code yX11_pitsOf cX11_pitsOf 4 (some .int) ∈ zgood := zgood_t 1352 (by rfl) (by decide +kernel)
set_option maxRecDepth 100000 in
theorem ok_X11_pitsOf : zOK mX11_pitsOf 1 := ⟨kw_X11_pitsOf, ii_X11, by decide +kernel, by decide +kernel, by decide +kernel⟩
set_option maxRecDepth 100000 in
theorem in_X11_pitsOf : Cond.instanceMethod yX11_pitsOf ∈ zgood := zgood_t 1351 (by decide +kernel) (by decide +kernel)
set_option maxRecDepth 100000 in
theorem se_X11_pitsOf : Cond.selects RX11 yX11_pitsOf yX11_pitsOf ∈ zgood := zgood_p 92 (by decide +kernel) (by decide +kernel)
set_option maxRecDepth 100000 in
theorem ml_X2_43 : zML RX2 43 yX2_seat := Or.inl (zgood_t 626 (by decide +kernel) (by decide +kernel))
set_option maxRecDepth 100000 in
theorem kw_X2_seat : Cond.code yX2_seat cX2_seat 4 none ∈ zgood := zgood_t 629 (by rfl) (by decide +kernel)
set_option maxRecDepth 100000 in
theorem ok_X2_seat : zOK mX2_seat 1 := ⟨kw_X2_seat, ii_X2, by decide +kernel, by decide +kernel, by decide +kernel⟩
set_option maxRecDepth 100000 in
theorem in_X2_seat : Cond.instanceMethod yX2_seat ∈ zgood := zgood_t 628 (by decide +kernel) (by decide +kernel)
set_option maxRecDepth 100000 in
theorem se_X2_seat : Cond.selects RX2 yX2_seat yX2_seat ∈ zgood := zgood_p 27 (by decide +kernel) (by decide +kernel)
set_option maxRecDepth 100000 in
theorem ml_X2_49 : zML RX2 49 yX2_reachNext := Or.inl (zgood_t 631 (by decide +kernel) (by decide +kernel))
set_option maxRecDepth 100000 in
theorem kw_X2_reachNext : Cond.code yX2_reachNext cX2_reachNext 7 (some .int) ∈ zgood := zgood_t 634 (by rfl) (by decide +kernel)
set_option maxRecDepth 100000 in
theorem ok_X2_reachNext : zOK mX2_reachNext 1 := ⟨kw_X2_reachNext, ii_X2, by decide +kernel, by decide +kernel, by decide +kernel⟩
set_option maxRecDepth 100000 in
theorem in_X2_reachNext : Cond.instanceMethod yX2_reachNext ∈ zgood := zgood_t 633 (by decide +kernel) (by decide +kernel)
set_option maxRecDepth 100000 in
theorem se_X2_reachNext : Cond.selects RX2 yX2_reachNext yX2_reachNext ∈ zgood := zgood_p 28 (by decide +kernel) (by decide +kernel)
set_option maxRecDepth 100000 in
theorem ml_X2_53 : zML RX2 53 yX2_shiftWorths := Or.inl (zgood_t 635 (by decide +kernel) (by decide +kernel))
set_option maxRecDepth 100000 in
theorem kw_X2_shiftWorths : Cond.code yX2_shiftWorths cX2_shiftWorths 4 none ∈ zgood := zgood_t 638 (by rfl) (by decide +kernel)
set_option maxRecDepth 100000 in
theorem ok_X2_shiftWorths : zOK mX2_shiftWorths 1 := ⟨kw_X2_shiftWorths, ii_X2, by decide +kernel, by decide +kernel, by decide +kernel⟩
set_option maxRecDepth 100000 in
theorem in_X2_shiftWorths : Cond.instanceMethod yX2_shiftWorths ∈ zgood := zgood_t 637 (by decide +kernel) (by decide +kernel)
set_option maxRecDepth 100000 in
theorem se_X2_shiftWorths : Cond.selects RX2 yX2_shiftWorths yX2_shiftWorths ∈ zgood := zgood_p 29 (by decide +kernel) (by decide +kernel)
set_option maxRecDepth 100000 in
theorem ml_X3_31 : zML RX3 31 yX3_whatComesOf := Or.inl (zgood_t 551 (by decide +kernel) (by decide +kernel))
set_option maxRecDepth 100000 in
theorem kw_X3_whatComesOf : Cond.code yX3_whatComesOf cX3_whatComesOf 5 (some .long) ∈ zgood := zgood_t 554 (by rfl) (by decide +kernel)
set_option maxRecDepth 100000 in
theorem ok_X3_whatComesOf : zOK mX3_whatComesOf 4 := ⟨kw_X3_whatComesOf, ii_X3, by decide +kernel, by decide +kernel, by decide +kernel⟩
set_option maxRecDepth 100000 in
theorem in_X3_whatComesOf : Cond.instanceMethod yX3_whatComesOf ∈ zgood := zgood_t 553 (by decide +kernel) (by decide +kernel)
set_option maxRecDepth 100000 in
theorem se_X3_whatComesOf : Cond.selects RX3 yX3_whatComesOf yX3_whatComesOf ∈ zgood := zgood_p 13 (by decide +kernel) (by decide +kernel)
set_option maxRecDepth 100000 in
theorem ml_X3_35 : zML RX3 35 yX3_lay := Or.inl (zgood_t 564 (by decide +kernel) (by decide +kernel))
set_option maxRecDepth 100000 in
theorem kw_X3_lay : Cond.code yX3_lay cX3_lay 3 none ∈ zgood := zgood_t 567 (by rfl) (by decide +kernel)
set_option maxRecDepth 100000 in
theorem ok_X3_lay : zOK mX3_lay 1 := ⟨kw_X3_lay, ii_X3, by decide +kernel, by decide +kernel, by decide +kernel⟩
set_option maxRecDepth 100000 in
theorem in_X3_lay : Cond.instanceMethod yX3_lay ∈ zgood := zgood_t 566 (by decide +kernel) (by decide +kernel)
set_option maxRecDepth 100000 in
theorem se_X3_lay : Cond.selects RX3 yX3_lay yX3_lay ∈ zgood := zgood_p 16 (by decide +kernel) (by decide +kernel)
set_option maxRecDepth 100000 in
theorem ml_X3_39 : zML RX3 39 yX3_take := Or.inl (zgood_t 556 (by decide +kernel) (by decide +kernel))
set_option maxRecDepth 100000 in
theorem kw_X3_take : Cond.code yX3_take cX3_take 1 (some .int) ∈ zgood := zgood_t 559 (by rfl) (by decide +kernel)
set_option maxRecDepth 100000 in
theorem ok_X3_take : zOK mX3_take 0 := ⟨kw_X3_take, ii_X3, by decide +kernel, by decide +kernel, by decide +kernel⟩
set_option maxRecDepth 100000 in
theorem in_X3_take : Cond.instanceMethod yX3_take ∈ zgood := zgood_t 558 (by decide +kernel) (by decide +kernel)
set_option maxRecDepth 100000 in
theorem se_X3_take : Cond.selects RX3 yX3_take yX3_take ∈ zgood := zgood_p 14 (by decide +kernel) (by decide +kernel)
set_option maxRecDepth 100000 in
theorem ml_X3_62 : zML RX3 62 yX3_joined := Or.inl (zgood_t 560 (by decide +kernel) (by decide +kernel))
set_option maxRecDepth 100000 in
theorem kw_X3_joined : Cond.code yX3_joined cX3_joined 6 (some .long) ∈ zgood := zgood_t 563 (by rfl) (by decide +kernel)
set_option maxRecDepth 100000 in
theorem ok_X3_joined : zOK mX3_joined 1 := ⟨kw_X3_joined, ii_X3, by decide +kernel, by decide +kernel, by decide +kernel⟩
set_option maxRecDepth 100000 in
theorem in_X3_joined : Cond.instanceMethod yX3_joined ∈ zgood := zgood_t 562 (by decide +kernel) (by decide +kernel)
set_option maxRecDepth 100000 in
theorem se_X3_joined : Cond.selects RX3 yX3_joined yX3_joined ∈ zgood := zgood_p 15 (by decide +kernel) (by decide +kernel)
set_option maxRecDepth 100000 in
theorem ml_X6_104 : zML RX6 104 yX6_lastChoice := Or.inl (zgood_t 771 (by decide +kernel) (by decide +kernel))
set_option maxRecDepth 100000 in
theorem kw_X6_lastChoice : Cond.code yX6_lastChoice cX6_lastChoice 2 (some .int) ∈ zgood := zgood_t 774 (by rfl) (by decide +kernel)
set_option maxRecDepth 100000 in
theorem ok_X6_lastChoice : zOK mX6_lastChoice 1 := ⟨kw_X6_lastChoice, ii_X6, by decide +kernel, by decide +kernel, by decide +kernel⟩
set_option maxRecDepth 100000 in
theorem in_X6_lastChoice : Cond.instanceMethod yX6_lastChoice ∈ zgood := zgood_t 773 (by decide +kernel) (by decide +kernel)
set_option maxRecDepth 100000 in
theorem se_X6_lastChoice : Cond.selects RX6 yX6_lastChoice yX6_lastChoice ∈ zgood := zgood_p 52 (by decide +kernel) (by decide +kernel)
set_option maxRecDepth 100000 in
theorem ml_X6_110 : zML RX6 110 yX6_keepAsBest := Or.inl (zgood_t 779 (by decide +kernel) (by decide +kernel))
set_option maxRecDepth 100000 in
theorem kw_X6_keepAsBest : Cond.code yX6_keepAsBest cX6_keepAsBest 2 none ∈ zgood := zgood_t 782 (by rfl) (by decide +kernel)
set_option maxRecDepth 100000 in
theorem ok_X6_keepAsBest : zOK mX6_keepAsBest 0 := ⟨kw_X6_keepAsBest, ii_X6, by decide +kernel, by decide +kernel, by decide +kernel⟩
set_option maxRecDepth 100000 in
theorem in_X6_keepAsBest : Cond.instanceMethod yX6_keepAsBest ∈ zgood := zgood_t 781 (by decide +kernel) (by decide +kernel)
set_option maxRecDepth 100000 in
theorem se_X6_keepAsBest : Cond.selects RX6 yX6_keepAsBest yX6_keepAsBest ∈ zgood := zgood_p 53 (by decide +kernel) (by decide +kernel)
set_option maxRecDepth 100000 in
theorem ml_X6_113 : zML RX6 113 yX6_pay := Or.inl (zgood_t 784 (by decide +kernel) (by decide +kernel))
set_option maxRecDepth 100000 in
theorem kw_X6_pay : Cond.code yX6_pay cX6_pay 4 none ∈ zgood := zgood_t 787 (by rfl) (by decide +kernel)
set_option maxRecDepth 100000 in
theorem ok_X6_pay : zOK mX6_pay 2 := ⟨kw_X6_pay, ii_X6, by decide +kernel, by decide +kernel, by decide +kernel⟩
set_option maxRecDepth 100000 in
theorem in_X6_pay : Cond.instanceMethod yX6_pay ∈ zgood := zgood_t 786 (by decide +kernel) (by decide +kernel)
set_option maxRecDepth 100000 in
theorem se_X6_pay : Cond.selects RX6 yX6_pay yX6_pay ∈ zgood := zgood_p 54 (by decide +kernel) (by decide +kernel)
set_option maxRecDepth 100000 in
theorem ml_X6_116 : zML RX6 116 yX6_mayBeBetter := Or.inl (zgood_t 788 (by decide +kernel) (by decide +kernel))
set_option maxRecDepth 100000 in
theorem kw_X6_mayBeBetter : Cond.code yX6_mayBeBetter cX6_mayBeBetter 3 (some .boolean) ∈ zgood := zgood_t 791 (by rfl) (by decide +kernel)
set_option maxRecDepth 100000 in
theorem ok_X6_mayBeBetter : zOK mX6_mayBeBetter 1 := ⟨kw_X6_mayBeBetter, ii_X6, by decide +kernel, by decide +kernel, by decide +kernel⟩
set_option maxRecDepth 100000 in
theorem in_X6_mayBeBetter : Cond.instanceMethod yX6_mayBeBetter ∈ zgood := zgood_t 790 (by decide +kernel) (by decide +kernel)
set_option maxRecDepth 100000 in
theorem se_X6_mayBeBetter : Cond.selects RX6 yX6_mayBeBetter yX6_mayBeBetter ∈ zgood := zgood_p 55 (by decide +kernel) (by decide +kernel)
set_option maxRecDepth 100000 in
theorem ml_X6_120 : zML RX6 120 yX6_openAgain := Or.inl (zgood_t 792 (by decide +kernel) (by decide +kernel))
set_option maxRecDepth 100000 in
theorem kw_X6_openAgain : Cond.code yX6_openAgain cX6_openAgain 3 none ∈ zgood := zgood_t 795 (by rfl) (by decide +kernel)
set_option maxRecDepth 100000 in
theorem ok_X6_openAgain : zOK mX6_openAgain 2 := ⟨kw_X6_openAgain, ii_X6, by decide +kernel, by decide +kernel, by decide +kernel⟩
set_option maxRecDepth 100000 in
theorem in_X6_openAgain : Cond.instanceMethod yX6_openAgain ∈ zgood := zgood_t 794 (by decide +kernel) (by decide +kernel)
set_option maxRecDepth 100000 in
theorem se_X6_openAgain : Cond.selects RX6 yX6_openAgain yX6_openAgain ∈ zgood := zgood_p 56 (by decide +kernel) (by decide +kernel)
set_option maxRecDepth 100000 in
theorem ml_X6_123 : zML RX6 123 yX6_worstRow := Or.inl (zgood_t 783 (by decide +kernel) (by decide +kernel))
set_option maxRecDepth 100000 in
theorem ml_X6_59 : zML RX6 59 yX6_fillCosts := Or.inl (zgood_t 720 (by decide +kernel) (by decide +kernel))
set_option maxRecDepth 100000 in
theorem kw_X6_fillCosts : Cond.code yX6_fillCosts cX6_fillCosts 7 none ∈ zgood := zgood_t 723 (by rfl) (by decide +kernel)
set_option maxRecDepth 100000 in
theorem ok_X6_fillCosts : zOK mX6_fillCosts 4 := ⟨kw_X6_fillCosts, ii_X6, by decide +kernel, by decide +kernel, by decide +kernel⟩
set_option maxRecDepth 100000 in
theorem in_X6_fillCosts : Cond.instanceMethod yX6_fillCosts ∈ zgood := zgood_t 722 (by decide +kernel) (by decide +kernel)
set_option maxRecDepth 100000 in
theorem se_X6_fillCosts : Cond.selects RX6 yX6_fillCosts yX6_fillCosts ∈ zgood := zgood_p 41 (by decide +kernel) (by decide +kernel)
set_option maxRecDepth 100000 in
theorem ml_X6_72 : zML RX6 72 yX6_startClosings := Or.inl (zgood_t 733 (by decide +kernel) (by decide +kernel))
set_option maxRecDepth 100000 in
theorem kw_X6_startClosings : Cond.code yX6_startClosings cX6_startClosings 2 none ∈ zgood := zgood_t 736 (by rfl) (by decide +kernel)
set_option maxRecDepth 100000 in
theorem ok_X6_startClosings : zOK mX6_startClosings 0 := ⟨kw_X6_startClosings, ii_X6, by decide +kernel, by decide +kernel, by decide +kernel⟩
set_option maxRecDepth 100000 in
theorem in_X6_startClosings : Cond.instanceMethod yX6_startClosings ∈ zgood := zgood_t 735 (by decide +kernel) (by decide +kernel)
set_option maxRecDepth 100000 in
theorem se_X6_startClosings : Cond.selects RX6 yX6_startClosings yX6_startClosings ∈ zgood := zgood_p 44 (by decide +kernel) (by decide +kernel)
set_option maxRecDepth 100000 in
theorem ml_X6_75 : zML RX6 75 yX6_mayClose := Or.inl (zgood_t 737 (by decide +kernel) (by decide +kernel))
set_option maxRecDepth 100000 in
theorem kw_X6_mayClose : Cond.code yX6_mayClose cX6_mayClose 3 (some .boolean) ∈ zgood := zgood_t 740 (by rfl) (by decide +kernel)
set_option maxRecDepth 100000 in
theorem ok_X6_mayClose : zOK mX6_mayClose 2 := ⟨kw_X6_mayClose, ii_X6, by decide +kernel, by decide +kernel, by decide +kernel⟩
set_option maxRecDepth 100000 in
theorem in_X6_mayClose : Cond.instanceMethod yX6_mayClose ∈ zgood := zgood_t 739 (by decide +kernel) (by decide +kernel)
set_option maxRecDepth 100000 in
theorem se_X6_mayClose : Cond.selects RX6 yX6_mayClose yX6_mayClose ∈ zgood := zgood_p 45 (by decide +kernel) (by decide +kernel)
set_option maxRecDepth 100000 in
theorem ml_X6_79 : zML RX6 79 yX6_closeFrom := Or.inl (zgood_t 745 (by decide +kernel) (by decide +kernel))
set_option maxRecDepth 100000 in
theorem kw_X6_closeFrom : Cond.code yX6_closeFrom cX6_closeFrom 3 none ∈ zgood := zgood_t 748 (by rfl) (by decide +kernel)
set_option maxRecDepth 100000 in
theorem ok_X6_closeFrom : zOK mX6_closeFrom 2 := ⟨kw_X6_closeFrom, ii_X6, by decide +kernel, by decide +kernel, by decide +kernel⟩
set_option maxRecDepth 100000 in
theorem in_X6_closeFrom : Cond.instanceMethod yX6_closeFrom ∈ zgood := zgood_t 747 (by decide +kernel) (by decide +kernel)
set_option maxRecDepth 100000 in
theorem se_X6_closeFrom : Cond.selects RX6 yX6_closeFrom yX6_closeFrom ∈ zgood := zgood_p 47 (by decide +kernel) (by decide +kernel)
set_option maxRecDepth 100000 in
theorem ml_X6_86 : zML RX6 86 yX6_costByRow := Or.inl (zgood_t 753 (by decide +kernel) (by decide +kernel))
set_option maxRecDepth 100000 in
theorem ml_X6_90 : zML RX6 90 yX6_closesWithin := Or.inl (zgood_t 741 (by decide +kernel) (by decide +kernel))
set_option maxRecDepth 100000 in
theorem kw_X6_closesWithin : Cond.code yX6_closesWithin cX6_closesWithin 3 (some .boolean) ∈ zgood := zgood_t 744 (by rfl) (by decide +kernel)
set_option maxRecDepth 100000 in
theorem ok_X6_closesWithin : zOK mX6_closesWithin 2 := ⟨kw_X6_closesWithin, ii_X6, by decide +kernel, by decide +kernel, by decide +kernel⟩
set_option maxRecDepth 100000 in
theorem in_X6_closesWithin : Cond.instanceMethod yX6_closesWithin ∈ zgood := zgood_t 743 (by decide +kernel) (by decide +kernel)
set_option maxRecDepth 100000 in
theorem se_X6_closesWithin : Cond.selects RX6 yX6_closesWithin yX6_closesWithin ∈ zgood := zgood_p 46 (by decide +kernel) (by decide +kernel)
set_option maxRecDepth 100000 in
theorem ml_X6_97 : zML RX6 97 yX6_fillLeast := Or.inl (zgood_t 767 (by decide +kernel) (by decide +kernel))
set_option maxRecDepth 100000 in
theorem kw_X6_fillLeast : Cond.code yX6_fillLeast cX6_fillLeast 5 none ∈ zgood := zgood_t 770 (by rfl) (by decide +kernel)
set_option maxRecDepth 100000 in
theorem ok_X6_fillLeast : zOK mX6_fillLeast 0 := ⟨kw_X6_fillLeast, ii_X6, by decide +kernel, by decide +kernel, by decide +kernel⟩
set_option maxRecDepth 100000 in
theorem in_X6_fillLeast : Cond.instanceMethod yX6_fillLeast ∈ zgood := zgood_t 769 (by decide +kernel) (by decide +kernel)
set_option maxRecDepth 100000 in
theorem se_X6_fillLeast : Cond.selects RX6 yX6_fillLeast yX6_fillLeast ∈ zgood := zgood_p 51 (by decide +kernel) (by decide +kernel)
set_option maxRecDepth 100000 in
theorem ml_X7_41 : zML RX7 41 yX2_bar := Or.inr ⟨"PitPact", znest_t 600 (by decide +kernel) (by decide +kernel)⟩
set_option maxRecDepth 100000 in
theorem kw_X2_bar : Cond.code yX2_bar cX2_bar 4 none ∈ zgood := zgood_t 603 (by rfl) (by decide +kernel)
set_option maxRecDepth 100000 in
theorem ok_X2_bar : zOK mX2_bar 2 := ⟨kw_X2_bar, ii_X2, by decide +kernel, by decide +kernel, by decide +kernel⟩
set_option maxRecDepth 100000 in
theorem in_X2_bar : Cond.instanceMethod yX2_bar ∈ zgood := zgood_t 602 (by decide +kernel) (by decide +kernel)
set_option maxRecDepth 100000 in
theorem se_X2_bar : Cond.selects RX2 yX2_bar yX2_bar ∈ zgood := zgood_p 22 (by decide +kernel) (by decide +kernel)
set_option maxRecDepth 100000 in
theorem ml_X7_57 : zML RX7 57 yX2_solve := Or.inr ⟨"PitPact", znest_t 622 (by decide +kernel) (by decide +kernel)⟩
set_option maxRecDepth 100000 in
theorem kw_X2_solve : Cond.code yX2_solve cX2_solve 4 none ∈ zgood := zgood_t 625 (by rfl) (by decide +kernel)
set_option maxRecDepth 100000 in
theorem ok_X2_solve : zOK mX2_solve 2 := ⟨kw_X2_solve, ii_X2, by decide +kernel, by decide +kernel, by decide +kernel⟩
set_option maxRecDepth 100000 in
theorem in_X2_solve : Cond.instanceMethod yX2_solve ∈ zgood := zgood_t 624 (by decide +kernel) (by decide +kernel)
set_option maxRecDepth 100000 in
theorem se_X2_solve : Cond.selects RX2 yX2_solve yX2_solve ∈ zgood := zgood_p 26 (by decide +kernel) (by decide +kernel)
set_option maxRecDepth 100000 in
theorem ml_X7_60 : zML RX7 60 yX2_columnOf := Or.inr ⟨"PitPact", znest_t 639 (by decide +kernel) (by decide +kernel)⟩
set_option maxRecDepth 100000 in
theorem kw_X2_columnOf : Cond.code yX2_columnOf cX2_columnOf 3 (some .int) ∈ zgood := zgood_t 642 (by rfl) (by decide +kernel)
set_option maxRecDepth 100000 in
theorem ok_X2_columnOf : zOK mX2_columnOf 1 := ⟨kw_X2_columnOf, ii_X2, by decide +kernel, by decide +kernel, by decide +kernel⟩
set_option maxRecDepth 100000 in
theorem in_X2_columnOf : Cond.instanceMethod yX2_columnOf ∈ zgood := zgood_t 641 (by decide +kernel) (by decide +kernel)
set_option maxRecDepth 100000 in
theorem se_X2_columnOf : Cond.selects RX2 yX2_columnOf yX2_columnOf ∈ zgood := zgood_p 30 (by decide +kernel) (by decide +kernel)
set_option maxRecDepth 100000 in
theorem ml_X7_73 : zML RX7 73 yX7_indexOf := Or.inl (zgood_t 647 (by decide +kernel) (by decide +kernel))
set_option maxRecDepth 100000 in
theorem ml_X9_59 : zML RX9 59 yX9_runThrough := Or.inl (zgood_t 688 (by decide +kernel) (by decide +kernel))
set_option maxRecDepth 100000 in
theorem kw_X9_runThrough : Cond.code yX9_runThrough cX9_runThrough 7 none ∈ zgood := zgood_t 691 (by rfl) (by decide +kernel)
set_option maxRecDepth 100000 in
theorem ok_X9_runThrough : zOK mX9_runThrough 3 := ⟨kw_X9_runThrough, ii_X9, by decide +kernel, by decide +kernel, by decide +kernel⟩
set_option maxRecDepth 100000 in
theorem in_X9_runThrough : Cond.instanceMethod yX9_runThrough ∈ zgood := zgood_t 690 (by decide +kernel) (by decide +kernel)
set_option maxRecDepth 100000 in
theorem se_X9_runThrough : Cond.selects RX9 yX9_runThrough yX9_runThrough ∈ zgood := zgood_p 37 (by decide +kernel) (by decide +kernel)
set_option maxRecDepth 100000 in
theorem ml_X9_63 : zML RX9 63 yX9_drain := Or.inl (zgood_t 695 (by decide +kernel) (by decide +kernel))
set_option maxRecDepth 100000 in
theorem kw_X9_drain : Cond.code yX9_drain cX9_drain 2 none ∈ zgood := zgood_t 698 (by rfl) (by decide +kernel)
set_option maxRecDepth 100000 in
theorem ok_X9_drain : zOK mX9_drain 1 := ⟨kw_X9_drain, ii_X9, by decide +kernel, by decide +kernel, by decide +kernel⟩
set_option maxRecDepth 100000 in
theorem in_X9_drain : Cond.instanceMethod yX9_drain ∈ zgood := zgood_t 697 (by decide +kernel) (by decide +kernel)
set_option maxRecDepth 100000 in
theorem se_X9_drain : Cond.selects RX9 yX9_drain yX9_drain ∈ zgood := zgood_p 38 (by decide +kernel) (by decide +kernel)
set_option maxRecDepth 100000 in
theorem cw_X10_223 : Cond.constant RX10 223 (-2000001) ∈ zgood := zgood_t 528 (by decide +kernel) (by decide +kernel)
set_option maxRecDepth 100000 in
theorem cw_X10_224 : Cond.constant RX10 224 (-2000002) ∈ zgood := zgood_t 529 (by decide +kernel) (by decide +kernel)
set_option maxRecDepth 100000 in
theorem cw_X10_225 : Cond.constant RX10 225 (-2000006) ∈ zgood := zgood_t 530 (by decide +kernel) (by decide +kernel)
set_option maxRecDepth 100000 in
theorem cw_X11_234 : Cond.constant RX11 234 1000000 ∈ zgood := zgood_t 1183 (by decide +kernel) (by decide +kernel)
set_option maxRecDepth 100000 in
theorem cw_X11_237 : Cond.constant RX11 237 (-1000000) ∈ zgood := zgood_t 1185 (by decide +kernel) (by decide +kernel)
set_option maxRecDepth 100000 in
theorem cw_X11_249 : Cond.constant RX11 249 (-2000001) ∈ zgood := zgood_t 1171 (by decide +kernel) (by decide +kernel)
set_option maxRecDepth 100000 in
theorem cw_X11_250 : Cond.constant RX11 250 (-2000002) ∈ zgood := zgood_t 1172 (by decide +kernel) (by decide +kernel)
set_option maxRecDepth 100000 in
theorem cw_X11_251 : Cond.constant RX11 251 (-2000006) ∈ zgood := zgood_t 1173 (by decide +kernel) (by decide +kernel)
set_option maxRecDepth 100000 in
theorem cw_X11_80 : Cond.constant RX11 80 40960 ∈ zgood := zgood_t 894 (by decide +kernel) (by decide +kernel)
set_option maxRecDepth 100000 in
theorem cw_X6_93 : Cond.constant RX6 93 1000000000 ∈ zgood := zgood_t 766 (by decide +kernel) (by decide +kernel)
set_option maxRecDepth 100000 in
theorem cw_X11_138 : Cond.constantLong RX11 138 5 ∈ zgood := zgood_t 1065 (by decide +kernel) (by decide +kernel)
set_option maxRecDepth 100000 in
theorem cw_X11_148 : Cond.constantLong RX11 148 99 ∈ zgood := zgood_t 1072 (by decide +kernel) (by decide +kernel)
set_option maxRecDepth 100000 in
theorem cw_X11_158 : Cond.constantLong RX11 158 1000 ∈ zgood := zgood_t 1077 (by decide +kernel) (by decide +kernel)
set_option maxRecDepth 100000 in
theorem cw_X11_160 : Cond.constantLong RX11 160 200 ∈ zgood := zgood_t 1078 (by decide +kernel) (by decide +kernel)
set_option maxRecDepth 100000 in
theorem cw_X11_175 : Cond.constantLong RX11 175 10 ∈ zgood := zgood_t 1091 (by decide +kernel) (by decide +kernel)
set_option maxRecDepth 100000 in
theorem cw_X11_177 : Cond.constantLong RX11 177 12 ∈ zgood := zgood_t 1092 (by decide +kernel) (by decide +kernel)
set_option maxRecDepth 100000 in
theorem cw_X11_179 : Cond.constantLong RX11 179 14 ∈ zgood := zgood_t 1097 (by decide +kernel) (by decide +kernel)
set_option maxRecDepth 100000 in
theorem cw_X11_181 : Cond.constantLong RX11 181 70 ∈ zgood := zgood_t 1098 (by decide +kernel) (by decide +kernel)
set_option maxRecDepth 100000 in
theorem cw_X11_183 : Cond.constantLong RX11 183 2 ∈ zgood := zgood_t 1099 (by decide +kernel) (by decide +kernel)
set_option maxRecDepth 100000 in
theorem cw_X11_185 : Cond.constantLong RX11 185 50 ∈ zgood := zgood_t 1100 (by decide +kernel) (by decide +kernel)
set_option maxRecDepth 100000 in
theorem cw_X11_194 : Cond.constantLong RX11 194 9 ∈ zgood := zgood_t 1121 (by decide +kernel) (by decide +kernel)
set_option maxRecDepth 100000 in
theorem cw_X11_196 : Cond.constantLong RX11 196 6 ∈ zgood := zgood_t 1126 (by decide +kernel) (by decide +kernel)
set_option maxRecDepth 100000 in
theorem cw_X11_204 : Cond.constantLong RX11 204 33 ∈ zgood := zgood_t 1141 (by decide +kernel) (by decide +kernel)
set_option maxRecDepth 100000 in
theorem cw_X11_206 : Cond.constantLong RX11 206 126 ∈ zgood := zgood_t 1142 (by decide +kernel) (by decide +kernel)
set_option maxRecDepth 100000 in
theorem cw_X11_208 : Cond.constantLong RX11 208 48 ∈ zgood := zgood_t 1154 (by decide +kernel) (by decide +kernel)
set_option maxRecDepth 100000 in
theorem cw_X11_210 : Cond.constantLong RX11 210 57 ∈ zgood := zgood_t 1155 (by decide +kernel) (by decide +kernel)
set_option maxRecDepth 100000 in
theorem cw_X11_232 : Cond.constantLong RX11 232 1000000 ∈ zgood := zgood_t 1182 (by decide +kernel) (by decide +kernel)
set_option maxRecDepth 100000 in
theorem cw_X11_235 : Cond.constantLong RX11 235 (-1000000) ∈ zgood := zgood_t 1184 (by decide +kernel) (by decide +kernel)
set_option maxRecDepth 100000 in
theorem cw_X11_278 : Cond.constantLong RX11 278 (-4) ∈ zgood := zgood_t 1204 (by decide +kernel) (by decide +kernel)
set_option maxRecDepth 100000 in
theorem cw_X11_280 : Cond.constantLong RX11 280 (-1) ∈ zgood := zgood_t 1205 (by decide +kernel) (by decide +kernel)
set_option maxRecDepth 100000 in
theorem cw_X11_291 : Cond.constantLong RX11 291 100 ∈ zgood := zgood_t 1241 (by decide +kernel) (by decide +kernel)
set_option maxRecDepth 100000 in
theorem cw_X11_306 : Cond.constantLong RX11 306 240 ∈ zgood := zgood_t 1254 (by decide +kernel) (by decide +kernel)
set_option maxRecDepth 100000 in
theorem cw_X11_317 : Cond.constantLong RX11 317 4 ∈ zgood := zgood_t 1275 (by decide +kernel) (by decide +kernel)
set_option maxRecDepth 100000 in
theorem cw_X11_341 : Cond.constantLong RX11 341 100000 ∈ zgood := zgood_t 1320 (by decide +kernel) (by decide +kernel)
set_option maxRecDepth 100000 in
theorem cw_X11_364 : Cond.constantLong RX11 364 20 ∈ zgood := zgood_t 1364 (by decide +kernel) (by decide +kernel)
set_option maxRecDepth 100000 in
theorem cw_X11_366 : Cond.constantLong RX11 366 26 ∈ zgood := zgood_t 1365 (by decide +kernel) (by decide +kernel)
set_option maxRecDepth 100000 in
theorem cw_X2_37 : Cond.constantLong RX2 37 100000000000000000 ∈ zgood := zgood_t 604 (by decide +kernel) (by decide +kernel)
set_option maxRecDepth 100000 in
theorem cw_X2_47 : Cond.constantLong RX2 47 4000000000000000000 ∈ zgood := zgood_t 630 (by decide +kernel) (by decide +kernel)
set_option maxRecDepth 100000 in
theorem cw_X3_66 : Cond.constantLong RX3 66 (-1000000) ∈ zgood := zgood_t 568 (by decide +kernel) (by decide +kernel)
set_option maxRecDepth 100000 in
theorem cw_X3_68 : Cond.constantLong RX3 68 1000000 ∈ zgood := zgood_t 569 (by decide +kernel) (by decide +kernel)
set_option maxRecDepth 100000 in
theorem cw_X7_53 : Cond.constantLong RX7 53 10604499373 ∈ zgood := zgood_t 608 (by decide +kernel) (by decide +kernel)
set_option maxRecDepth 100000 in
theorem cw_X7_55 : Cond.constantLong RX7 55 13 ∈ zgood := zgood_t 609 (by decide +kernel) (by decide +kernel)
set_option maxRecDepth 100000 in
theorem cw_J6_265 : Cond.constant RJ6 265 1431655765 ∈ zgood := zgood_t 873 (by decide +kernel) (by decide +kernel)
set_option maxRecDepth 100000 in
theorem cw_J6_266 : Cond.constant RJ6 266 858993459 ∈ zgood := zgood_t 874 (by decide +kernel) (by decide +kernel)
set_option maxRecDepth 100000 in
theorem cw_J6_267 : Cond.constant RJ6 267 252645135 ∈ zgood := zgood_t 875 (by decide +kernel) (by decide +kernel)
set_option maxRecDepth 100000 in
theorem cw_X10_314 : Cond.constant RX10 314 100000 ∈ zgood := zgood_t 808 (by decide +kernel) (by decide +kernel)
set_option maxRecDepth 100000 in
theorem cw_X11_267 : Cond.constant RX11 267 1000000000 ∈ zgood := zgood_t 1223 (by decide +kernel) (by decide +kernel)
set_option maxRecDepth 100000 in
theorem cw_X11_268 : Cond.constant RX11 268 100000 ∈ zgood := zgood_t 1224 (by decide +kernel) (by decide +kernel)
set_option maxRecDepth 100000 in
theorem cw_X11_273 : Cond.constant RX11 273 10000000 ∈ zgood := zgood_t 1218 (by decide +kernel) (by decide +kernel)
set_option maxRecDepth 100000 in
theorem cl_X2_11 : Cond.classLink RX2 11 ("[" ++ (FieldType.array .long).toString) ∈ zgood := zgood_t 77 (by decide +kernel) (by decide +kernel)
set_option maxRecDepth 100000 in
theorem cl_X6_9 : Cond.classLink RX6 9 ("[" ++ (FieldType.array .int).toString) ∈ zgood := zgood_t 211 (by decide +kernel) (by decide +kernel)
set_option maxRecDepth 100000 in
theorem cl_L_10 : Cond.classLink RL 10 RX11 ∈ zgood := zgood_t 888 (by decide +kernel) (by decide +kernel)
set_option maxRecDepth 100000 in
theorem ni_X11 : Cond.instantiable RX11 54 ∈ zgood := zgood_t 889 (by decide +kernel) (by decide +kernel)
set_option maxRecDepth 100000 in
theorem cl_L_7 : Cond.classLink RL 7 RX10 ∈ zgood := zgood_t 16 (by decide +kernel) (by decide +kernel)
set_option maxRecDepth 100000 in
theorem ni_X10 : Cond.instantiable RX10 15 ∈ zgood := zgood_t 17 (by decide +kernel) (by decide +kernel)
set_option maxRecDepth 100000 in
theorem ni_X4 : Cond.instantiable RX4 8 ∈ zgood := zgood_t 342 (by decide +kernel) (by decide +kernel)
set_option maxRecDepth 100000 in
theorem ni_X1 : Cond.instantiable RX1 7 ∈ zgood := zgood_t 408 (by decide +kernel) (by decide +kernel)
set_option maxRecDepth 100000 in
theorem ni_X0 : Cond.instantiable RX0 3 ∈ zgood := zgood_t 809 (by decide +kernel) (by decide +kernel)
set_option maxRecDepth 100000 in
theorem ni_X8 : Cond.instantiable RX8 2 ∈ zgood := zgood_t 35 (by decide +kernel) (by decide +kernel)
set_option maxRecDepth 100000 in
theorem cl_X10_51 : Cond.classLink RX10 51 RX3 ∈ zgood := zgood_t 52 (by decide +kernel) (by decide +kernel)
set_option maxRecDepth 100000 in
theorem ni_X3 : Cond.instantiable RX3 2 ∈ zgood := zgood_t 53 (by decide +kernel) (by decide +kernel)
set_option maxRecDepth 100000 in
theorem cl_X10_58 : Cond.classLink RX10 58 RX7 ∈ zgood := zgood_t 65 (by decide +kernel) (by decide +kernel)
set_option maxRecDepth 100000 in
theorem ni_X7 : Cond.instantiable RX7 11 ∈ zgood := zgood_t 66 (by decide +kernel) (by decide +kernel)
set_option maxRecDepth 100000 in
theorem cl_X10_65 : Cond.classLink RX10 65 RX9 ∈ zgood := zgood_t 151 (by decide +kernel) (by decide +kernel)
set_option maxRecDepth 100000 in
theorem ni_X9 : Cond.instantiable RX9 13 ∈ zgood := zgood_t 152 (by decide +kernel) (by decide +kernel)
set_option maxRecDepth 100000 in
theorem cl_X10_75 : Cond.classLink RX10 75 RX6 ∈ zgood := zgood_t 205 (by decide +kernel) (by decide +kernel)
set_option maxRecDepth 100000 in
theorem ni_X6 : Cond.instantiable RX6 15 ∈ zgood := zgood_t 206 (by decide +kernel) (by decide +kernel)
set_option maxRecDepth 100000 in
theorem ni_X5 : Cond.instantiable RX5 2 ∈ zgood := zgood_t 262 (by decide +kernel) (by decide +kernel)
set_option maxRecDepth 100000 in
theorem cl_X7_24 : Cond.classLink RX7 24 RX2 ∈ zgood := zgood_t 71 (by decide +kernel) (by decide +kernel)
set_option maxRecDepth 100000 in
theorem ni_X2 : Cond.instantiable RX2 8 ∈ zgood := zgood_t 72 (by decide +kernel) (by decide +kernel)
set_option maxRecDepth 100000 in
theorem ac_20 : Cond.arrayClass (zat 20) ∈ zgood := zgood_t 50 (by decide +kernel) (by decide +kernel)
set_option maxRecDepth 100000 in
theorem ac_21 : Cond.arrayClass (zat 21) ∈ zgood := zgood_t 106 (by decide +kernel) (by decide +kernel)
set_option maxRecDepth 100000 in
theorem ac_22 : Cond.arrayClass (zat 22) ∈ zgood := zgood_t 105 (by decide +kernel) (by decide +kernel)
set_option maxRecDepth 100000 in
theorem fw_X0_13 : Cond.fieldLink RX0 13 (TX0 1).1 (TX0 1).2.1 (TX0 1).2.2.1 ∈ zgood := zgood_t 816 (by decide +kernel) (by decide +kernel)
set_option maxRecDepth 100000 in
theorem fl_X0_13 : zFL RX0 13 (RX0, TX0, 3) 1 := Or.inl fw_X0_13
set_option maxRecDepth 100000 in
theorem fw_X0_17 : Cond.fieldLink RX0 17 (TX0 2).1 (TX0 2).2.1 (TX0 2).2.2.1 ∈ zgood := zgood_t 818 (by decide +kernel) (by decide +kernel)
set_option maxRecDepth 100000 in
theorem fl_X0_17 : zFL RX0 17 (RX0, TX0, 3) 2 := Or.inl fw_X0_17
set_option maxRecDepth 100000 in
theorem fw_X0_7 : Cond.fieldLink RX0 7 (TX0 0).1 (TX0 0).2.1 (TX0 0).2.2.1 ∈ zgood := zgood_t 814 (by decide +kernel) (by decide +kernel)
set_option maxRecDepth 100000 in
theorem fl_X0_7 : zFL RX0 7 (RX0, TX0, 3) 0 := Or.inl fw_X0_7
set_option maxRecDepth 100000 in
theorem fw_X1_18 : Cond.fieldLink RX1 18 (TX1 1).1 (TX1 1).2.1 (TX1 1).2.2.1 ∈ zgood := zgood_t 416 (by decide +kernel) (by decide +kernel)
set_option maxRecDepth 100000 in
theorem fl_X1_18 : zFL RX1 18 (RX1, TX1, 7) 1 := Or.inl fw_X1_18
set_option maxRecDepth 100000 in
theorem fw_X1_24 : Cond.fieldLink RX1 24 (TX1 3).1 (TX1 3).2.1 (TX1 3).2.2.1 ∈ zgood := zgood_t 422 (by decide +kernel) (by decide +kernel)
set_option maxRecDepth 100000 in
theorem fl_X1_24 : zFL RX1 24 (RX1, TX1, 7) 3 := Or.inl fw_X1_24
set_option maxRecDepth 100000 in
theorem fw_X1_27 : Cond.fieldLink RX1 27 (TX1 4).1 (TX1 4).2.1 (TX1 4).2.2.1 ∈ zgood := zgood_t 424 (by decide +kernel) (by decide +kernel)
set_option maxRecDepth 100000 in
theorem fl_X1_27 : zFL RX1 27 (RX1, TX1, 7) 4 := Or.inl fw_X1_27
set_option maxRecDepth 100000 in
theorem fw_X1_30 : Cond.fieldLink RX1 30 (TX1 5).1 (TX1 5).2.1 (TX1 5).2.2.1 ∈ zgood := zgood_t 426 (by decide +kernel) (by decide +kernel)
set_option maxRecDepth 100000 in
theorem fl_X1_30 : zFL RX1 30 (RX1, TX1, 7) 5 := Or.inl fw_X1_30
set_option maxRecDepth 100000 in
theorem fw_X4_15 : Cond.fieldLink RX4 15 (TX4 5).1 (TX4 5).2.1 (TX4 5).2.2.1 ∈ zgood := zgood_t 359 (by decide +kernel) (by decide +kernel)
set_option maxRecDepth 100000 in
theorem fl_X4_15 : zFL RX4 15 (RX4, TX4, 8) 5 := Or.inl fw_X4_15
set_option maxRecDepth 100000 in
theorem fw_X4_19 : Cond.fieldLink RX4 19 (TX4 7).1 (TX4 7).2.1 (TX4 7).2.2.1 ∈ zgood := zgood_t 363 (by decide +kernel) (by decide +kernel)
set_option maxRecDepth 100000 in
theorem fl_X4_19 : zFL RX4 19 (RX4, TX4, 8) 7 := Or.inl fw_X4_19
set_option maxRecDepth 100000 in
theorem fw_X4_23 : Cond.fieldLink RX4 23 (TX4 0).1 (TX4 0).2.1 (TX4 0).2.2.1 ∈ zgood := zgood_t 347 (by decide +kernel) (by decide +kernel)
set_option maxRecDepth 100000 in
theorem fl_X4_23 : zFL RX4 23 (RX4, TX4, 8) 0 := Or.inl fw_X4_23
set_option maxRecDepth 100000 in
theorem fw_X4_27 : Cond.fieldLink RX4 27 (TX4 1).1 (TX4 1).2.1 (TX4 1).2.2.1 ∈ zgood := zgood_t 349 (by decide +kernel) (by decide +kernel)
set_option maxRecDepth 100000 in
theorem fl_X4_27 : zFL RX4 27 (RX4, TX4, 8) 1 := Or.inl fw_X4_27
set_option maxRecDepth 100000 in
theorem fw_X4_30 : Cond.fieldLink RX4 30 (TX4 2).1 (TX4 2).2.1 (TX4 2).2.2.1 ∈ zgood := zgood_t 352 (by decide +kernel) (by decide +kernel)
set_option maxRecDepth 100000 in
theorem fl_X4_30 : zFL RX4 30 (RX4, TX4, 8) 2 := Or.inl fw_X4_30
set_option maxRecDepth 100000 in
theorem fw_X4_33 : Cond.fieldLink RX4 33 (TX4 3).1 (TX4 3).2.1 (TX4 3).2.2.1 ∈ zgood := zgood_t 355 (by decide +kernel) (by decide +kernel)
set_option maxRecDepth 100000 in
theorem fl_X4_33 : zFL RX4 33 (RX4, TX4, 8) 3 := Or.inl fw_X4_33
set_option maxRecDepth 100000 in
theorem fw_X7_38 : Cond.fieldLink RX7 38 (TX7 7).1 (TX7 7).2.1 (TX7 7).2.2.1 ∈ zgood := zgood_t 120 (by decide +kernel) (by decide +kernel)
set_option maxRecDepth 100000 in
theorem fl_X7_38 : zFL RX7 38 (RX7, TX7, 11) 7 := Or.inl fw_X7_38
set_option maxRecDepth 100000 in
theorem fw_X7_64 : Cond.fieldLink RX7 64 (TX7 8).1 (TX7 8).2.1 (TX7 8).2.2.1 ∈ zgood := zgood_t 122 (by decide +kernel) (by decide +kernel)
set_option maxRecDepth 100000 in
theorem fl_X7_64 : zFL RX7 64 (RX7, TX7, 11) 8 := Or.inl fw_X7_64
set_option maxRecDepth 100000 in
theorem fw_X7_67 : Cond.fieldLink RX7 67 (TX7 9).1 (TX7 9).2.1 (TX7 9).2.2.1 ∈ zgood := zgood_t 124 (by decide +kernel) (by decide +kernel)
set_option maxRecDepth 100000 in
theorem fl_X7_67 : zFL RX7 67 (RX7, TX7, 11) 9 := Or.inl fw_X7_67
set_option maxRecDepth 100000 in
theorem fw_X7_70 : Cond.fieldLink RX7 70 (TX7 10).1 (TX7 10).2.1 (TX7 10).2.2.1 ∈ zgood := zgood_t 126 (by decide +kernel) (by decide +kernel)
set_option maxRecDepth 100000 in
theorem fl_X7_70 : zFL RX7 70 (RX7, TX7, 11) 10 := Or.inl fw_X7_70
