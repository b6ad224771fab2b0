/-! The methods: name, bytes, locals, answer, cells, slots, kind; what a call of each finds in the tables. Printed by wip/tools/tables.py. -/
def rm_M0 : rm_M := (⟨"", "", ""⟩, ⟨#[]⟩, 0, none, 0, 0, 99)
def mJ0_length_8abf5 : rm_M := (yJ0_length_8abf5, cJ0_length_8abf5, 1, (some .int), 0, 0, 99)
def mJ0_charAt_5068e : rm_M := (yJ0_charAt_5068e, cJ0_charAt_5068e, 2, (some .char), 0, 0, 99)
def mJ0_indexOf_0f7a4 : rm_M := (yJ0_indexOf_0f7a4, cJ0_indexOf_0f7a4, 2, (some .int), 0, 0, 99)
def mJ7_copyOf_59c91 : rm_M := (yJ7_copyOf_59c91, cJ7_copyOf_59c91, 3, (some (.array .int)), 1, 400, 99)
def mJ6_bitCount_0f7a4 : rm_M := (yJ6_bitCount_0f7a4, cJ6_bitCount_0f7a4, 1, (some .int), 0, 0, 99)
def mX11_init : rm_M := (yX11_init, cX11_init, 1, none, 152, 3810, 11)
def mX11_feed : rm_M := (yX11_feed, cX11_feed, 6, (some .int), 0, 0, 11)
def mX11_end : rm_M := (yX11_end, cX11_end, 2, (some .int), 0, 0, 11)
def mX11_realm : rm_M := (yX11_realm, cX11_realm, 2, (some .int), 5, 41, 11)
def mX11_rule : rm_M := (yX11_rule, cX11_rule, 2, (some .int), 2, 401, 11)
def mX11_force : rm_M := (yX11_force, cX11_force, 3, (some .int), 0, 0, 11)
def mX11_question : rm_M := (yX11_question, cX11_question, 4, (some .int), 0, 0, 11)
def mX11_day : rm_M := (yX11_day, cX11_day, 3, (some .int), 0, 0, 11)
def mX11_use : rm_M := (yX11_use, cX11_use, 3, (some .int), 0, 0, 11)
def mX11_egg : rm_M := (yX11_egg, cX11_egg, 2, (some .int), 0, 0, 11)
def mX11_tie : rm_M := (yX11_tie, cX11_tie, 3, (some .int), 0, 0, 11)
def mX11_grow : rm_M := (yX11_grow, cX11_grow, 4, (some .int), 0, 0, 11)
def mX11_undo : rm_M := (yX11_undo, cX11_undo, 1, (some .int), 0, 0, 11)
def mX11_ahead : rm_M := (yX11_ahead, cX11_ahead, 5, (some .int), 0, 0, 11)
def mX11_fate : rm_M := (yX11_fate, cX11_fate, 6, (some .int), 0, 0, 11)
def mX11_row : rm_M := (yX11_row, cX11_row, 3, (some .int), 0, 0, 11)
def mX11_bind : rm_M := (yX11_bind, cX11_bind, 10, (some .int), 0, 0, 11)
def mX11_rescue : rm_M := (yX11_rescue, cX11_rescue, 8, (some .int), 0, 0, 11)
def mX11_cover : rm_M := (yX11_cover, cX11_cover, 7, (some .int), 0, 0, 11)
def mX11_today : rm_M := (yX11_today, cX11_today, 3, (some .int), 0, 0, 11)
def mX11_waste : rm_M := (yX11_waste, cX11_waste, 7, (some .int), 0, 0, 11)
def mX11_blame : rm_M := (yX11_blame, cX11_blame, 10, (some .int), 0, 0, 11)
def mX11_woke : rm_M := (yX11_woke, cX11_woke, 6, (some .int), 0, 0, 11)
def mX11_note : rm_M := (yX11_note, cX11_note, 4, (some .int), 0, 0, 11)
def mX11_ruled : rm_M := (yX11_ruled, cX11_ruled, 4, (some .int), 0, 0, 11)
def mX11_look : rm_M := (yX11_look, cX11_look, 7, (some .int), 0, 0, 11)
def mX11_seed : rm_M := (yX11_seed, cX11_seed, 3, (some .int), 0, 0, 11)
def mX11_reigns : rm_M := (yX11_reigns, cX11_reigns, 10, (some .int), 0, 0, 11)
def mX11_count : rm_M := (yX11_count, cX11_count, 3, (some .int), 0, 0, 11)
def mX11_image : rm_M := (yX11_image, cX11_image, 2, (some .int), 74, 701, 11)
def mX11_back : rm_M := (yX11_back, cX11_back, 2, (some .int), 0, 0, 11)
def mX11_isWithin : rm_M := (yX11_isWithin, cX11_isWithin, 3, (some .boolean), 0, 0, 99)
def mX11_isTold : rm_M := (yX11_isTold, cX11_isTold, 1, (some .boolean), 0, 0, 11)
def mX11_isQuestion : rm_M := (yX11_isQuestion, cX11_isQuestion, 2, (some .boolean), 0, 0, 11)
def mX11_isRuleOrNone : rm_M := (yX11_isRuleOrNone, cX11_isRuleOrNone, 2, (some .boolean), 0, 0, 11)
def mX11_ruleInForce : rm_M := (yX11_ruleInForce, cX11_ruleInForce, 1, (some (.object "OneDecision$Rule")), 0, 0, 11)
def mX11_ruleOrNull : rm_M := (yX11_ruleOrNull, cX11_ruleOrNull, 2, (some (.object "OneDecision$Rule")), 0, 0, 11)
def mX11_balanceWithEgg : rm_M := (yX11_balanceWithEgg, cX11_balanceWithEgg, 3, (some .int), 0, 0, 11)
def mX11_rescuesAll : rm_M := (yX11_rescuesAll, cX11_rescuesAll, 5, (some .boolean), 0, 0, 11)
def mX11_fittingRules : rm_M := (yX11_fittingRules, cX11_fittingRules, 5, (some .int), 0, 0, 11)
def mX11_mostAlikeOn : rm_M := (yX11_mostAlikeOn, cX11_mostAlikeOn, 8, (some .int), 0, 0, 11)
def mX11_drawnBehind : rm_M := (yX11_drawnBehind, cX11_drawnBehind, 1, (some .int), 0, 0, 99)
def mX12_init : rm_M := (yX12_init, cX12_init, 1, none, 35, 10285, 12)
def mX12_in : rm_M := (yX12_in, cX12_in, 6, (some .boolean), 0, 0, 99)
def mX12_bits : rm_M := (yX12_bits, cX12_bits, 3, (some .int), 0, 0, 99)
def mX12_has : rm_M := (yX12_has, cX12_has, 2, (some .boolean), 0, 0, 99)
def mX12_isRealm : rm_M := (yX12_isRealm, cX12_isRealm, 1, (some .boolean), 0, 0, 12)
def mX12_isQuestion : rm_M := (yX12_isQuestion, cX12_isQuestion, 2, (some .boolean), 0, 0, 12)
def mX12_feed : rm_M := (yX12_feed, cX12_feed, 6, (some .int), 0, 0, 12)
def mX12_put : rm_M := (yX12_put, cX12_put, 3, none, 0, 0, 12)
def mX12_end : rm_M := (yX12_end, cX12_end, 2, (some .int), 0, 0, 12)
def mX12_wordOf : rm_M := (yX12_wordOf, cX12_wordOf, 1, (some (.object "java/lang/String")), 0, 0, 99)
def mX12_fails : rm_M := (yX12_fails, cX12_fails, 3, none, 0, 0, 12)
def mX12_sign : rm_M := (yX12_sign, cX12_sign, 1, (some .int), 0, 0, 12)
def mX12_blanks : rm_M := (yX12_blanks, cX12_blanks, 1, none, 0, 0, 12)
def mX12_isDigit : rm_M := (yX12_isDigit, cX12_isDigit, 1, (some .boolean), 0, 0, 12)
def mX12_stood : rm_M := (yX12_stood, cX12_stood, 5, (some .boolean), 0, 0, 12)
def mX12_takes : rm_M := (yX12_takes, cX12_takes, 3, (some .boolean), 0, 0, 12)
def mX12_entry : rm_M := (yX12_entry, cX12_entry, 3, none, 0, 0, 12)
def mX12_isCounted : rm_M := (yX12_isCounted, cX12_isCounted, 2, none, 0, 0, 12)
def mX12_digits : rm_M := (yX12_digits, cX12_digits, 4, (some .int), 0, 0, 12)
def mX12_value : rm_M := (yX12_value, cX12_value, 3, none, 0, 0, 12)
def mX12_term : rm_M := (yX12_term, cX12_term, 2, none, 0, 0, 12)
def mX12_sum : rm_M := (yX12_sum, cX12_sum, 2, none, 0, 0, 12)
def mX12_compared : rm_M := (yX12_compared, cX12_compared, 3, none, 0, 0, 12)
def mX12_top : rm_M := (yX12_top, cX12_top, 1, (some .int), 0, 0, 12)
def mX12_opens : rm_M := (yX12_opens, cX12_opens, 2, none, 0, 0, 12)
def mX12_answers : rm_M := (yX12_answers, cX12_answers, 2, none, 0, 0, 12)
def mX12_fact : rm_M := (yX12_fact, cX12_fact, 1, (some .boolean), 0, 0, 12)
def mX12_test : rm_M := (yX12_test, cX12_test, 5, none, 0, 0, 12)
def mX12_amount : rm_M := (yX12_amount, cX12_amount, 5, (some .int), 0, 0, 12)
def mX12_realmWord : rm_M := (yX12_realmWord, cX12_realmWord, 1, (some (.object "java/lang/String")), 0, 0, 99)
def mX12_alikePart : rm_M := (yX12_alikePart, cX12_alikePart, 4, none, 0, 0, 12)
def mX12_realmPart : rm_M := (yX12_realmPart, cX12_realmPart, 3, none, 0, 0, 12)
def mX12_isFull : rm_M := (yX12_isFull, cX12_isFull, 3, (some .boolean), 0, 0, 12)
def mX12_realmClause : rm_M := (yX12_realmClause, cX12_realmClause, 4, none, 0, 0, 12)
def mX12_copies : rm_M := (yX12_copies, cX12_copies, 3, none, 0, 0, 99)
def mX12_goesOn : rm_M := (yX12_goesOn, cX12_goesOn, 2, (some .boolean), 0, 0, 12)
def mX12_starts : rm_M := (yX12_starts, cX12_starts, 1, none, 0, 0, 12)
def mX12_readsAll : rm_M := (yX12_readsAll, cX12_readsAll, 3, none, 0, 0, 12)
def mX12_begins : rm_M := (yX12_begins, cX12_begins, 2, none, 0, 0, 12)
def mX12_realm : rm_M := (yX12_realm, cX12_realm, 2, (some .int), 0, 0, 12)
def mX12_ruleClause : rm_M := (yX12_ruleClause, cX12_ruleClause, 4, none, 0, 0, 12)
def mX12_rule : rm_M := (yX12_rule, cX12_rule, 3, (some .int), 0, 0, 12)
def mX12_force : rm_M := (yX12_force, cX12_force, 3, (some .int), 0, 0, 12)
def mX12_wanted : rm_M := (yX12_wanted, cX12_wanted, 3, (some .long), 0, 0, 12)
def mX12_truth : rm_M := (yX12_truth, cX12_truth, 1, (some .long), 0, 0, 99)
def mX12_both : rm_M := (yX12_both, cX12_both, 5, (some .long), 0, 0, 99)
def mX12_answer : rm_M := (yX12_answer, cX12_answer, 8, (some .long), 0, 0, 12)
def mX12_isOpen : rm_M := (yX12_isOpen, cX12_isOpen, 2, (some .boolean), 0, 0, 12)
def mX12_openOnes : rm_M := (yX12_openOnes, cX12_openOnes, 3, (some .int), 0, 0, 12)
def mX12_inBundle : rm_M := (yX12_inBundle, cX12_inBundle, 2, (some .int), 0, 0, 12)
def mX12_brings : rm_M := (yX12_brings, cX12_brings, 4, (some .int), 0, 0, 12)
def mX12_question : rm_M := (yX12_question, cX12_question, 3, (some .int), 0, 0, 12)
def mX12_upTo : rm_M := (yX12_upTo, cX12_upTo, 2, (some .int), 0, 0, 99)
def mX12_answered : rm_M := (yX12_answered, cX12_answered, 4, (some .int), 0, 0, 12)
def mX12_sumOf : rm_M := (yX12_sumOf, cX12_sumOf, 4, (some .long), 0, 0, 12)
def mX12_choice : rm_M := (yX12_choice, cX12_choice, 7, (some .int), 0, 0, 12)
def mX12_isWaste : rm_M := (yX12_isWaste, cX12_isWaste, 1, (some .boolean), 0, 0, 12)
def mX12_goesWith : rm_M := (yX12_goesWith, cX12_goesWith, 3, none, 0, 0, 12)
def mX12_goes : rm_M := (yX12_goes, cX12_goes, 2, (some .int), 0, 0, 12)
def mX12_goFor : rm_M := (yX12_goFor, cX12_goFor, 3, none, 0, 0, 12)
def mX12_moves : rm_M := (yX12_moves, cX12_moves, 3, (some .int), 0, 0, 12)
def mX12_movesRow : rm_M := (yX12_movesRow, cX12_movesRow, 3, none, 0, 0, 12)
def mX12_movesAll : rm_M := (yX12_movesAll, cX12_movesAll, 4, none, 0, 0, 12)
def mX12_keepsAct : rm_M := (yX12_keepsAct, cX12_keepsAct, 2, none, 0, 0, 12)
def mX12_undo : rm_M := (yX12_undo, cX12_undo, 1, (some .int), 0, 0, 12)
def mX12_day : rm_M := (yX12_day, cX12_day, 1, (some .int), 0, 0, 12)
def mX12_use : rm_M := (yX12_use, cX12_use, 2, (some .int), 0, 0, 12)
def mX12_egg : rm_M := (yX12_egg, cX12_egg, 1, (some .int), 0, 0, 12)
def mX12_ties : rm_M := (yX12_ties, cX12_ties, 3, none, 0, 0, 12)
def mX12_tie : rm_M := (yX12_tie, cX12_tie, 3, (some .int), 0, 0, 12)
def mX12_grow : rm_M := (yX12_grow, cX12_grow, 3, (some .int), 0, 0, 12)
def mX12_keepsAll : rm_M := (yX12_keepsAll, cX12_keepsAll, 1, none, 0, 0, 12)
def mX12_laysBack : rm_M := (yX12_laysBack, cX12_laysBack, 1, none, 0, 0, 12)
def mX12_net : rm_M := (yX12_net, cX12_net, 1, (some .int), 0, 0, 12)
def mX12_netIn : rm_M := (yX12_netIn, cX12_netIn, 3, (some .int), 0, 0, 12)
def mX12_ahead : rm_M := (yX12_ahead, cX12_ahead, 5, (some .int), 0, 0, 12)
def mX12_fate : rm_M := (yX12_fate, cX12_fate, 6, (some .int), 0, 0, 12)
def mX12_goesRow : rm_M := (yX12_goesRow, cX12_goesRow, 7, (some .boolean), 0, 0, 12)
def mX12_row : rm_M := (yX12_row, cX12_row, 7, (some .int), 0, 0, 12)
def mX12_bind : rm_M := (yX12_bind, cX12_bind, 10, (some .int), 0, 0, 12)
def mX12_isRescued : rm_M := (yX12_isRescued, cX12_isRescued, 6, (some .boolean), 0, 0, 12)
def mX12_rescue : rm_M := (yX12_rescue, cX12_rescue, 6, (some .int), 0, 0, 12)
def mX12_isCovered : rm_M := (yX12_isCovered, cX12_isCovered, 3, (some .boolean), 0, 0, 12)
def mX12_cover : rm_M := (yX12_cover, cX12_cover, 5, (some .int), 0, 0, 12)
def mX12_today : rm_M := (yX12_today, cX12_today, 3, (some .int), 0, 0, 12)
def mX12_waste : rm_M := (yX12_waste, cX12_waste, 8, (some .int), 0, 0, 12)
def mX12_blame : rm_M := (yX12_blame, cX12_blame, 11, (some .int), 0, 0, 12)
def mX12_triesWoke : rm_M := (yX12_triesWoke, cX12_triesWoke, 6, none, 0, 0, 12)
def mX12_woke : rm_M := (yX12_woke, cX12_woke, 6, (some .int), 0, 0, 12)
def mX12_note : rm_M := (yX12_note, cX12_note, 4, (some .int), 0, 0, 12)
def mX12_couldRule : rm_M := (yX12_couldRule, cX12_couldRule, 3, (some .boolean), 0, 0, 12)
def mX12_ruled : rm_M := (yX12_ruled, cX12_ruled, 5, (some .int), 0, 0, 12)
def mX12_mostAlike : rm_M := (yX12_mostAlike, cX12_mostAlike, 7, (some .int), 0, 0, 12)
def mX12_look : rm_M := (yX12_look, cX12_look, 5, (some .int), 0, 0, 12)
def mX12_seed : rm_M := (yX12_seed, cX12_seed, 3, (some .int), 0, 0, 12)
def mX12_draws : rm_M := (yX12_draws, cX12_draws, 2, (some .int), 0, 0, 12)
def mX12_reigns : rm_M := (yX12_reigns, cX12_reigns, 12, (some .int), 0, 0, 12)
def mX12_count : rm_M := (yX12_count, cX12_count, 2, (some .int), 0, 0, 12)
def mX12_carryRow : rm_M := (yX12_carryRow, cX12_carryRow, 3, none, 0, 0, 12)
def mX12_carriesAll : rm_M := (yX12_carriesAll, cX12_carriesAll, 3, none, 0, 0, 12)
def mX12_image : rm_M := (yX12_image, cX12_image, 2, (some .int), 0, 0, 12)
def mX12_back : rm_M := (yX12_back, cX12_back, 2, (some .int), 0, 0, 12)
def mX0_init : rm_M := (yX0_init, cX0_init, 2, none, 73, 696, 0)
def mX0_begin : rm_M := (yX0_begin, cX0_begin, 2, none, 0, 0, 0)
def mX0_copyFrom : rm_M := (yX0_copyFrom, cX0_copyFrom, 2, none, 0, 0, 0)
def mX1_init : rm_M := (yX1_init, cX1_init, 1, none, 2, 20, 1)
def mX1_isFull : rm_M := (yX1_isFull, cX1_isFull, 1, (some .boolean), 0, 0, 1)
def mX1_add : rm_M := (yX1_add, cX1_add, 3, none, 0, 0, 1)
def mX1_areSo : rm_M := (yX1_areSo, cX1_areSo, 5, (some .boolean), 0, 0, 1)
def mX1_copyFrom : rm_M := (yX1_copyFrom, cX1_copyFrom, 2, none, 0, 0, 1)
def mX2_init : rm_M := (yX2_init, cX2_init, 3, none, 61, 600, 2)
def mX2_push : rm_M := (yX2_push, cX2_push, 2, none, 0, 0, 2)
def mX2_pop : rm_M := (yX2_pop, cX2_pop, 2, none, 0, 0, 2)
def mX2_copyFrom : rm_M := (yX2_copyFrom, cX2_copyFrom, 3, none, 0, 0, 2)
def mX2_placeOf : rm_M := (yX2_placeOf, cX2_placeOf, 2, (some .int), 0, 0, 2)
def mX3_init : rm_M := (yX3_init, cX3_init, 1, none, 4, 32, 3)
def mX3_has : rm_M := (yX3_has, cX3_has, 2, (some .boolean), 0, 0, 3)
def mX3_readFrom : rm_M := (yX3_readFrom, cX3_readFrom, 4, none, 0, 0, 3)
def mX3_readClause : rm_M := (yX3_readClause, cX3_readClause, 5, none, 0, 0, 3)
def mX3_readQuestion : rm_M := (yX3_readQuestion, cX3_readQuestion, 2, none, 0, 0, 3)
def mX3_readAlike : rm_M := (yX3_readAlike, cX3_readAlike, 4, none, 0, 0, 3)
def mX4_init : rm_M := (yX4_init, cX4_init, 3, none, 23, 199, 4)
def mX4_find : rm_M := (yX4_find, cX4_find, 3, none, 0, 0, 4)
def mX4_tryFrom : rm_M := (yX4_tryFrom, cX4_tryFrom, 7, none, 0, 0, 4)
def mX4_keepIfBetter : rm_M := (yX4_keepIfBetter, cX4_keepIfBetter, 2, none, 0, 0, 4)
def mX5_init : rm_M := (yX5_init, cX5_init, 2, none, 0, 0, 5)
def mX5_sumFor : rm_M := (yX5_sumFor, cX5_sumFor, 8, (some .long), 0, 0, 5)
def mX5_joined : rm_M := (yX5_joined, cX5_joined, 5, (some .long), 0, 0, 99)
def mX5_isSo : rm_M := (yX5_isSo, cX5_isSo, 5, (some .boolean), 0, 0, 99)
def mX6_init : rm_M := (yX6_init, cX6_init, 1, none, 1, 400, 6)
def mX6_read : rm_M := (yX6_read, cX6_read, 5, (some (.object "OneDecision$Rule")), 2, 401, 6)
def mX6_readTest : rm_M := (yX6_readTest, cX6_readTest, 6, none, 0, 0, 6)
def mX6_readFact : rm_M := (yX6_readFact, cX6_readFact, 5, none, 0, 0, 6)
def mX6_readSign : rm_M := (yX6_readSign, cX6_readSign, 3, (some .int), 0, 0, 6)
def mX6_readSum : rm_M := (yX6_readSum, cX6_readSum, 6, none, 0, 0, 6)
def mX6_readValue : rm_M := (yX6_readValue, cX6_readValue, 3, none, 0, 0, 6)
def mX6_addToken : rm_M := (yX6_addToken, cX6_addToken, 2, none, 0, 0, 6)
def mX6_add : rm_M := (yX6_add, cX6_add, 2, none, 0, 0, 6)
def mX7_init : rm_M := (yX7_init, cX7_init, 2, none, 2, 16, 7)
def mX7_beginIn : rm_M := (yX7_beginIn, cX7_beginIn, 2, none, 0, 0, 7)
def mX7_copyFrom : rm_M := (yX7_copyFrom, cX7_copyFrom, 2, none, 0, 0, 7)
def mX7_balance : rm_M := (yX7_balance, cX7_balance, 1, (some .int), 0, 0, 7)
def mX7_becameOf : rm_M := (yX7_becameOf, cX7_becameOf, 2, (some .int), 0, 0, 7)
def mX7_isLost : rm_M := (yX7_isLost, cX7_isLost, 2, (some .boolean), 0, 0, 7)
def mX7_isAllSettled : rm_M := (yX7_isAllSettled, cX7_isAllSettled, 1, (some .boolean), 0, 0, 7)
def mX7_isOpen : rm_M := (yX7_isOpen, cX7_isOpen, 2, (some .boolean), 0, 0, 7)
def mX7_openSet : rm_M := (yX7_openSet, cX7_openSet, 4, (some .int), 0, 0, 7)
def mX7_areAlike : rm_M := (yX7_areAlike, cX7_areAlike, 3, (some .boolean), 0, 0, 7)
def mX7_tieOrCut : rm_M := (yX7_tieOrCut, cX7_tieOrCut, 3, none, 0, 0, 7)
def mX7_brings : rm_M := (yX7_brings, cX7_brings, 6, (some .int), 0, 0, 7)
def mX7_answer : rm_M := (yX7_answer, cX7_answer, 4, (some .int), 0, 0, 7)
def mX7_covers : rm_M := (yX7_covers, cX7_covers, 5, (some .boolean), 0, 0, 7)
def mX7_wakesByHimself : rm_M := (yX7_wakesByHimself, cX7_wakesByHimself, 1, (some .boolean), 0, 0, 7)
def mX7_isDayWasted : rm_M := (yX7_isDayWasted, cX7_isDayWasted, 1, (some .boolean), 0, 0, 7)
def mX7_decide : rm_M := (yX7_decide, cX7_decide, 2, none, 0, 0, 7)
def mX7_endDay : rm_M := (yX7_endDay, cX7_endDay, 3, none, 0, 0, 7)
def mX7_lostWeight : rm_M := (yX7_lostWeight, cX7_lostWeight, 3, (some .int), 0, 0, 7)
def mX7_weight : rm_M := (yX7_weight, cX7_weight, 2, (some .int), 0, 0, 7)
def mX8_init : rm_M := (yX8_init, cX8_init, 1, none, 4, 1603, 8)
def mX8_add : rm_M := (yX8_add, cX8_add, 3, none, 0, 0, 8)
def mX8_split : rm_M := (yX8_split, cX8_split, 3, none, 0, 0, 8)
def mX8_token : rm_M := (yX8_token, cX8_token, 1, (some .int), 0, 0, 8)
def mX8_value : rm_M := (yX8_value, cX8_value, 1, (some .int), 0, 0, 8)
def mX8_step : rm_M := (yX8_step, cX8_step, 1, none, 0, 0, 8)
def mX8_fail : rm_M := (yX8_fail, cX8_fail, 2, none, 0, 0, 8)
def mX8_number : rm_M := (yX8_number, cX8_number, 5, (some .int), 0, 0, 8)
def mX8_goesOn : rm_M := (yX8_goesOn, cX8_goesOn, 1, (some .boolean), 0, 0, 8)
def mX8_splitAt : rm_M := (yX8_splitAt, cX8_splitAt, 3, (some .int), 0, 0, 8)
def mX8_splitNumber : rm_M := (yX8_splitNumber, cX8_splitNumber, 4, (some .int), 0, 0, 8)
def mX8_splitWord : rm_M := (yX8_splitWord, cX8_splitWord, 3, (some .int), 0, 0, 8)
def mX8_splitSign : rm_M := (yX8_splitSign, cX8_splitSign, 3, (some .int), 0, 0, 8)
def mX8_put : rm_M := (yX8_put, cX8_put, 4, none, 0, 0, 8)
def mX8_wordOf : rm_M := (yX8_wordOf, cX8_wordOf, 6, (some .int), 0, 0, 8)
def mX8_isSame : rm_M := (yX8_isSame, cX8_isSame, 5, (some .boolean), 0, 0, 8)
def mX8_byteAt : rm_M := (yX8_byteAt, cX8_byteAt, 2, (some .int), 0, 0, 8)
def mX8_isDigit : rm_M := (yX8_isDigit, cX8_isDigit, 1, (some .boolean), 0, 0, 99)
def mX8_isLetter : rm_M := (yX8_isLetter, cX8_isLetter, 1, (some .boolean), 0, 0, 99)
def mX9_init : rm_M := (yX9_init, cX9_init, 1, none, 9, 134, 9)
def mX9_start : rm_M := (yX9_start, cX9_start, 3, none, 0, 0, 9)
def mX9_startAnew : rm_M := (yX9_startAnew, cX9_startAnew, 3, none, 0, 0, 9)
def mX9_passDay : rm_M := (yX9_passDay, cX9_passDay, 2, (some .int), 0, 0, 9)
def mX9_passDays : rm_M := (yX9_passDays, cX9_passDays, 3, none, 0, 0, 9)
def mX9_balanceBehind : rm_M := (yX9_balanceBehind, cX9_balanceBehind, 3, (some .int), 0, 0, 9)
def mX9_valueOf : rm_M := (yX9_valueOf, cX9_valueOf, 3, (some .long), 0, 0, 9)
def mX9_mostUrgent : rm_M := (yX9_mostUrgent, cX9_mostUrgent, 4, (some .int), 0, 0, 9)
def mX9_mostAsked : rm_M := (yX9_mostAsked, cX9_mostAsked, 7, (some .int), 0, 0, 9)
def mX10_init : rm_M := (yX10_init, cX10_init, 3, none, 33, 311, 10)
def mX10_find : rm_M := (yX10_find, cX10_find, 4, none, 0, 0, 10)
def mX10_tryFrom : rm_M := (yX10_tryFrom, cX10_tryFrom, 9, none, 0, 0, 10)
def mX10_keep : rm_M := (yX10_keep, cX10_keep, 3, none, 0, 0, 10)
set_option maxRecDepth 100000 in
theorem cw_J0_length_8abf5 : rm_cwd mJ0_length_8abf5 0 := ⟨List.mem_filter.mpr ⟨List.mem_of_getElem? (i := 534) rfl, rfl⟩, rm_wd_in (i := 109) (by decide +kernel), ⟨by decide, by decide, by decide +kernel⟩, by decide⟩
set_option maxRecDepth 100000 in
theorem cw_J0_charAt_5068e : rm_cwd mJ0_charAt_5068e 1 := ⟨List.mem_filter.mpr ⟨List.mem_of_getElem? (i := 544) rfl, rfl⟩, rm_wd_in (i := 109) (by decide +kernel), ⟨by decide, by decide, by decide +kernel⟩, by decide⟩
set_option maxRecDepth 100000 in
theorem cw_J0_indexOf_0f7a4 : rm_cwd mJ0_indexOf_0f7a4 1 := ⟨List.mem_filter.mpr ⟨List.mem_of_getElem? (i := 591) rfl, rfl⟩, rm_wd_in (i := 109) (by decide +kernel), ⟨by decide, by decide, by decide +kernel⟩, by decide⟩
set_option maxRecDepth 100000 in
theorem cw_J7_copyOf_59c91 : rm_cwd mJ7_copyOf_59c91 2 := ⟨List.mem_filter.mpr ⟨List.mem_of_getElem? (i := 750) rfl, rfl⟩, rm_wd_in (i := 117) (by decide +kernel), ⟨by decide, by decide, by decide +kernel⟩, by decide⟩
set_option maxRecDepth 100000 in
theorem cw_J6_bitCount_0f7a4 : rm_cwd mJ6_bitCount_0f7a4 1 := ⟨List.mem_filter.mpr ⟨List.mem_of_getElem? (i := 867) rfl, rfl⟩, rm_wd_in (i := 118) (by decide +kernel), ⟨by decide, by decide, by decide +kernel⟩, by decide⟩
set_option maxRecDepth 100000 in
theorem cw_X11_init : rm_cwd mX11_init 0 := ⟨List.mem_filter.mpr ⟨List.mem_of_getElem? (i := 123) rfl, rfl⟩, rm_wd_in (i := 97) (by decide +kernel), ⟨by decide, by decide, by decide +kernel⟩, by decide⟩
set_option maxRecDepth 100000 in
theorem cw_X11_feed : rm_cwd mX11_feed 5 := ⟨List.mem_filter.mpr ⟨List.mem_of_getElem? (i := 483) rfl, rfl⟩, rm_wd_in (i := 97) (by decide +kernel), ⟨by decide, by decide, by decide +kernel⟩, by decide⟩
set_option maxRecDepth 100000 in
theorem cw_X11_end : rm_cwd mX11_end 1 := ⟨List.mem_filter.mpr ⟨List.mem_of_getElem? (i := 491) rfl, rfl⟩, rm_wd_in (i := 97) (by decide +kernel), ⟨by decide, by decide, by decide +kernel⟩, by decide⟩
set_option maxRecDepth 100000 in
theorem cw_X11_realm : rm_cwd mX11_realm 0 := ⟨List.mem_filter.mpr ⟨List.mem_of_getElem? (i := 495) rfl, rfl⟩, rm_wd_in (i := 97) (by decide +kernel), ⟨by decide, by decide, by decide +kernel⟩, by decide⟩
set_option maxRecDepth 100000 in
theorem cw_X11_rule : rm_cwd mX11_rule 0 := ⟨List.mem_filter.mpr ⟨List.mem_of_getElem? (i := 705) rfl, rfl⟩, rm_wd_in (i := 97) (by decide +kernel), ⟨by decide, by decide, by decide +kernel⟩, by decide⟩
set_option maxRecDepth 100000 in
theorem cw_X11_force : rm_cwd mX11_force 1 := ⟨List.mem_filter.mpr ⟨List.mem_of_getElem? (i := 771) rfl, rfl⟩, rm_wd_in (i := 97) (by decide +kernel), ⟨by decide, by decide, by decide +kernel⟩, by decide⟩
set_option maxRecDepth 100000 in
theorem cw_X11_question : rm_cwd mX11_question 2 := ⟨List.mem_filter.mpr ⟨List.mem_of_getElem? (i := 779) rfl, rfl⟩, rm_wd_in (i := 97) (by decide +kernel), ⟨by decide, by decide, by decide +kernel⟩, by decide⟩
set_option maxRecDepth 100000 in
theorem cw_X11_day : rm_cwd mX11_day 0 := ⟨List.mem_filter.mpr ⟨List.mem_of_getElem? (i := 810) rfl, rfl⟩, rm_wd_in (i := 97) (by decide +kernel), ⟨by decide, by decide, by decide +kernel⟩, by decide⟩
set_option maxRecDepth 100000 in
theorem cw_X11_use : rm_cwd mX11_use 1 := ⟨List.mem_filter.mpr ⟨List.mem_of_getElem? (i := 897) rfl, rfl⟩, rm_wd_in (i := 97) (by decide +kernel), ⟨by decide, by decide, by decide +kernel⟩, by decide⟩
set_option maxRecDepth 100000 in
theorem cw_X11_egg : rm_cwd mX11_egg 0 := ⟨List.mem_filter.mpr ⟨List.mem_of_getElem? (i := 902) rfl, rfl⟩, rm_wd_in (i := 97) (by decide +kernel), ⟨by decide, by decide, by decide +kernel⟩, by decide⟩
set_option maxRecDepth 100000 in
theorem cw_X11_tie : rm_cwd mX11_tie 2 := ⟨List.mem_filter.mpr ⟨List.mem_of_getElem? (i := 906) rfl, rfl⟩, rm_wd_in (i := 97) (by decide +kernel), ⟨by decide, by decide, by decide +kernel⟩, by decide⟩
set_option maxRecDepth 100000 in
theorem cw_X11_grow : rm_cwd mX11_grow 2 := ⟨List.mem_filter.mpr ⟨List.mem_of_getElem? (i := 918) rfl, rfl⟩, rm_wd_in (i := 97) (by decide +kernel), ⟨by decide, by decide, by decide +kernel⟩, by decide⟩
set_option maxRecDepth 100000 in
theorem cw_X11_undo : rm_cwd mX11_undo 0 := ⟨List.mem_filter.mpr ⟨List.mem_of_getElem? (i := 923) rfl, rfl⟩, rm_wd_in (i := 97) (by decide +kernel), ⟨by decide, by decide, by decide +kernel⟩, by decide⟩
set_option maxRecDepth 100000 in
theorem cw_X11_ahead : rm_cwd mX11_ahead 3 := ⟨List.mem_filter.mpr ⟨List.mem_of_getElem? (i := 931) rfl, rfl⟩, rm_wd_in (i := 97) (by decide +kernel), ⟨by decide, by decide, by decide +kernel⟩, by decide⟩
set_option maxRecDepth 100000 in
theorem cw_X11_fate : rm_cwd mX11_fate 2 := ⟨List.mem_filter.mpr ⟨List.mem_of_getElem? (i := 947) rfl, rfl⟩, rm_wd_in (i := 97) (by decide +kernel), ⟨by decide, by decide, by decide +kernel⟩, by decide⟩
set_option maxRecDepth 100000 in
theorem cw_X11_row : rm_cwd mX11_row 2 := ⟨List.mem_filter.mpr ⟨List.mem_of_getElem? (i := 951) rfl, rfl⟩, rm_wd_in (i := 97) (by decide +kernel), ⟨by decide, by decide, by decide +kernel⟩, by decide⟩
set_option maxRecDepth 100000 in
theorem cw_X11_bind : rm_cwd mX11_bind 2 := ⟨List.mem_filter.mpr ⟨List.mem_of_getElem? (i := 979) rfl, rfl⟩, rm_wd_in (i := 97) (by decide +kernel), ⟨by decide, by decide, by decide +kernel⟩, by decide⟩
set_option maxRecDepth 100000 in
theorem cw_X11_rescue : rm_cwd mX11_rescue 2 := ⟨List.mem_filter.mpr ⟨List.mem_of_getElem? (i := 992) rfl, rfl⟩, rm_wd_in (i := 97) (by decide +kernel), ⟨by decide, by decide, by decide +kernel⟩, by decide⟩
set_option maxRecDepth 100000 in
theorem cw_X11_cover : rm_cwd mX11_cover 1 := ⟨List.mem_filter.mpr ⟨List.mem_of_getElem? (i := 1001) rfl, rfl⟩, rm_wd_in (i := 97) (by decide +kernel), ⟨by decide, by decide, by decide +kernel⟩, by decide⟩
set_option maxRecDepth 100000 in
theorem cw_X11_today : rm_cwd mX11_today 1 := ⟨List.mem_filter.mpr ⟨List.mem_of_getElem? (i := 1009) rfl, rfl⟩, rm_wd_in (i := 97) (by decide +kernel), ⟨by decide, by decide, by decide +kernel⟩, by decide⟩
set_option maxRecDepth 100000 in
theorem cw_X11_waste : rm_cwd mX11_waste 2 := ⟨List.mem_filter.mpr ⟨List.mem_of_getElem? (i := 1017) rfl, rfl⟩, rm_wd_in (i := 97) (by decide +kernel), ⟨by decide, by decide, by decide +kernel⟩, by decide⟩
set_option maxRecDepth 100000 in
theorem cw_X11_blame : rm_cwd mX11_blame 2 := ⟨List.mem_filter.mpr ⟨List.mem_of_getElem? (i := 1021) rfl, rfl⟩, rm_wd_in (i := 97) (by decide +kernel), ⟨by decide, by decide, by decide +kernel⟩, by decide⟩
set_option maxRecDepth 100000 in
theorem cw_X11_woke : rm_cwd mX11_woke 4 := ⟨List.mem_filter.mpr ⟨List.mem_of_getElem? (i := 1035) rfl, rfl⟩, rm_wd_in (i := 97) (by decide +kernel), ⟨by decide, by decide, by decide +kernel⟩, by decide⟩
set_option maxRecDepth 100000 in
theorem cw_X11_note : rm_cwd mX11_note 2 := ⟨List.mem_filter.mpr ⟨List.mem_of_getElem? (i := 1062) rfl, rfl⟩, rm_wd_in (i := 97) (by decide +kernel), ⟨by decide, by decide, by decide +kernel⟩, by decide⟩
set_option maxRecDepth 100000 in
theorem cw_X11_ruled : rm_cwd mX11_ruled 1 := ⟨List.mem_filter.mpr ⟨List.mem_of_getElem? (i := 1074) rfl, rfl⟩, rm_wd_in (i := 97) (by decide +kernel), ⟨by decide, by decide, by decide +kernel⟩, by decide⟩
set_option maxRecDepth 100000 in
theorem cw_X11_look : rm_cwd mX11_look 1 := ⟨List.mem_filter.mpr ⟨List.mem_of_getElem? (i := 1086) rfl, rfl⟩, rm_wd_in (i := 97) (by decide +kernel), ⟨by decide, by decide, by decide +kernel⟩, by decide⟩
set_option maxRecDepth 100000 in
theorem cw_X11_seed : rm_cwd mX11_seed 1 := ⟨List.mem_filter.mpr ⟨List.mem_of_getElem? (i := 1095) rfl, rfl⟩, rm_wd_in (i := 97) (by decide +kernel), ⟨by decide, by decide, by decide +kernel⟩, by decide⟩
set_option maxRecDepth 100000 in
theorem cw_X11_reigns : rm_cwd mX11_reigns 4 := ⟨List.mem_filter.mpr ⟨List.mem_of_getElem? (i := 1099) rfl, rfl⟩, rm_wd_in (i := 97) (by decide +kernel), ⟨by decide, by decide, by decide +kernel⟩, by decide⟩
set_option maxRecDepth 100000 in
theorem cw_X11_count : rm_cwd mX11_count 1 := ⟨List.mem_filter.mpr ⟨List.mem_of_getElem? (i := 1110) rfl, rfl⟩, rm_wd_in (i := 97) (by decide +kernel), ⟨by decide, by decide, by decide +kernel⟩, by decide⟩
set_option maxRecDepth 100000 in
theorem cw_X11_image : rm_cwd mX11_image 1 := ⟨List.mem_filter.mpr ⟨List.mem_of_getElem? (i := 1115) rfl, rfl⟩, rm_wd_in (i := 97) (by decide +kernel), ⟨by decide, by decide, by decide +kernel⟩, by decide⟩
set_option maxRecDepth 100000 in
theorem cw_X11_back : rm_cwd mX11_back 1 := ⟨List.mem_filter.mpr ⟨List.mem_of_getElem? (i := 1133) rfl, rfl⟩, rm_wd_in (i := 97) (by decide +kernel), ⟨by decide, by decide, by decide +kernel⟩, by decide⟩
set_option maxRecDepth 100000 in
theorem cw_X11_isWithin : rm_cwd mX11_isWithin 3 := ⟨List.mem_filter.mpr ⟨List.mem_of_getElem? (i := 938) rfl, rfl⟩, rm_wd_in (i := 97) (by decide +kernel), ⟨by decide, by decide, by decide +kernel⟩, by decide⟩
set_option maxRecDepth 100000 in
theorem cw_X11_isTold : rm_cwd mX11_isTold 0 := ⟨List.mem_filter.mpr ⟨List.mem_of_getElem? (i := 935) rfl, rfl⟩, rm_wd_in (i := 97) (by decide +kernel), ⟨by decide, by decide, by decide +kernel⟩, by decide⟩
set_option maxRecDepth 100000 in
theorem cw_X11_isQuestion : rm_cwd mX11_isQuestion 1 := ⟨List.mem_filter.mpr ⟨List.mem_of_getElem? (i := 783) rfl, rfl⟩, rm_wd_in (i := 97) (by decide +kernel), ⟨by decide, by decide, by decide +kernel⟩, by decide⟩
set_option maxRecDepth 100000 in
theorem cw_X11_isRuleOrNone : rm_cwd mX11_isRuleOrNone 1 := ⟨List.mem_filter.mpr ⟨List.mem_of_getElem? (i := 775) rfl, rfl⟩, rm_wd_in (i := 97) (by decide +kernel), ⟨by decide, by decide, by decide +kernel⟩, by decide⟩
set_option maxRecDepth 100000 in
theorem cw_X11_ruleInForce : rm_cwd mX11_ruleInForce 0 := ⟨List.mem_filter.mpr ⟨List.mem_of_getElem? (i := 826) rfl, rfl⟩, rm_wd_in (i := 97) (by decide +kernel), ⟨by decide, by decide, by decide +kernel⟩, by decide⟩
set_option maxRecDepth 100000 in
theorem cw_X11_ruleOrNull : rm_cwd mX11_ruleOrNull 1 := ⟨List.mem_filter.mpr ⟨List.mem_of_getElem? (i := 830) rfl, rfl⟩, rm_wd_in (i := 97) (by decide +kernel), ⟨by decide, by decide, by decide +kernel⟩, by decide⟩
set_option maxRecDepth 100000 in
theorem cw_X11_balanceWithEgg : rm_cwd mX11_balanceWithEgg 2 := ⟨List.mem_filter.mpr ⟨List.mem_of_getElem? (i := 1013) rfl, rfl⟩, rm_wd_in (i := 97) (by decide +kernel), ⟨by decide, by decide, by decide +kernel⟩, by decide⟩
set_option maxRecDepth 100000 in
theorem cw_X11_rescuesAll : rm_cwd mX11_rescuesAll 2 := ⟨List.mem_filter.mpr ⟨List.mem_of_getElem? (i := 997) rfl, rfl⟩, rm_wd_in (i := 97) (by decide +kernel), ⟨by decide, by decide, by decide +kernel⟩, by decide⟩
set_option maxRecDepth 100000 in
theorem cw_X11_fittingRules : rm_cwd mX11_fittingRules 0 := ⟨List.mem_filter.mpr ⟨List.mem_of_getElem? (i := 1078) rfl, rfl⟩, rm_wd_in (i := 97) (by decide +kernel), ⟨by decide, by decide, by decide +kernel⟩, by decide⟩
set_option maxRecDepth 100000 in
theorem cw_X11_mostAlikeOn : rm_cwd mX11_mostAlikeOn 2 := ⟨List.mem_filter.mpr ⟨List.mem_of_getElem? (i := 1090) rfl, rfl⟩, rm_wd_in (i := 97) (by decide +kernel), ⟨by decide, by decide, by decide +kernel⟩, by decide⟩
set_option maxRecDepth 100000 in
theorem cw_X11_drawnBehind : rm_cwd mX11_drawnBehind 1 := ⟨List.mem_filter.mpr ⟨List.mem_of_getElem? (i := 1102) rfl, rfl⟩, rm_wd_in (i := 97) (by decide +kernel), ⟨by decide, by decide, by decide +kernel⟩, by decide⟩
set_option maxRecDepth 100000 in
theorem cw_X12_init : rm_cwd mX12_init 0 := ⟨List.mem_filter.mpr ⟨List.mem_of_getElem? (i := 1138) rfl, rfl⟩, rm_wd_in (i := 108) (by decide +kernel), ⟨by decide, by decide, by decide +kernel⟩, by decide⟩
set_option maxRecDepth 100000 in
theorem cw_X12_in : rm_cwd mX12_in 3 := ⟨List.mem_filter.mpr ⟨List.mem_of_getElem? (i := 1381) rfl, rfl⟩, rm_wd_in (i := 108) (by decide +kernel), ⟨by decide, by decide, by decide +kernel⟩, by decide⟩
set_option maxRecDepth 100000 in
theorem cw_X12_bits : rm_cwd mX12_bits 1 := ⟨List.mem_filter.mpr ⟨List.mem_of_getElem? (i := 1552) rfl, rfl⟩, rm_wd_in (i := 108) (by decide +kernel), ⟨by decide, by decide, by decide +kernel⟩, by decide⟩
set_option maxRecDepth 100000 in
theorem cw_X12_has : rm_cwd mX12_has 2 := ⟨List.mem_filter.mpr ⟨List.mem_of_getElem? (i := 1496) rfl, rfl⟩, rm_wd_in (i := 108) (by decide +kernel), ⟨by decide, by decide, by decide +kernel⟩, by decide⟩
set_option maxRecDepth 100000 in
theorem cw_X12_isRealm : rm_cwd mX12_isRealm 0 := ⟨List.mem_filter.mpr ⟨List.mem_of_getElem? (i := 1524) rfl, rfl⟩, rm_wd_in (i := 108) (by decide +kernel), ⟨by decide, by decide, by decide +kernel⟩, by decide⟩
set_option maxRecDepth 100000 in
theorem cw_X12_isQuestion : rm_cwd mX12_isQuestion 1 := ⟨List.mem_filter.mpr ⟨List.mem_of_getElem? (i := 1485) rfl, rfl⟩, rm_wd_in (i := 108) (by decide +kernel), ⟨by decide, by decide, by decide +kernel⟩, by decide⟩
set_option maxRecDepth 100000 in
theorem cw_X12_feed : rm_cwd mX12_feed 5 := ⟨List.mem_filter.mpr ⟨List.mem_of_getElem? (i := 1306) rfl, rfl⟩, rm_wd_in (i := 108) (by decide +kernel), ⟨by decide, by decide, by decide +kernel⟩, by decide⟩
set_option maxRecDepth 100000 in
theorem cw_X12_put : rm_cwd mX12_put 1 := ⟨List.mem_filter.mpr ⟨List.mem_of_getElem? (i := 1310) rfl, rfl⟩, rm_wd_in (i := 108) (by decide +kernel), ⟨by decide, by decide, by decide +kernel⟩, by decide⟩
set_option maxRecDepth 100000 in
theorem cw_X12_end : rm_cwd mX12_end 1 := ⟨List.mem_filter.mpr ⟨List.mem_of_getElem? (i := 1314) rfl, rfl⟩, rm_wd_in (i := 108) (by decide +kernel), ⟨by decide, by decide, by decide +kernel⟩, by decide⟩
set_option maxRecDepth 100000 in
theorem cw_X12_wordOf : rm_cwd mX12_wordOf 1 := ⟨List.mem_filter.mpr ⟨List.mem_of_getElem? (i := 1428) rfl, rfl⟩, rm_wd_in (i := 108) (by decide +kernel), ⟨by decide, by decide, by decide +kernel⟩, by decide⟩
set_option maxRecDepth 100000 in
theorem cw_X12_fails : rm_cwd mX12_fails 2 := ⟨List.mem_filter.mpr ⟨List.mem_of_getElem? (i := 1355) rfl, rfl⟩, rm_wd_in (i := 108) (by decide +kernel), ⟨by decide, by decide, by decide +kernel⟩, by decide⟩
set_option maxRecDepth 100000 in
theorem cw_X12_sign : rm_cwd mX12_sign 0 := ⟨List.mem_filter.mpr ⟨List.mem_of_getElem? (i := 1338) rfl, rfl⟩, rm_wd_in (i := 108) (by decide +kernel), ⟨by decide, by decide, by decide +kernel⟩, by decide⟩
set_option maxRecDepth 100000 in
theorem cw_X12_blanks : rm_cwd mX12_blanks 0 := ⟨List.mem_filter.mpr ⟨List.mem_of_getElem? (i := 1334) rfl, rfl⟩, rm_wd_in (i := 108) (by decide +kernel), ⟨by decide, by decide, by decide +kernel⟩, by decide⟩
set_option maxRecDepth 100000 in
theorem cw_X12_isDigit : rm_cwd mX12_isDigit 0 := ⟨List.mem_filter.mpr ⟨List.mem_of_getElem? (i := 1376) rfl, rfl⟩, rm_wd_in (i := 108) (by decide +kernel), ⟨by decide, by decide, by decide +kernel⟩, by decide⟩
set_option maxRecDepth 100000 in
theorem cw_X12_stood : rm_cwd mX12_stood 1 := ⟨List.mem_filter.mpr ⟨List.mem_of_getElem? (i := 1349) rfl, rfl⟩, rm_wd_in (i := 108) (by decide +kernel), ⟨by decide, by decide, by decide +kernel⟩, by decide⟩
set_option maxRecDepth 100000 in
theorem cw_X12_takes : rm_cwd mX12_takes 1 := ⟨List.mem_filter.mpr ⟨List.mem_of_getElem? (i := 1445) rfl, rfl⟩, rm_wd_in (i := 108) (by decide +kernel), ⟨by decide, by decide, by decide +kernel⟩, by decide⟩
set_option maxRecDepth 100000 in
theorem cw_X12_entry : rm_cwd mX12_entry 2 := ⟨List.mem_filter.mpr ⟨List.mem_of_getElem? (i := 1425) rfl, rfl⟩, rm_wd_in (i := 108) (by decide +kernel), ⟨by decide, by decide, by decide +kernel⟩, by decide⟩
set_option maxRecDepth 100000 in
theorem cw_X12_isCounted : rm_cwd mX12_isCounted 1 := ⟨List.mem_filter.mpr ⟨List.mem_of_getElem? (i := 1421) rfl, rfl⟩, rm_wd_in (i := 108) (by decide +kernel), ⟨by decide, by decide, by decide +kernel⟩, by decide⟩
set_option maxRecDepth 100000 in
theorem cw_X12_digits : rm_cwd mX12_digits 1 := ⟨List.mem_filter.mpr ⟨List.mem_of_getElem? (i := 1372) rfl, rfl⟩, rm_wd_in (i := 108) (by decide +kernel), ⟨by decide, by decide, by decide +kernel⟩, by decide⟩
set_option maxRecDepth 100000 in
theorem cw_X12_value : rm_cwd mX12_value 0 := ⟨List.mem_filter.mpr ⟨List.mem_of_getElem? (i := 1417) rfl, rfl⟩, rm_wd_in (i := 108) (by decide +kernel), ⟨by decide, by decide, by decide +kernel⟩, by decide⟩
set_option maxRecDepth 100000 in
theorem cw_X12_term : rm_cwd mX12_term 0 := ⟨List.mem_filter.mpr ⟨List.mem_of_getElem? (i := 1413) rfl, rfl⟩, rm_wd_in (i := 108) (by decide +kernel), ⟨by decide, by decide, by decide +kernel⟩, by decide⟩
set_option maxRecDepth 100000 in
theorem cw_X12_sum : rm_cwd mX12_sum 0 := ⟨List.mem_filter.mpr ⟨List.mem_of_getElem? (i := 1409) rfl, rfl⟩, rm_wd_in (i := 108) (by decide +kernel), ⟨by decide, by decide, by decide +kernel⟩, by decide⟩
set_option maxRecDepth 100000 in
theorem cw_X12_compared : rm_cwd mX12_compared 0 := ⟨List.mem_filter.mpr ⟨List.mem_of_getElem? (i := 1462) rfl, rfl⟩, rm_wd_in (i := 108) (by decide +kernel), ⟨by decide, by decide, by decide +kernel⟩, by decide⟩
set_option maxRecDepth 100000 in
theorem cw_X12_top : rm_cwd mX12_top 0 := ⟨List.mem_filter.mpr ⟨List.mem_of_getElem? (i := 1470) rfl, rfl⟩, rm_wd_in (i := 108) (by decide +kernel), ⟨by decide, by decide, by decide +kernel⟩, by decide⟩
set_option maxRecDepth 100000 in
theorem cw_X12_opens : rm_cwd mX12_opens 1 := ⟨List.mem_filter.mpr ⟨List.mem_of_getElem? (i := 1458) rfl, rfl⟩, rm_wd_in (i := 108) (by decide +kernel), ⟨by decide, by decide, by decide +kernel⟩, by decide⟩
set_option maxRecDepth 100000 in
theorem cw_X12_answers : rm_cwd mX12_answers 1 := ⟨List.mem_filter.mpr ⟨List.mem_of_getElem? (i := 1466) rfl, rfl⟩, rm_wd_in (i := 108) (by decide +kernel), ⟨by decide, by decide, by decide +kernel⟩, by decide⟩
set_option maxRecDepth 100000 in
theorem cw_X12_fact : rm_cwd mX12_fact 0 := ⟨List.mem_filter.mpr ⟨List.mem_of_getElem? (i := 1453) rfl, rfl⟩, rm_wd_in (i := 108) (by decide +kernel), ⟨by decide, by decide, by decide +kernel⟩, by decide⟩
set_option maxRecDepth 100000 in
theorem cw_X12_test : rm_cwd mX12_test 0 := ⟨List.mem_filter.mpr ⟨List.mem_of_getElem? (i := 1449) rfl, rfl⟩, rm_wd_in (i := 108) (by decide +kernel), ⟨by decide, by decide, by decide +kernel⟩, by decide⟩
set_option maxRecDepth 100000 in
theorem cw_X12_amount : rm_cwd mX12_amount 2 := ⟨List.mem_filter.mpr ⟨List.mem_of_getElem? (i := 1367) rfl, rfl⟩, rm_wd_in (i := 108) (by decide +kernel), ⟨by decide, by decide, by decide +kernel⟩, by decide⟩
set_option maxRecDepth 100000 in
theorem cw_X12_realmWord : rm_cwd mX12_realmWord 1 := ⟨List.mem_filter.mpr ⟨List.mem_of_getElem? (i := 1341) rfl, rfl⟩, rm_wd_in (i := 108) (by decide +kernel), ⟨by decide, by decide, by decide +kernel⟩, by decide⟩
set_option maxRecDepth 100000 in
theorem cw_X12_alikePart : rm_cwd mX12_alikePart 0 := ⟨List.mem_filter.mpr ⟨List.mem_of_getElem? (i := 1385) rfl, rfl⟩, rm_wd_in (i := 108) (by decide +kernel), ⟨by decide, by decide, by decide +kernel⟩, by decide⟩
set_option maxRecDepth 100000 in
theorem cw_X12_realmPart : rm_cwd mX12_realmPart 1 := ⟨List.mem_filter.mpr ⟨List.mem_of_getElem? (i := 1363) rfl, rfl⟩, rm_wd_in (i := 108) (by decide +kernel), ⟨by decide, by decide, by decide +kernel⟩, by decide⟩
set_option maxRecDepth 100000 in
theorem cw_X12_isFull : rm_cwd mX12_isFull 2 := ⟨List.mem_filter.mpr ⟨List.mem_of_getElem? (i := 1359) rfl, rfl⟩, rm_wd_in (i := 108) (by decide +kernel), ⟨by decide, by decide, by decide +kernel⟩, by decide⟩
set_option maxRecDepth 100000 in
theorem cw_X12_realmClause : rm_cwd mX12_realmClause 1 := ⟨List.mem_filter.mpr ⟨List.mem_of_getElem? (i := 1330) rfl, rfl⟩, rm_wd_in (i := 108) (by decide +kernel), ⟨by decide, by decide, by decide +kernel⟩, by decide⟩
set_option maxRecDepth 100000 in
theorem cw_X12_copies : rm_cwd mX12_copies 2 := ⟨List.mem_filter.mpr ⟨List.mem_of_getElem? (i := 1392) rfl, rfl⟩, rm_wd_in (i := 108) (by decide +kernel), ⟨by decide, by decide, by decide +kernel⟩, by decide⟩
set_option maxRecDepth 100000 in
theorem cw_X12_goesOn : rm_cwd mX12_goesOn 0 := ⟨List.mem_filter.mpr ⟨List.mem_of_getElem? (i := 1389) rfl, rfl⟩, rm_wd_in (i := 108) (by decide +kernel), ⟨by decide, by decide, by decide +kernel⟩, by decide⟩
set_option maxRecDepth 100000 in
theorem cw_X12_starts : rm_cwd mX12_starts 0 := ⟨List.mem_filter.mpr ⟨List.mem_of_getElem? (i := 1326) rfl, rfl⟩, rm_wd_in (i := 108) (by decide +kernel), ⟨by decide, by decide, by decide +kernel⟩, by decide⟩
set_option maxRecDepth 100000 in
theorem cw_X12_readsAll : rm_cwd mX12_readsAll 0 := ⟨List.mem_filter.mpr ⟨List.mem_of_getElem? (i := 1322) rfl, rfl⟩, rm_wd_in (i := 108) (by decide +kernel), ⟨by decide, by decide, by decide +kernel⟩, by decide⟩
set_option maxRecDepth 100000 in
theorem cw_X12_begins : rm_cwd mX12_begins 0 := ⟨List.mem_filter.mpr ⟨List.mem_of_getElem? (i := 1396) rfl, rfl⟩, rm_wd_in (i := 108) (by decide +kernel), ⟨by decide, by decide, by decide +kernel⟩, by decide⟩
set_option maxRecDepth 100000 in
theorem cw_X12_realm : rm_cwd mX12_realm 0 := ⟨List.mem_filter.mpr ⟨List.mem_of_getElem? (i := 1318) rfl, rfl⟩, rm_wd_in (i := 108) (by decide +kernel), ⟨by decide, by decide, by decide +kernel⟩, by decide⟩
set_option maxRecDepth 100000 in
theorem cw_X12_ruleClause : rm_cwd mX12_ruleClause 1 := ⟨List.mem_filter.mpr ⟨List.mem_of_getElem? (i := 1404) rfl, rfl⟩, rm_wd_in (i := 108) (by decide +kernel), ⟨by decide, by decide, by decide +kernel⟩, by decide⟩
set_option maxRecDepth 100000 in
theorem cw_X12_rule : rm_cwd mX12_rule 0 := ⟨List.mem_filter.mpr ⟨List.mem_of_getElem? (i := 1400) rfl, rfl⟩, rm_wd_in (i := 108) (by decide +kernel), ⟨by decide, by decide, by decide +kernel⟩, by decide⟩
set_option maxRecDepth 100000 in
theorem cw_X12_force : rm_cwd mX12_force 1 := ⟨List.mem_filter.mpr ⟨List.mem_of_getElem? (i := 1476) rfl, rfl⟩, rm_wd_in (i := 108) (by decide +kernel), ⟨by decide, by decide, by decide +kernel⟩, by decide⟩
set_option maxRecDepth 100000 in
theorem cw_X12_wanted : rm_cwd mX12_wanted 0 := ⟨List.mem_filter.mpr ⟨List.mem_of_getElem? (i := 1556) rfl, rfl⟩, rm_wd_in (i := 108) (by decide +kernel), ⟨by decide, by decide, by decide +kernel⟩, by decide⟩
set_option maxRecDepth 100000 in
theorem cw_X12_truth : rm_cwd mX12_truth 1 := ⟨List.mem_filter.mpr ⟨List.mem_of_getElem? (i := 1566) rfl, rfl⟩, rm_wd_in (i := 108) (by decide +kernel), ⟨by decide, by decide, by decide +kernel⟩, by decide⟩
set_option maxRecDepth 100000 in
theorem cw_X12_both : rm_cwd mX12_both 3 := ⟨List.mem_filter.mpr ⟨List.mem_of_getElem? (i := 1563) rfl, rfl⟩, rm_wd_in (i := 108) (by decide +kernel), ⟨by decide, by decide, by decide +kernel⟩, by decide⟩
set_option maxRecDepth 100000 in
theorem cw_X12_answer : rm_cwd mX12_answer 3 := ⟨List.mem_filter.mpr ⟨List.mem_of_getElem? (i := 1560) rfl, rfl⟩, rm_wd_in (i := 108) (by decide +kernel), ⟨by decide, by decide, by decide +kernel⟩, by decide⟩
set_option maxRecDepth 100000 in
theorem cw_X12_isOpen : rm_cwd mX12_isOpen 1 := ⟨List.mem_filter.mpr ⟨List.mem_of_getElem? (i := 1489) rfl, rfl⟩, rm_wd_in (i := 108) (by decide +kernel), ⟨by decide, by decide, by decide +kernel⟩, by decide⟩
set_option maxRecDepth 100000 in
theorem cw_X12_openOnes : rm_cwd mX12_openOnes 0 := ⟨List.mem_filter.mpr ⟨List.mem_of_getElem? (i := 1549) rfl, rfl⟩, rm_wd_in (i := 108) (by decide +kernel), ⟨by decide, by decide, by decide +kernel⟩, by decide⟩
set_option maxRecDepth 100000 in
theorem cw_X12_inBundle : rm_cwd mX12_inBundle 1 := ⟨List.mem_filter.mpr ⟨List.mem_of_getElem? (i := 1500) rfl, rfl⟩, rm_wd_in (i := 108) (by decide +kernel), ⟨by decide, by decide, by decide +kernel⟩, by decide⟩
set_option maxRecDepth 100000 in
theorem cw_X12_brings : rm_cwd mX12_brings 1 := ⟨List.mem_filter.mpr ⟨List.mem_of_getElem? (i := 1493) rfl, rfl⟩, rm_wd_in (i := 108) (by decide +kernel), ⟨by decide, by decide, by decide +kernel⟩, by decide⟩
set_option maxRecDepth 100000 in
theorem cw_X12_question : rm_cwd mX12_question 2 := ⟨List.mem_filter.mpr ⟨List.mem_of_getElem? (i := 1481) rfl, rfl⟩, rm_wd_in (i := 108) (by decide +kernel), ⟨by decide, by decide, by decide +kernel⟩, by decide⟩
set_option maxRecDepth 100000 in
theorem cw_X12_upTo : rm_cwd mX12_upTo 2 := ⟨List.mem_filter.mpr ⟨List.mem_of_getElem? (i := 1573) rfl, rfl⟩, rm_wd_in (i := 108) (by decide +kernel), ⟨by decide, by decide, by decide +kernel⟩, by decide⟩
set_option maxRecDepth 100000 in
theorem cw_X12_answered : rm_cwd mX12_answered 1 := ⟨List.mem_filter.mpr ⟨List.mem_of_getElem? (i := 1577) rfl, rfl⟩, rm_wd_in (i := 108) (by decide +kernel), ⟨by decide, by decide, by decide +kernel⟩, by decide⟩
set_option maxRecDepth 100000 in
theorem cw_X12_sumOf : rm_cwd mX12_sumOf 1 := ⟨List.mem_filter.mpr ⟨List.mem_of_getElem? (i := 1545) rfl, rfl⟩, rm_wd_in (i := 108) (by decide +kernel), ⟨by decide, by decide, by decide +kernel⟩, by decide⟩
set_option maxRecDepth 100000 in
theorem cw_X12_choice : rm_cwd mX12_choice 0 := ⟨List.mem_filter.mpr ⟨List.mem_of_getElem? (i := 1540) rfl, rfl⟩, rm_wd_in (i := 108) (by decide +kernel), ⟨by decide, by decide, by decide +kernel⟩, by decide⟩
set_option maxRecDepth 100000 in
theorem cw_X12_isWaste : rm_cwd mX12_isWaste 0 := ⟨List.mem_filter.mpr ⟨List.mem_of_getElem? (i := 1536) rfl, rfl⟩, rm_wd_in (i := 108) (by decide +kernel), ⟨by decide, by decide, by decide +kernel⟩, by decide⟩
set_option maxRecDepth 100000 in
theorem cw_X12_goesWith : rm_cwd mX12_goesWith 1 := ⟨List.mem_filter.mpr ⟨List.mem_of_getElem? (i := 1570) rfl, rfl⟩, rm_wd_in (i := 108) (by decide +kernel), ⟨by decide, by decide, by decide +kernel⟩, by decide⟩
set_option maxRecDepth 100000 in
theorem cw_X12_goes : rm_cwd mX12_goes 0 := ⟨List.mem_filter.mpr ⟨List.mem_of_getElem? (i := 1532) rfl, rfl⟩, rm_wd_in (i := 108) (by decide +kernel), ⟨by decide, by decide, by decide +kernel⟩, by decide⟩
set_option maxRecDepth 100000 in
theorem cw_X12_goFor : rm_cwd mX12_goFor 1 := ⟨List.mem_filter.mpr ⟨List.mem_of_getElem? (i := 1619) rfl, rfl⟩, rm_wd_in (i := 108) (by decide +kernel), ⟨by decide, by decide, by decide +kernel⟩, by decide⟩
set_option maxRecDepth 100000 in
theorem cw_X12_moves : rm_cwd mX12_moves 1 := ⟨List.mem_filter.mpr ⟨List.mem_of_getElem? (i := 1512) rfl, rfl⟩, rm_wd_in (i := 108) (by decide +kernel), ⟨by decide, by decide, by decide +kernel⟩, by decide⟩
set_option maxRecDepth 100000 in
theorem cw_X12_movesRow : rm_cwd mX12_movesRow 1 := ⟨List.mem_filter.mpr ⟨List.mem_of_getElem? (i := 1516) rfl, rfl⟩, rm_wd_in (i := 108) (by decide +kernel), ⟨by decide, by decide, by decide +kernel⟩, by decide⟩
set_option maxRecDepth 100000 in
theorem cw_X12_movesAll : rm_cwd mX12_movesAll 2 := ⟨List.mem_filter.mpr ⟨List.mem_of_getElem? (i := 1508) rfl, rfl⟩, rm_wd_in (i := 108) (by decide +kernel), ⟨by decide, by decide, by decide +kernel⟩, by decide⟩
set_option maxRecDepth 100000 in
theorem cw_X12_keepsAct : rm_cwd mX12_keepsAct 0 := ⟨List.mem_filter.mpr ⟨List.mem_of_getElem? (i := 1528) rfl, rfl⟩, rm_wd_in (i := 108) (by decide +kernel), ⟨by decide, by decide, by decide +kernel⟩, by decide⟩
set_option maxRecDepth 100000 in
theorem cw_X12_undo : rm_cwd mX12_undo 0 := ⟨List.mem_filter.mpr ⟨List.mem_of_getElem? (i := 1504) rfl, rfl⟩, rm_wd_in (i := 108) (by decide +kernel), ⟨by decide, by decide, by decide +kernel⟩, by decide⟩
set_option maxRecDepth 100000 in
theorem cw_X12_day : rm_cwd mX12_day 0 := ⟨List.mem_filter.mpr ⟨List.mem_of_getElem? (i := 1520) rfl, rfl⟩, rm_wd_in (i := 108) (by decide +kernel), ⟨by decide, by decide, by decide +kernel⟩, by decide⟩
set_option maxRecDepth 100000 in
theorem cw_X12_use : rm_cwd mX12_use 1 := ⟨List.mem_filter.mpr ⟨List.mem_of_getElem? (i := 1581) rfl, rfl⟩, rm_wd_in (i := 108) (by decide +kernel), ⟨by decide, by decide, by decide +kernel⟩, by decide⟩
set_option maxRecDepth 100000 in
theorem cw_X12_egg : rm_cwd mX12_egg 0 := ⟨List.mem_filter.mpr ⟨List.mem_of_getElem? (i := 1585) rfl, rfl⟩, rm_wd_in (i := 108) (by decide +kernel), ⟨by decide, by decide, by decide +kernel⟩, by decide⟩
set_option maxRecDepth 100000 in
theorem cw_X12_ties : rm_cwd mX12_ties 2 := ⟨List.mem_filter.mpr ⟨List.mem_of_getElem? (i := 1593) rfl, rfl⟩, rm_wd_in (i := 108) (by decide +kernel), ⟨by decide, by decide, by decide +kernel⟩, by decide⟩
set_option maxRecDepth 100000 in
theorem cw_X12_tie : rm_cwd mX12_tie 2 := ⟨List.mem_filter.mpr ⟨List.mem_of_getElem? (i := 1589) rfl, rfl⟩, rm_wd_in (i := 108) (by decide +kernel), ⟨by decide, by decide, by decide +kernel⟩, by decide⟩
set_option maxRecDepth 100000 in
theorem cw_X12_grow : rm_cwd mX12_grow 2 := ⟨List.mem_filter.mpr ⟨List.mem_of_getElem? (i := 1597) rfl, rfl⟩, rm_wd_in (i := 108) (by decide +kernel), ⟨by decide, by decide, by decide +kernel⟩, by decide⟩
set_option maxRecDepth 100000 in
theorem cw_X12_keepsAll : rm_cwd mX12_keepsAll 0 := ⟨List.mem_filter.mpr ⟨List.mem_of_getElem? (i := 1607) rfl, rfl⟩, rm_wd_in (i := 108) (by decide +kernel), ⟨by decide, by decide, by decide +kernel⟩, by decide⟩
set_option maxRecDepth 100000 in
theorem cw_X12_laysBack : rm_cwd mX12_laysBack 0 := ⟨List.mem_filter.mpr ⟨List.mem_of_getElem? (i := 1623) rfl, rfl⟩, rm_wd_in (i := 108) (by decide +kernel), ⟨by decide, by decide, by decide +kernel⟩, by decide⟩
set_option maxRecDepth 100000 in
theorem cw_X12_net : rm_cwd mX12_net 0 := ⟨List.mem_filter.mpr ⟨List.mem_of_getElem? (i := 1637) rfl, rfl⟩, rm_wd_in (i := 108) (by decide +kernel), ⟨by decide, by decide, by decide +kernel⟩, by decide⟩
set_option maxRecDepth 100000 in
theorem cw_X12_netIn : rm_cwd mX12_netIn 1 := ⟨List.mem_filter.mpr ⟨List.mem_of_getElem? (i := 1651) rfl, rfl⟩, rm_wd_in (i := 108) (by decide +kernel), ⟨by decide, by decide, by decide +kernel⟩, by decide⟩
set_option maxRecDepth 100000 in
theorem cw_X12_ahead : rm_cwd mX12_ahead 3 := ⟨List.mem_filter.mpr ⟨List.mem_of_getElem? (i := 1602) rfl, rfl⟩, rm_wd_in (i := 108) (by decide +kernel), ⟨by decide, by decide, by decide +kernel⟩, by decide⟩
set_option maxRecDepth 100000 in
theorem cw_X12_fate : rm_cwd mX12_fate 2 := ⟨List.mem_filter.mpr ⟨List.mem_of_getElem? (i := 1627) rfl, rfl⟩, rm_wd_in (i := 108) (by decide +kernel), ⟨by decide, by decide, by decide +kernel⟩, by decide⟩
set_option maxRecDepth 100000 in
theorem cw_X12_goesRow : rm_cwd mX12_goesRow 3 := ⟨List.mem_filter.mpr ⟨List.mem_of_getElem? (i := 1641) rfl, rfl⟩, rm_wd_in (i := 108) (by decide +kernel), ⟨by decide, by decide, by decide +kernel⟩, by decide⟩
set_option maxRecDepth 100000 in
theorem cw_X12_row : rm_cwd mX12_row 2 := ⟨List.mem_filter.mpr ⟨List.mem_of_getElem? (i := 1631) rfl, rfl⟩, rm_wd_in (i := 108) (by decide +kernel), ⟨by decide, by decide, by decide +kernel⟩, by decide⟩
set_option maxRecDepth 100000 in
theorem cw_X12_bind : rm_cwd mX12_bind 2 := ⟨List.mem_filter.mpr ⟨List.mem_of_getElem? (i := 1645) rfl, rfl⟩, rm_wd_in (i := 108) (by decide +kernel), ⟨by decide, by decide, by decide +kernel⟩, by decide⟩
set_option maxRecDepth 100000 in
theorem cw_X12_isRescued : rm_cwd mX12_isRescued 2 := ⟨List.mem_filter.mpr ⟨List.mem_of_getElem? (i := 1659) rfl, rfl⟩, rm_wd_in (i := 108) (by decide +kernel), ⟨by decide, by decide, by decide +kernel⟩, by decide⟩
set_option maxRecDepth 100000 in
theorem cw_X12_rescue : rm_cwd mX12_rescue 2 := ⟨List.mem_filter.mpr ⟨List.mem_of_getElem? (i := 1655) rfl, rfl⟩, rm_wd_in (i := 108) (by decide +kernel), ⟨by decide, by decide, by decide +kernel⟩, by decide⟩
set_option maxRecDepth 100000 in
theorem cw_X12_isCovered : rm_cwd mX12_isCovered 1 := ⟨List.mem_filter.mpr ⟨List.mem_of_getElem? (i := 1667) rfl, rfl⟩, rm_wd_in (i := 108) (by decide +kernel), ⟨by decide, by decide, by decide +kernel⟩, by decide⟩
set_option maxRecDepth 100000 in
theorem cw_X12_cover : rm_cwd mX12_cover 1 := ⟨List.mem_filter.mpr ⟨List.mem_of_getElem? (i := 1663) rfl, rfl⟩, rm_wd_in (i := 108) (by decide +kernel), ⟨by decide, by decide, by decide +kernel⟩, by decide⟩
set_option maxRecDepth 100000 in
theorem cw_X12_today : rm_cwd mX12_today 1 := ⟨List.mem_filter.mpr ⟨List.mem_of_getElem? (i := 1671) rfl, rfl⟩, rm_wd_in (i := 108) (by decide +kernel), ⟨by decide, by decide, by decide +kernel⟩, by decide⟩
set_option maxRecDepth 100000 in
theorem cw_X12_waste : rm_cwd mX12_waste 2 := ⟨List.mem_filter.mpr ⟨List.mem_of_getElem? (i := 1675) rfl, rfl⟩, rm_wd_in (i := 108) (by decide +kernel), ⟨by decide, by decide, by decide +kernel⟩, by decide⟩
set_option maxRecDepth 100000 in
theorem cw_X12_blame : rm_cwd mX12_blame 2 := ⟨List.mem_filter.mpr ⟨List.mem_of_getElem? (i := 1680) rfl, rfl⟩, rm_wd_in (i := 108) (by decide +kernel), ⟨by decide, by decide, by decide +kernel⟩, by decide⟩
set_option maxRecDepth 100000 in
theorem cw_X12_triesWoke : rm_cwd mX12_triesWoke 4 := ⟨List.mem_filter.mpr ⟨List.mem_of_getElem? (i := 1690) rfl, rfl⟩, rm_wd_in (i := 108) (by decide +kernel), ⟨by decide, by decide, by decide +kernel⟩, by decide⟩
set_option maxRecDepth 100000 in
theorem cw_X12_woke : rm_cwd mX12_woke 4 := ⟨List.mem_filter.mpr ⟨List.mem_of_getElem? (i := 1685) rfl, rfl⟩, rm_wd_in (i := 108) (by decide +kernel), ⟨by decide, by decide, by decide +kernel⟩, by decide⟩
set_option maxRecDepth 100000 in
theorem cw_X12_note : rm_cwd mX12_note 2 := ⟨List.mem_filter.mpr ⟨List.mem_of_getElem? (i := 1694) rfl, rfl⟩, rm_wd_in (i := 108) (by decide +kernel), ⟨by decide, by decide, by decide +kernel⟩, by decide⟩
set_option maxRecDepth 100000 in
theorem cw_X12_couldRule : rm_cwd mX12_couldRule 1 := ⟨List.mem_filter.mpr ⟨List.mem_of_getElem? (i := 1702) rfl, rfl⟩, rm_wd_in (i := 108) (by decide +kernel), ⟨by decide, by decide, by decide +kernel⟩, by decide⟩
set_option maxRecDepth 100000 in
theorem cw_X12_ruled : rm_cwd mX12_ruled 1 := ⟨List.mem_filter.mpr ⟨List.mem_of_getElem? (i := 1698) rfl, rfl⟩, rm_wd_in (i := 108) (by decide +kernel), ⟨by decide, by decide, by decide +kernel⟩, by decide⟩
set_option maxRecDepth 100000 in
theorem cw_X12_mostAlike : rm_cwd mX12_mostAlike 2 := ⟨List.mem_filter.mpr ⟨List.mem_of_getElem? (i := 1710) rfl, rfl⟩, rm_wd_in (i := 108) (by decide +kernel), ⟨by decide, by decide, by decide +kernel⟩, by decide⟩
set_option maxRecDepth 100000 in
theorem cw_X12_look : rm_cwd mX12_look 1 := ⟨List.mem_filter.mpr ⟨List.mem_of_getElem? (i := 1706) rfl, rfl⟩, rm_wd_in (i := 108) (by decide +kernel), ⟨by decide, by decide, by decide +kernel⟩, by decide⟩
set_option maxRecDepth 100000 in
theorem cw_X12_seed : rm_cwd mX12_seed 1 := ⟨List.mem_filter.mpr ⟨List.mem_of_getElem? (i := 1714) rfl, rfl⟩, rm_wd_in (i := 108) (by decide +kernel), ⟨by decide, by decide, by decide +kernel⟩, by decide⟩
set_option maxRecDepth 100000 in
theorem cw_X12_draws : rm_cwd mX12_draws 1 := ⟨List.mem_filter.mpr ⟨List.mem_of_getElem? (i := 1723) rfl, rfl⟩, rm_wd_in (i := 108) (by decide +kernel), ⟨by decide, by decide, by decide +kernel⟩, by decide⟩
set_option maxRecDepth 100000 in
theorem cw_X12_reigns : rm_cwd mX12_reigns 4 := ⟨List.mem_filter.mpr ⟨List.mem_of_getElem? (i := 1718) rfl, rfl⟩, rm_wd_in (i := 108) (by decide +kernel), ⟨by decide, by decide, by decide +kernel⟩, by decide⟩
set_option maxRecDepth 100000 in
theorem cw_X12_count : rm_cwd mX12_count 1 := ⟨List.mem_filter.mpr ⟨List.mem_of_getElem? (i := 1731) rfl, rfl⟩, rm_wd_in (i := 108) (by decide +kernel), ⟨by decide, by decide, by decide +kernel⟩, by decide⟩
set_option maxRecDepth 100000 in
theorem cw_X12_carryRow : rm_cwd mX12_carryRow 1 := ⟨List.mem_filter.mpr ⟨List.mem_of_getElem? (i := 1615) rfl, rfl⟩, rm_wd_in (i := 108) (by decide +kernel), ⟨by decide, by decide, by decide +kernel⟩, by decide⟩
set_option maxRecDepth 100000 in
theorem cw_X12_carriesAll : rm_cwd mX12_carriesAll 2 := ⟨List.mem_filter.mpr ⟨List.mem_of_getElem? (i := 1611) rfl, rfl⟩, rm_wd_in (i := 108) (by decide +kernel), ⟨by decide, by decide, by decide +kernel⟩, by decide⟩
set_option maxRecDepth 100000 in
theorem cw_X12_image : rm_cwd mX12_image 1 := ⟨List.mem_filter.mpr ⟨List.mem_of_getElem? (i := 1735) rfl, rfl⟩, rm_wd_in (i := 108) (by decide +kernel), ⟨by decide, by decide, by decide +kernel⟩, by decide⟩
set_option maxRecDepth 100000 in
theorem cw_X12_back : rm_cwd mX12_back 1 := ⟨List.mem_filter.mpr ⟨List.mem_of_getElem? (i := 1739) rfl, rfl⟩, rm_wd_in (i := 108) (by decide +kernel), ⟨by decide, by decide, by decide +kernel⟩, by decide⟩
set_option maxRecDepth 100000 in
theorem cw_X0_init : rm_cwd mX0_init 0 := ⟨List.mem_filter.mpr ⟨List.mem_of_getElem? (i := 186) rfl, rfl⟩, rm_wd_in (i := 100) (by decide +kernel), ⟨by decide, by decide, by decide +kernel⟩, by decide⟩
set_option maxRecDepth 100000 in
theorem cw_X0_begin : rm_cwd mX0_begin 1 := ⟨List.mem_filter.mpr ⟨List.mem_of_getElem? (i := 694) rfl, rfl⟩, rm_wd_in (i := 100) (by decide +kernel), ⟨by decide, by decide, by decide +kernel⟩, by decide⟩
set_option maxRecDepth 100000 in
theorem cw_X0_copyFrom : rm_cwd mX0_copyFrom 1 := ⟨List.mem_filter.mpr ⟨List.mem_of_getElem? (i := 1119) rfl, rfl⟩, rm_wd_in (i := 100) (by decide +kernel), ⟨by decide, by decide, by decide +kernel⟩, by decide⟩
set_option maxRecDepth 100000 in
theorem cw_X1_init : rm_cwd mX1_init 0 := ⟨List.mem_filter.mpr ⟨List.mem_of_getElem? (i := 192) rfl, rfl⟩, rm_wd_in (i := 101) (by decide +kernel), ⟨by decide, by decide, by decide +kernel⟩, by decide⟩
set_option maxRecDepth 100000 in
theorem cw_X1_isFull : rm_cwd mX1_isFull 0 := ⟨List.mem_filter.mpr ⟨List.mem_of_getElem? (i := 1066) rfl, rfl⟩, rm_wd_in (i := 101) (by decide +kernel), ⟨by decide, by decide, by decide +kernel⟩, by decide⟩
set_option maxRecDepth 100000 in
theorem cw_X1_add : rm_cwd mX1_add 2 := ⟨List.mem_filter.mpr ⟨List.mem_of_getElem? (i := 1070) rfl, rfl⟩, rm_wd_in (i := 101) (by decide +kernel), ⟨by decide, by decide, by decide +kernel⟩, by decide⟩
set_option maxRecDepth 100000 in
theorem cw_X1_areSo : rm_cwd mX1_areSo 2 := ⟨List.mem_filter.mpr ⟨List.mem_of_getElem? (i := 1082) rfl, rfl⟩, rm_wd_in (i := 101) (by decide +kernel), ⟨by decide, by decide, by decide +kernel⟩, by decide⟩
set_option maxRecDepth 100000 in
theorem cw_X1_copyFrom : rm_cwd mX1_copyFrom 1 := ⟨List.mem_filter.mpr ⟨List.mem_of_getElem? (i := 1128) rfl, rfl⟩, rm_wd_in (i := 101) (by decide +kernel), ⟨by decide, by decide, by decide +kernel⟩, by decide⟩
set_option maxRecDepth 100000 in
theorem cw_X2_init : rm_cwd mX2_init 1 := ⟨List.mem_filter.mpr ⟨List.mem_of_getElem? (i := 326) rfl, rfl⟩, rm_wd_in (i := 104) (by decide +kernel), ⟨by decide, by decide, by decide +kernel⟩, by decide⟩
set_option maxRecDepth 100000 in
theorem cw_X2_push : rm_cwd mX2_push 1 := ⟨List.mem_filter.mpr ⟨List.mem_of_getElem? (i := 814) rfl, rfl⟩, rm_wd_in (i := 104) (by decide +kernel), ⟨by decide, by decide, by decide +kernel⟩, by decide⟩
set_option maxRecDepth 100000 in
theorem cw_X2_pop : rm_cwd mX2_pop 1 := ⟨List.mem_filter.mpr ⟨List.mem_of_getElem? (i := 927) rfl, rfl⟩, rm_wd_in (i := 104) (by decide +kernel), ⟨by decide, by decide, by decide +kernel⟩, by decide⟩
set_option maxRecDepth 100000 in
theorem cw_X2_copyFrom : rm_cwd mX2_copyFrom 1 := ⟨List.mem_filter.mpr ⟨List.mem_of_getElem? (i := 1124) rfl, rfl⟩, rm_wd_in (i := 104) (by decide +kernel), ⟨by decide, by decide, by decide +kernel⟩, by decide⟩
set_option maxRecDepth 100000 in
theorem cw_X2_placeOf : rm_cwd mX2_placeOf 1 := ⟨List.mem_filter.mpr ⟨List.mem_of_getElem? (i := 818) rfl, rfl⟩, rm_wd_in (i := 104) (by decide +kernel), ⟨by decide, by decide, by decide +kernel⟩, by decide⟩
set_option maxRecDepth 100000 in
theorem cw_X3_init : rm_cwd mX3_init 0 := ⟨List.mem_filter.mpr ⟨List.mem_of_getElem? (i := 210) rfl, rfl⟩, rm_wd_in (i := 102) (by decide +kernel), ⟨by decide, by decide, by decide +kernel⟩, by decide⟩
set_option maxRecDepth 100000 in
theorem cw_X3_has : rm_cwd mX3_has 1 := ⟨List.mem_filter.mpr ⟨List.mem_of_getElem? (i := 686) rfl, rfl⟩, rm_wd_in (i := 102) (by decide +kernel), ⟨by decide, by decide, by decide +kernel⟩, by decide⟩
set_option maxRecDepth 100000 in
theorem cw_X3_readFrom : rm_cwd mX3_readFrom 1 := ⟨List.mem_filter.mpr ⟨List.mem_of_getElem? (i := 652) rfl, rfl⟩, rm_wd_in (i := 102) (by decide +kernel), ⟨by decide, by decide, by decide +kernel⟩, by decide⟩
set_option maxRecDepth 100000 in
theorem cw_X3_readClause : rm_cwd mX3_readClause 2 := ⟨List.mem_filter.mpr ⟨List.mem_of_getElem? (i := 656) rfl, rfl⟩, rm_wd_in (i := 102) (by decide +kernel), ⟨by decide, by decide, by decide +kernel⟩, by decide⟩
set_option maxRecDepth 100000 in
theorem cw_X3_readQuestion : rm_cwd mX3_readQuestion 1 := ⟨List.mem_filter.mpr ⟨List.mem_of_getElem? (i := 678) rfl, rfl⟩, rm_wd_in (i := 102) (by decide +kernel), ⟨by decide, by decide, by decide +kernel⟩, by decide⟩
set_option maxRecDepth 100000 in
theorem cw_X3_readAlike : rm_cwd mX3_readAlike 1 := ⟨List.mem_filter.mpr ⟨List.mem_of_getElem? (i := 682) rfl, rfl⟩, rm_wd_in (i := 102) (by decide +kernel), ⟨by decide, by decide, by decide +kernel⟩, by decide⟩
set_option maxRecDepth 100000 in
theorem cw_X4_init : rm_cwd mX4_init 0 := ⟨List.mem_filter.mpr ⟨List.mem_of_getElem? (i := 396) rfl, rfl⟩, rm_wd_in (i := 106) (by decide +kernel), ⟨by decide, by decide, by decide +kernel⟩, by decide⟩
set_option maxRecDepth 100000 in
theorem cw_X4_find : rm_cwd mX4_find 2 := ⟨List.mem_filter.mpr ⟨List.mem_of_getElem? (i := 956) rfl, rfl⟩, rm_wd_in (i := 106) (by decide +kernel), ⟨by decide, by decide, by decide +kernel⟩, by decide⟩
set_option maxRecDepth 100000 in
theorem cw_X4_tryFrom : rm_cwd mX4_tryFrom 2 := ⟨List.mem_filter.mpr ⟨List.mem_of_getElem? (i := 961) rfl, rfl⟩, rm_wd_in (i := 106) (by decide +kernel), ⟨by decide, by decide, by decide +kernel⟩, by decide⟩
set_option maxRecDepth 100000 in
theorem cw_X4_keepIfBetter : rm_cwd mX4_keepIfBetter 1 := ⟨List.mem_filter.mpr ⟨List.mem_of_getElem? (i := 969) rfl, rfl⟩, rm_wd_in (i := 106) (by decide +kernel), ⟨by decide, by decide, by decide +kernel⟩, by decide⟩
set_option maxRecDepth 100000 in
theorem cw_X5_init : rm_cwd mX5_init 1 := ⟨List.mem_filter.mpr ⟨List.mem_of_getElem? (i := 762) rfl, rfl⟩, rm_wd_in (i := 116) (by decide +kernel), ⟨by decide, by decide, by decide +kernel⟩, by decide⟩
set_option maxRecDepth 100000 in
theorem cw_X5_sumFor : rm_cwd mX5_sumFor 2 := ⟨List.mem_filter.mpr ⟨List.mem_of_getElem? (i := 860) rfl, rfl⟩, rm_wd_in (i := 116) (by decide +kernel), ⟨by decide, by decide, by decide +kernel⟩, by decide⟩
set_option maxRecDepth 100000 in
theorem cw_X5_joined : rm_cwd mX5_joined 3 := ⟨List.mem_filter.mpr ⟨List.mem_of_getElem? (i := 874) rfl, rfl⟩, rm_wd_in (i := 116) (by decide +kernel), ⟨by decide, by decide, by decide +kernel⟩, by decide⟩
set_option maxRecDepth 100000 in
theorem cw_X5_isSo : rm_cwd mX5_isSo 3 := ⟨List.mem_filter.mpr ⟨List.mem_of_getElem? (i := 877) rfl, rfl⟩, rm_wd_in (i := 116) (by decide +kernel), ⟨by decide, by decide, by decide +kernel⟩, by decide⟩
set_option maxRecDepth 100000 in
theorem cw_X6_init : rm_cwd mX6_init 0 := ⟨List.mem_filter.mpr ⟨List.mem_of_getElem? (i := 168) rfl, rfl⟩, rm_wd_in (i := 99) (by decide +kernel), ⟨by decide, by decide, by decide +kernel⟩, by decide⟩
set_option maxRecDepth 100000 in
theorem cw_X6_read : rm_cwd mX6_read 1 := ⟨List.mem_filter.mpr ⟨List.mem_of_getElem? (i := 709) rfl, rfl⟩, rm_wd_in (i := 99) (by decide +kernel), ⟨by decide, by decide, by decide +kernel⟩, by decide⟩
set_option maxRecDepth 100000 in
theorem cw_X6_readTest : rm_cwd mX6_readTest 2 := ⟨List.mem_filter.mpr ⟨List.mem_of_getElem? (i := 736) rfl, rfl⟩, rm_wd_in (i := 99) (by decide +kernel), ⟨by decide, by decide, by decide +kernel⟩, by decide⟩
set_option maxRecDepth 100000 in
theorem cw_X6_readFact : rm_cwd mX6_readFact 2 := ⟨List.mem_filter.mpr ⟨List.mem_of_getElem? (i := 740) rfl, rfl⟩, rm_wd_in (i := 99) (by decide +kernel), ⟨by decide, by decide, by decide +kernel⟩, by decide⟩
set_option maxRecDepth 100000 in
theorem cw_X6_readSign : rm_cwd mX6_readSign 1 := ⟨List.mem_filter.mpr ⟨List.mem_of_getElem? (i := 744) rfl, rfl⟩, rm_wd_in (i := 99) (by decide +kernel), ⟨by decide, by decide, by decide +kernel⟩, by decide⟩
set_option maxRecDepth 100000 in
theorem cw_X6_readSum : rm_cwd mX6_readSum 1 := ⟨List.mem_filter.mpr ⟨List.mem_of_getElem? (i := 716) rfl, rfl⟩, rm_wd_in (i := 99) (by decide +kernel), ⟨by decide, by decide, by decide +kernel⟩, by decide⟩
set_option maxRecDepth 100000 in
theorem cw_X6_readValue : rm_cwd mX6_readValue 1 := ⟨List.mem_filter.mpr ⟨List.mem_of_getElem? (i := 720) rfl, rfl⟩, rm_wd_in (i := 99) (by decide +kernel), ⟨by decide, by decide, by decide +kernel⟩, by decide⟩
set_option maxRecDepth 100000 in
theorem cw_X6_addToken : rm_cwd mX6_addToken 1 := ⟨List.mem_filter.mpr ⟨List.mem_of_getElem? (i := 732) rfl, rfl⟩, rm_wd_in (i := 99) (by decide +kernel), ⟨by decide, by decide, by decide +kernel⟩, by decide⟩
set_option maxRecDepth 100000 in
theorem cw_X6_add : rm_cwd mX6_add 1 := ⟨List.mem_filter.mpr ⟨List.mem_of_getElem? (i := 728) rfl, rfl⟩, rm_wd_in (i := 99) (by decide +kernel), ⟨by decide, by decide, by decide +kernel⟩, by decide⟩
set_option maxRecDepth 100000 in
theorem cw_X7_init : rm_cwd mX7_init 1 := ⟨List.mem_filter.mpr ⟨List.mem_of_getElem? (i := 260) rfl, rfl⟩, rm_wd_in (i := 103) (by decide +kernel), ⟨by decide, by decide, by decide +kernel⟩, by decide⟩
set_option maxRecDepth 100000 in
theorem cw_X7_beginIn : rm_cwd mX7_beginIn 1 := ⟨List.mem_filter.mpr ⟨List.mem_of_getElem? (i := 698) rfl, rfl⟩, rm_wd_in (i := 103) (by decide +kernel), ⟨by decide, by decide, by decide +kernel⟩, by decide⟩
set_option maxRecDepth 100000 in
theorem cw_X7_copyFrom : rm_cwd mX7_copyFrom 1 := ⟨List.mem_filter.mpr ⟨List.mem_of_getElem? (i := 822) rfl, rfl⟩, rm_wd_in (i := 103) (by decide +kernel), ⟨by decide, by decide, by decide +kernel⟩, by decide⟩
set_option maxRecDepth 100000 in
theorem cw_X7_balance : rm_cwd mX7_balance 0 := ⟨List.mem_filter.mpr ⟨List.mem_of_getElem? (i := 965) rfl, rfl⟩, rm_wd_in (i := 103) (by decide +kernel), ⟨by decide, by decide, by decide +kernel⟩, by decide⟩
set_option maxRecDepth 100000 in
theorem cw_X7_becameOf : rm_cwd mX7_becameOf 1 := ⟨List.mem_filter.mpr ⟨List.mem_of_getElem? (i := 788) rfl, rfl⟩, rm_wd_in (i := 103) (by decide +kernel), ⟨by decide, by decide, by decide +kernel⟩, by decide⟩
set_option maxRecDepth 100000 in
theorem cw_X7_isLost : rm_cwd mX7_isLost 1 := ⟨List.mem_filter.mpr ⟨List.mem_of_getElem? (i := 792) rfl, rfl⟩, rm_wd_in (i := 103) (by decide +kernel), ⟨by decide, by decide, by decide +kernel⟩, by decide⟩
set_option maxRecDepth 100000 in
theorem cw_X7_isAllSettled : rm_cwd mX7_isAllSettled 0 := ⟨List.mem_filter.mpr ⟨List.mem_of_getElem? (i := 987) rfl, rfl⟩, rm_wd_in (i := 103) (by decide +kernel), ⟨by decide, by decide, by decide +kernel⟩, by decide⟩
set_option maxRecDepth 100000 in
theorem cw_X7_isOpen : rm_cwd mX7_isOpen 1 := ⟨List.mem_filter.mpr ⟨List.mem_of_getElem? (i := 796) rfl, rfl⟩, rm_wd_in (i := 103) (by decide +kernel), ⟨by decide, by decide, by decide +kernel⟩, by decide⟩
set_option maxRecDepth 100000 in
theorem cw_X7_openSet : rm_cwd mX7_openSet 0 := ⟨List.mem_filter.mpr ⟨List.mem_of_getElem? (i := 801) rfl, rfl⟩, rm_wd_in (i := 103) (by decide +kernel), ⟨by decide, by decide, by decide +kernel⟩, by decide⟩
set_option maxRecDepth 100000 in
theorem cw_X7_areAlike : rm_cwd mX7_areAlike 2 := ⟨List.mem_filter.mpr ⟨List.mem_of_getElem? (i := 914) rfl, rfl⟩, rm_wd_in (i := 103) (by decide +kernel), ⟨by decide, by decide, by decide +kernel⟩, by decide⟩
set_option maxRecDepth 100000 in
theorem cw_X7_tieOrCut : rm_cwd mX7_tieOrCut 2 := ⟨List.mem_filter.mpr ⟨List.mem_of_getElem? (i := 910) rfl, rfl⟩, rm_wd_in (i := 103) (by decide +kernel), ⟨by decide, by decide, by decide +kernel⟩, by decide⟩
set_option maxRecDepth 100000 in
theorem cw_X7_brings : rm_cwd mX7_brings 2 := ⟨List.mem_filter.mpr ⟨List.mem_of_getElem? (i := 806) rfl, rfl⟩, rm_wd_in (i := 103) (by decide +kernel), ⟨by decide, by decide, by decide +kernel⟩, by decide⟩
set_option maxRecDepth 100000 in
theorem cw_X7_answer : rm_cwd mX7_answer 1 := ⟨List.mem_filter.mpr ⟨List.mem_of_getElem? (i := 885) rfl, rfl⟩, rm_wd_in (i := 103) (by decide +kernel), ⟨by decide, by decide, by decide +kernel⟩, by decide⟩
set_option maxRecDepth 100000 in
theorem cw_X7_covers : rm_cwd mX7_covers 2 := ⟨List.mem_filter.mpr ⟨List.mem_of_getElem? (i := 1005) rfl, rfl⟩, rm_wd_in (i := 103) (by decide +kernel), ⟨by decide, by decide, by decide +kernel⟩, by decide⟩
set_option maxRecDepth 100000 in
theorem cw_X7_wakesByHimself : rm_cwd mX7_wakesByHimself 0 := ⟨List.mem_filter.mpr ⟨List.mem_of_getElem? (i := 847) rfl, rfl⟩, rm_wd_in (i := 103) (by decide +kernel), ⟨by decide, by decide, by decide +kernel⟩, by decide⟩
set_option maxRecDepth 100000 in
theorem cw_X7_isDayWasted : rm_cwd mX7_isDayWasted 0 := ⟨List.mem_filter.mpr ⟨List.mem_of_getElem? (i := 843) rfl, rfl⟩, rm_wd_in (i := 103) (by decide +kernel), ⟨by decide, by decide, by decide +kernel⟩, by decide⟩
set_option maxRecDepth 100000 in
theorem cw_X7_decide : rm_cwd mX7_decide 1 := ⟨List.mem_filter.mpr ⟨List.mem_of_getElem? (i := 881) rfl, rfl⟩, rm_wd_in (i := 103) (by decide +kernel), ⟨by decide, by decide, by decide +kernel⟩, by decide⟩
set_option maxRecDepth 100000 in
theorem cw_X7_endDay : rm_cwd mX7_endDay 0 := ⟨List.mem_filter.mpr ⟨List.mem_of_getElem? (i := 892) rfl, rfl⟩, rm_wd_in (i := 103) (by decide +kernel), ⟨by decide, by decide, by decide +kernel⟩, by decide⟩
set_option maxRecDepth 100000 in
theorem cw_X7_lostWeight : rm_cwd mX7_lostWeight 0 := ⟨List.mem_filter.mpr ⟨List.mem_of_getElem? (i := 1026) rfl, rfl⟩, rm_wd_in (i := 103) (by decide +kernel), ⟨by decide, by decide, by decide +kernel⟩, by decide⟩
set_option maxRecDepth 100000 in
theorem cw_X7_weight : rm_cwd mX7_weight 1 := ⟨List.mem_filter.mpr ⟨List.mem_of_getElem? (i := 1030) rfl, rfl⟩, rm_wd_in (i := 103) (by decide +kernel), ⟨by decide, by decide, by decide +kernel⟩, by decide⟩
set_option maxRecDepth 100000 in
theorem cw_X8_init : rm_cwd mX8_init 0 := ⟨List.mem_filter.mpr ⟨List.mem_of_getElem? (i := 131) rfl, rfl⟩, rm_wd_in (i := 98) (by decide +kernel), ⟨by decide, by decide, by decide +kernel⟩, by decide⟩
set_option maxRecDepth 100000 in
theorem cw_X8_add : rm_cwd mX8_add 1 := ⟨List.mem_filter.mpr ⟨List.mem_of_getElem? (i := 487) rfl, rfl⟩, rm_wd_in (i := 98) (by decide +kernel), ⟨by decide, by decide, by decide +kernel⟩, by decide⟩
set_option maxRecDepth 100000 in
theorem cw_X8_split : rm_cwd mX8_split 0 := ⟨List.mem_filter.mpr ⟨List.mem_of_getElem? (i := 499) rfl, rfl⟩, rm_wd_in (i := 98) (by decide +kernel), ⟨by decide, by decide, by decide +kernel⟩, by decide⟩
set_option maxRecDepth 100000 in
theorem cw_X8_token : rm_cwd mX8_token 0 := ⟨List.mem_filter.mpr ⟨List.mem_of_getElem? (i := 660) rfl, rfl⟩, rm_wd_in (i := 98) (by decide +kernel), ⟨by decide, by decide, by decide +kernel⟩, by decide⟩
set_option maxRecDepth 100000 in
theorem cw_X8_value : rm_cwd mX8_value 0 := ⟨List.mem_filter.mpr ⟨List.mem_of_getElem? (i := 724) rfl, rfl⟩, rm_wd_in (i := 98) (by decide +kernel), ⟨by decide, by decide, by decide +kernel⟩, by decide⟩
set_option maxRecDepth 100000 in
theorem cw_X8_step : rm_cwd mX8_step 0 := ⟨List.mem_filter.mpr ⟨List.mem_of_getElem? (i := 668) rfl, rfl⟩, rm_wd_in (i := 98) (by decide +kernel), ⟨by decide, by decide, by decide +kernel⟩, by decide⟩
set_option maxRecDepth 100000 in
theorem cw_X8_fail : rm_cwd mX8_fail 1 := ⟨List.mem_filter.mpr ⟨List.mem_of_getElem? (i := 664) rfl, rfl⟩, rm_wd_in (i := 98) (by decide +kernel), ⟨by decide, by decide, by decide +kernel⟩, by decide⟩
set_option maxRecDepth 100000 in
theorem cw_X8_number : rm_cwd mX8_number 3 := ⟨List.mem_filter.mpr ⟨List.mem_of_getElem? (i := 672) rfl, rfl⟩, rm_wd_in (i := 98) (by decide +kernel), ⟨by decide, by decide, by decide +kernel⟩, by decide⟩
set_option maxRecDepth 100000 in
theorem cw_X8_goesOn : rm_cwd mX8_goesOn 0 := ⟨List.mem_filter.mpr ⟨List.mem_of_getElem? (i := 690) rfl, rfl⟩, rm_wd_in (i := 98) (by decide +kernel), ⟨by decide, by decide, by decide +kernel⟩, by decide⟩
set_option maxRecDepth 100000 in
theorem cw_X8_splitAt : rm_cwd mX8_splitAt 1 := ⟨List.mem_filter.mpr ⟨List.mem_of_getElem? (i := 507) rfl, rfl⟩, rm_wd_in (i := 98) (by decide +kernel), ⟨by decide, by decide, by decide +kernel⟩, by decide⟩
set_option maxRecDepth 100000 in
theorem cw_X8_splitNumber : rm_cwd mX8_splitNumber 1 := ⟨List.mem_filter.mpr ⟨List.mem_of_getElem? (i := 514) rfl, rfl⟩, rm_wd_in (i := 98) (by decide +kernel), ⟨by decide, by decide, by decide +kernel⟩, by decide⟩
set_option maxRecDepth 100000 in
theorem cw_X8_splitWord : rm_cwd mX8_splitWord 1 := ⟨List.mem_filter.mpr ⟨List.mem_of_getElem? (i := 525) rfl, rfl⟩, rm_wd_in (i := 98) (by decide +kernel), ⟨by decide, by decide, by decide +kernel⟩, by decide⟩
set_option maxRecDepth 100000 in
theorem cw_X8_splitSign : rm_cwd mX8_splitSign 1 := ⟨List.mem_filter.mpr ⟨List.mem_of_getElem? (i := 586) rfl, rfl⟩, rm_wd_in (i := 98) (by decide +kernel), ⟨by decide, by decide, by decide +kernel⟩, by decide⟩
set_option maxRecDepth 100000 in
theorem cw_X8_put : rm_cwd mX8_put 3 := ⟨List.mem_filter.mpr ⟨List.mem_of_getElem? (i := 518) rfl, rfl⟩, rm_wd_in (i := 98) (by decide +kernel), ⟨by decide, by decide, by decide +kernel⟩, by decide⟩
set_option maxRecDepth 100000 in
theorem cw_X8_wordOf : rm_cwd mX8_wordOf 2 := ⟨List.mem_filter.mpr ⟨List.mem_of_getElem? (i := 529) rfl, rfl⟩, rm_wd_in (i := 98) (by decide +kernel), ⟨by decide, by decide, by decide +kernel⟩, by decide⟩
set_option maxRecDepth 100000 in
theorem cw_X8_isSame : rm_cwd mX8_isSame 3 := ⟨List.mem_filter.mpr ⟨List.mem_of_getElem? (i := 582) rfl, rfl⟩, rm_wd_in (i := 98) (by decide +kernel), ⟨by decide, by decide, by decide +kernel⟩, by decide⟩
set_option maxRecDepth 100000 in
theorem cw_X8_byteAt : rm_cwd mX8_byteAt 1 := ⟨List.mem_filter.mpr ⟨List.mem_of_getElem? (i := 503) rfl, rfl⟩, rm_wd_in (i := 98) (by decide +kernel), ⟨by decide, by decide, by decide +kernel⟩, by decide⟩
set_option maxRecDepth 100000 in
theorem cw_X8_isDigit : rm_cwd mX8_isDigit 1 := ⟨List.mem_filter.mpr ⟨List.mem_of_getElem? (i := 510) rfl, rfl⟩, rm_wd_in (i := 98) (by decide +kernel), ⟨by decide, by decide, by decide +kernel⟩, by decide⟩
set_option maxRecDepth 100000 in
theorem cw_X8_isLetter : rm_cwd mX8_isLetter 1 := ⟨List.mem_filter.mpr ⟨List.mem_of_getElem? (i := 521) rfl, rfl⟩, rm_wd_in (i := 98) (by decide +kernel), ⟨by decide, by decide, by decide +kernel⟩, by decide⟩
set_option maxRecDepth 100000 in
theorem cw_X9_init : rm_cwd mX9_init 0 := ⟨List.mem_filter.mpr ⟨List.mem_of_getElem? (i := 369) rfl, rfl⟩, rm_wd_in (i := 105) (by decide +kernel), ⟨by decide, by decide, by decide +kernel⟩, by decide⟩
set_option maxRecDepth 100000 in
theorem cw_X9_start : rm_cwd mX9_start 2 := ⟨List.mem_filter.mpr ⟨List.mem_of_getElem? (i := 834) rfl, rfl⟩, rm_wd_in (i := 105) (by decide +kernel), ⟨by decide, by decide, by decide +kernel⟩, by decide⟩
set_option maxRecDepth 100000 in
theorem cw_X9_startAnew : rm_cwd mX9_startAnew 2 := ⟨List.mem_filter.mpr ⟨List.mem_of_getElem? (i := 1040) rfl, rfl⟩, rm_wd_in (i := 105) (by decide +kernel), ⟨by decide, by decide, by decide +kernel⟩, by decide⟩
set_option maxRecDepth 100000 in
theorem cw_X9_passDay : rm_cwd mX9_passDay 0 := ⟨List.mem_filter.mpr ⟨List.mem_of_getElem? (i := 839) rfl, rfl⟩, rm_wd_in (i := 105) (by decide +kernel), ⟨by decide, by decide, by decide +kernel⟩, by decide⟩
set_option maxRecDepth 100000 in
theorem cw_X9_passDays : rm_cwd mX9_passDays 1 := ⟨List.mem_filter.mpr ⟨List.mem_of_getElem? (i := 942) rfl, rfl⟩, rm_wd_in (i := 105) (by decide +kernel), ⟨by decide, by decide, by decide +kernel⟩, by decide⟩
set_option maxRecDepth 100000 in
theorem cw_X9_balanceBehind : rm_cwd mX9_balanceBehind 1 := ⟨List.mem_filter.mpr ⟨List.mem_of_getElem? (i := 983) rfl, rfl⟩, rm_wd_in (i := 105) (by decide +kernel), ⟨by decide, by decide, by decide +kernel⟩, by decide⟩
set_option maxRecDepth 100000 in
theorem cw_X9_valueOf : rm_cwd mX9_valueOf 2 := ⟨List.mem_filter.mpr ⟨List.mem_of_getElem? (i := 864) rfl, rfl⟩, rm_wd_in (i := 105) (by decide +kernel), ⟨by decide, by decide, by decide +kernel⟩, by decide⟩
set_option maxRecDepth 100000 in
theorem cw_X9_mostUrgent : rm_cwd mX9_mostUrgent 0 := ⟨List.mem_filter.mpr ⟨List.mem_of_getElem? (i := 852) rfl, rfl⟩, rm_wd_in (i := 105) (by decide +kernel), ⟨by decide, by decide, by decide +kernel⟩, by decide⟩
set_option maxRecDepth 100000 in
theorem cw_X9_mostAsked : rm_cwd mX9_mostAsked 0 := ⟨List.mem_filter.mpr ⟨List.mem_of_getElem? (i := 856) rfl, rfl⟩, rm_wd_in (i := 105) (by decide +kernel), ⟨by decide, by decide, by decide +kernel⟩, by decide⟩
set_option maxRecDepth 100000 in
theorem cw_X10_init : rm_cwd mX10_init 0 := ⟨List.mem_filter.mpr ⟨List.mem_of_getElem? (i := 424) rfl, rfl⟩, rm_wd_in (i := 107) (by decide +kernel), ⟨by decide, by decide, by decide +kernel⟩, by decide⟩
set_option maxRecDepth 100000 in
theorem cw_X10_find : rm_cwd mX10_find 3 := ⟨List.mem_filter.mpr ⟨List.mem_of_getElem? (i := 1045) rfl, rfl⟩, rm_wd_in (i := 107) (by decide +kernel), ⟨by decide, by decide, by decide +kernel⟩, by decide⟩
set_option maxRecDepth 100000 in
theorem cw_X10_tryFrom : rm_cwd mX10_tryFrom 5 := ⟨List.mem_filter.mpr ⟨List.mem_of_getElem? (i := 1051) rfl, rfl⟩, rm_wd_in (i := 107) (by decide +kernel), ⟨by decide, by decide, by decide +kernel⟩, by decide⟩
set_option maxRecDepth 100000 in
theorem cw_X10_keep : rm_cwd mX10_keep 2 := ⟨List.mem_filter.mpr ⟨List.mem_of_getElem? (i := 1057) rfl, rfl⟩, rm_wd_in (i := 107) (by decide +kernel), ⟨by decide, by decide, by decide +kernel⟩, by decide⟩
