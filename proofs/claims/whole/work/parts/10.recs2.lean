/-! What a record holds. Printed. -/
theorem rt_J0_length_8abf5 : rm_rt mJ0_length_8abf5 = (some .int) := rfl
theorem mc_J0_length_8abf5 : rm_mc mJ0_length_8abf5 = 0 := rfl
theorem ms_J0_length_8abf5 : rm_ms mJ0_length_8abf5 = 0 := rfl
theorem ci_J0_length_8abf5 : rm_ci mJ0_length_8abf5 = 99 := rfl
theorem rt_J0_charAt_5068e : rm_rt mJ0_charAt_5068e = (some .char) := rfl
theorem mc_J0_charAt_5068e : rm_mc mJ0_charAt_5068e = 0 := rfl
theorem ms_J0_charAt_5068e : rm_ms mJ0_charAt_5068e = 0 := rfl
theorem ci_J0_charAt_5068e : rm_ci mJ0_charAt_5068e = 99 := rfl
theorem rt_J0_indexOf_0f7a4 : rm_rt mJ0_indexOf_0f7a4 = (some .int) := rfl
theorem mc_J0_indexOf_0f7a4 : rm_mc mJ0_indexOf_0f7a4 = 0 := rfl
theorem ms_J0_indexOf_0f7a4 : rm_ms mJ0_indexOf_0f7a4 = 0 := rfl
theorem ci_J0_indexOf_0f7a4 : rm_ci mJ0_indexOf_0f7a4 = 99 := rfl
theorem rt_J7_copyOf_59c91 : rm_rt mJ7_copyOf_59c91 = (some (.array .int)) := rfl
theorem mc_J7_copyOf_59c91 : rm_mc mJ7_copyOf_59c91 = 1 := rfl
theorem ms_J7_copyOf_59c91 : rm_ms mJ7_copyOf_59c91 = 400 := rfl
theorem ci_J7_copyOf_59c91 : rm_ci mJ7_copyOf_59c91 = 99 := rfl
theorem rt_J6_bitCount_0f7a4 : rm_rt mJ6_bitCount_0f7a4 = (some .int) := rfl
theorem mc_J6_bitCount_0f7a4 : rm_mc mJ6_bitCount_0f7a4 = 0 := rfl
theorem ms_J6_bitCount_0f7a4 : rm_ms mJ6_bitCount_0f7a4 = 0 := rfl
theorem ci_J6_bitCount_0f7a4 : rm_ci mJ6_bitCount_0f7a4 = 99 := rfl
theorem rt_X11_init : rm_rt mX11_init = none := rfl
theorem mc_X11_init : rm_mc mX11_init = 152 := rfl
theorem ms_X11_init : rm_ms mX11_init = 3810 := rfl
theorem ci_X11_init : rm_ci mX11_init = 11 := rfl
theorem rt_X11_feed : rm_rt mX11_feed = (some .int) := rfl
theorem mc_X11_feed : rm_mc mX11_feed = 0 := rfl
theorem ms_X11_feed : rm_ms mX11_feed = 0 := rfl
theorem ci_X11_feed : rm_ci mX11_feed = 11 := rfl
theorem rt_X11_end : rm_rt mX11_end = (some .int) := rfl
theorem mc_X11_end : rm_mc mX11_end = 0 := rfl
theorem ms_X11_end : rm_ms mX11_end = 0 := rfl
theorem ci_X11_end : rm_ci mX11_end = 11 := rfl
theorem rt_X11_realm : rm_rt mX11_realm = (some .int) := rfl
theorem mc_X11_realm : rm_mc mX11_realm = 5 := rfl
theorem ms_X11_realm : rm_ms mX11_realm = 41 := rfl
theorem ci_X11_realm : rm_ci mX11_realm = 11 := rfl
theorem rt_X11_rule : rm_rt mX11_rule = (some .int) := rfl
theorem mc_X11_rule : rm_mc mX11_rule = 2 := rfl
theorem ms_X11_rule : rm_ms mX11_rule = 401 := rfl
theorem ci_X11_rule : rm_ci mX11_rule = 11 := rfl
theorem rt_X11_force : rm_rt mX11_force = (some .int) := rfl
theorem mc_X11_force : rm_mc mX11_force = 0 := rfl
theorem ms_X11_force : rm_ms mX11_force = 0 := rfl
theorem ci_X11_force : rm_ci mX11_force = 11 := rfl
theorem rt_X11_question : rm_rt mX11_question = (some .int) := rfl
theorem mc_X11_question : rm_mc mX11_question = 0 := rfl
theorem ms_X11_question : rm_ms mX11_question = 0 := rfl
theorem ci_X11_question : rm_ci mX11_question = 11 := rfl
theorem rt_X11_day : rm_rt mX11_day = (some .int) := rfl
theorem mc_X11_day : rm_mc mX11_day = 0 := rfl
theorem ms_X11_day : rm_ms mX11_day = 0 := rfl
theorem ci_X11_day : rm_ci mX11_day = 11 := rfl
theorem rt_X11_use : rm_rt mX11_use = (some .int) := rfl
theorem mc_X11_use : rm_mc mX11_use = 0 := rfl
theorem ms_X11_use : rm_ms mX11_use = 0 := rfl
theorem ci_X11_use : rm_ci mX11_use = 11 := rfl
theorem rt_X11_egg : rm_rt mX11_egg = (some .int) := rfl
theorem mc_X11_egg : rm_mc mX11_egg = 0 := rfl
theorem ms_X11_egg : rm_ms mX11_egg = 0 := rfl
theorem ci_X11_egg : rm_ci mX11_egg = 11 := rfl
theorem rt_X11_tie : rm_rt mX11_tie = (some .int) := rfl
theorem mc_X11_tie : rm_mc mX11_tie = 0 := rfl
theorem ms_X11_tie : rm_ms mX11_tie = 0 := rfl
theorem ci_X11_tie : rm_ci mX11_tie = 11 := rfl
theorem rt_X11_grow : rm_rt mX11_grow = (some .int) := rfl
theorem mc_X11_grow : rm_mc mX11_grow = 0 := rfl
theorem ms_X11_grow : rm_ms mX11_grow = 0 := rfl
theorem ci_X11_grow : rm_ci mX11_grow = 11 := rfl
theorem rt_X11_undo : rm_rt mX11_undo = (some .int) := rfl
theorem mc_X11_undo : rm_mc mX11_undo = 0 := rfl
theorem ms_X11_undo : rm_ms mX11_undo = 0 := rfl
theorem ci_X11_undo : rm_ci mX11_undo = 11 := rfl
theorem rt_X11_ahead : rm_rt mX11_ahead = (some .int) := rfl
theorem mc_X11_ahead : rm_mc mX11_ahead = 0 := rfl
theorem ms_X11_ahead : rm_ms mX11_ahead = 0 := rfl
theorem ci_X11_ahead : rm_ci mX11_ahead = 11 := rfl
theorem rt_X11_fate : rm_rt mX11_fate = (some .int) := rfl
theorem mc_X11_fate : rm_mc mX11_fate = 0 := rfl
theorem ms_X11_fate : rm_ms mX11_fate = 0 := rfl
theorem ci_X11_fate : rm_ci mX11_fate = 11 := rfl
theorem rt_X11_row : rm_rt mX11_row = (some .int) := rfl
theorem mc_X11_row : rm_mc mX11_row = 0 := rfl
theorem ms_X11_row : rm_ms mX11_row = 0 := rfl
theorem ci_X11_row : rm_ci mX11_row = 11 := rfl
theorem rt_X11_bind : rm_rt mX11_bind = (some .int) := rfl
theorem mc_X11_bind : rm_mc mX11_bind = 0 := rfl
theorem ms_X11_bind : rm_ms mX11_bind = 0 := rfl
theorem ci_X11_bind : rm_ci mX11_bind = 11 := rfl
theorem rt_X11_rescue : rm_rt mX11_rescue = (some .int) := rfl
theorem mc_X11_rescue : rm_mc mX11_rescue = 0 := rfl
theorem ms_X11_rescue : rm_ms mX11_rescue = 0 := rfl
theorem ci_X11_rescue : rm_ci mX11_rescue = 11 := rfl
theorem rt_X11_cover : rm_rt mX11_cover = (some .int) := rfl
theorem mc_X11_cover : rm_mc mX11_cover = 0 := rfl
theorem ms_X11_cover : rm_ms mX11_cover = 0 := rfl
theorem ci_X11_cover : rm_ci mX11_cover = 11 := rfl
theorem rt_X11_today : rm_rt mX11_today = (some .int) := rfl
theorem mc_X11_today : rm_mc mX11_today = 0 := rfl
theorem ms_X11_today : rm_ms mX11_today = 0 := rfl
theorem ci_X11_today : rm_ci mX11_today = 11 := rfl
theorem rt_X11_waste : rm_rt mX11_waste = (some .int) := rfl
theorem mc_X11_waste : rm_mc mX11_waste = 0 := rfl
theorem ms_X11_waste : rm_ms mX11_waste = 0 := rfl
theorem ci_X11_waste : rm_ci mX11_waste = 11 := rfl
theorem rt_X11_blame : rm_rt mX11_blame = (some .int) := rfl
theorem mc_X11_blame : rm_mc mX11_blame = 0 := rfl
theorem ms_X11_blame : rm_ms mX11_blame = 0 := rfl
theorem ci_X11_blame : rm_ci mX11_blame = 11 := rfl
theorem rt_X11_woke : rm_rt mX11_woke = (some .int) := rfl
theorem mc_X11_woke : rm_mc mX11_woke = 0 := rfl
theorem ms_X11_woke : rm_ms mX11_woke = 0 := rfl
theorem ci_X11_woke : rm_ci mX11_woke = 11 := rfl
theorem rt_X11_note : rm_rt mX11_note = (some .int) := rfl
theorem mc_X11_note : rm_mc mX11_note = 0 := rfl
theorem ms_X11_note : rm_ms mX11_note = 0 := rfl
theorem ci_X11_note : rm_ci mX11_note = 11 := rfl
theorem rt_X11_ruled : rm_rt mX11_ruled = (some .int) := rfl
theorem mc_X11_ruled : rm_mc mX11_ruled = 0 := rfl
theorem ms_X11_ruled : rm_ms mX11_ruled = 0 := rfl
theorem ci_X11_ruled : rm_ci mX11_ruled = 11 := rfl
theorem rt_X11_look : rm_rt mX11_look = (some .int) := rfl
theorem mc_X11_look : rm_mc mX11_look = 0 := rfl
theorem ms_X11_look : rm_ms mX11_look = 0 := rfl
theorem ci_X11_look : rm_ci mX11_look = 11 := rfl
theorem rt_X11_seed : rm_rt mX11_seed = (some .int) := rfl
theorem mc_X11_seed : rm_mc mX11_seed = 0 := rfl
theorem ms_X11_seed : rm_ms mX11_seed = 0 := rfl
theorem ci_X11_seed : rm_ci mX11_seed = 11 := rfl
theorem rt_X11_reigns : rm_rt mX11_reigns = (some .int) := rfl
theorem mc_X11_reigns : rm_mc mX11_reigns = 0 := rfl
theorem ms_X11_reigns : rm_ms mX11_reigns = 0 := rfl
theorem ci_X11_reigns : rm_ci mX11_reigns = 11 := rfl
theorem rt_X11_count : rm_rt mX11_count = (some .int) := rfl
theorem mc_X11_count : rm_mc mX11_count = 0 := rfl
theorem ms_X11_count : rm_ms mX11_count = 0 := rfl
theorem ci_X11_count : rm_ci mX11_count = 11 := rfl
theorem rt_X11_image : rm_rt mX11_image = (some .int) := rfl
theorem mc_X11_image : rm_mc mX11_image = 74 := rfl
theorem ms_X11_image : rm_ms mX11_image = 701 := rfl
theorem ci_X11_image : rm_ci mX11_image = 11 := rfl
theorem rt_X11_back : rm_rt mX11_back = (some .int) := rfl
theorem mc_X11_back : rm_mc mX11_back = 0 := rfl
theorem ms_X11_back : rm_ms mX11_back = 0 := rfl
theorem ci_X11_back : rm_ci mX11_back = 11 := rfl
theorem rt_X11_isWithin : rm_rt mX11_isWithin = (some .boolean) := rfl
theorem mc_X11_isWithin : rm_mc mX11_isWithin = 0 := rfl
theorem ms_X11_isWithin : rm_ms mX11_isWithin = 0 := rfl
theorem ci_X11_isWithin : rm_ci mX11_isWithin = 99 := rfl
theorem rt_X11_isTold : rm_rt mX11_isTold = (some .boolean) := rfl
theorem mc_X11_isTold : rm_mc mX11_isTold = 0 := rfl
theorem ms_X11_isTold : rm_ms mX11_isTold = 0 := rfl
theorem ci_X11_isTold : rm_ci mX11_isTold = 11 := rfl
theorem rt_X11_isQuestion : rm_rt mX11_isQuestion = (some .boolean) := rfl
theorem mc_X11_isQuestion : rm_mc mX11_isQuestion = 0 := rfl
theorem ms_X11_isQuestion : rm_ms mX11_isQuestion = 0 := rfl
theorem ci_X11_isQuestion : rm_ci mX11_isQuestion = 11 := rfl
theorem rt_X11_isRuleOrNone : rm_rt mX11_isRuleOrNone = (some .boolean) := rfl
theorem mc_X11_isRuleOrNone : rm_mc mX11_isRuleOrNone = 0 := rfl
theorem ms_X11_isRuleOrNone : rm_ms mX11_isRuleOrNone = 0 := rfl
theorem ci_X11_isRuleOrNone : rm_ci mX11_isRuleOrNone = 11 := rfl
theorem rt_X11_ruleInForce : rm_rt mX11_ruleInForce = (some (.object "OneDecision$Rule")) := rfl
theorem mc_X11_ruleInForce : rm_mc mX11_ruleInForce = 0 := rfl
theorem ms_X11_ruleInForce : rm_ms mX11_ruleInForce = 0 := rfl
theorem ci_X11_ruleInForce : rm_ci mX11_ruleInForce = 11 := rfl
theorem rt_X11_ruleOrNull : rm_rt mX11_ruleOrNull = (some (.object "OneDecision$Rule")) := rfl
theorem mc_X11_ruleOrNull : rm_mc mX11_ruleOrNull = 0 := rfl
theorem ms_X11_ruleOrNull : rm_ms mX11_ruleOrNull = 0 := rfl
theorem ci_X11_ruleOrNull : rm_ci mX11_ruleOrNull = 11 := rfl
theorem rt_X11_balanceWithEgg : rm_rt mX11_balanceWithEgg = (some .int) := rfl
theorem mc_X11_balanceWithEgg : rm_mc mX11_balanceWithEgg = 0 := rfl
theorem ms_X11_balanceWithEgg : rm_ms mX11_balanceWithEgg = 0 := rfl
theorem ci_X11_balanceWithEgg : rm_ci mX11_balanceWithEgg = 11 := rfl
theorem rt_X11_rescuesAll : rm_rt mX11_rescuesAll = (some .boolean) := rfl
theorem mc_X11_rescuesAll : rm_mc mX11_rescuesAll = 0 := rfl
theorem ms_X11_rescuesAll : rm_ms mX11_rescuesAll = 0 := rfl
theorem ci_X11_rescuesAll : rm_ci mX11_rescuesAll = 11 := rfl
theorem rt_X11_fittingRules : rm_rt mX11_fittingRules = (some .int) := rfl
theorem mc_X11_fittingRules : rm_mc mX11_fittingRules = 0 := rfl
theorem ms_X11_fittingRules : rm_ms mX11_fittingRules = 0 := rfl
theorem ci_X11_fittingRules : rm_ci mX11_fittingRules = 11 := rfl
theorem rt_X11_mostAlikeOn : rm_rt mX11_mostAlikeOn = (some .int) := rfl
theorem mc_X11_mostAlikeOn : rm_mc mX11_mostAlikeOn = 0 := rfl
theorem ms_X11_mostAlikeOn : rm_ms mX11_mostAlikeOn = 0 := rfl
theorem ci_X11_mostAlikeOn : rm_ci mX11_mostAlikeOn = 11 := rfl
theorem rt_X11_drawnBehind : rm_rt mX11_drawnBehind = (some .int) := rfl
theorem mc_X11_drawnBehind : rm_mc mX11_drawnBehind = 0 := rfl
theorem ms_X11_drawnBehind : rm_ms mX11_drawnBehind = 0 := rfl
theorem ci_X11_drawnBehind : rm_ci mX11_drawnBehind = 99 := rfl
theorem rt_X12_init : rm_rt mX12_init = none := rfl
theorem mc_X12_init : rm_mc mX12_init = 35 := rfl
theorem ms_X12_init : rm_ms mX12_init = 10285 := rfl
theorem ci_X12_init : rm_ci mX12_init = 12 := rfl
theorem rt_X12_in : rm_rt mX12_in = (some .boolean) := rfl
theorem mc_X12_in : rm_mc mX12_in = 0 := rfl
theorem ms_X12_in : rm_ms mX12_in = 0 := rfl
theorem ci_X12_in : rm_ci mX12_in = 99 := rfl
theorem rt_X12_bits : rm_rt mX12_bits = (some .int) := rfl
theorem mc_X12_bits : rm_mc mX12_bits = 0 := rfl
theorem ms_X12_bits : rm_ms mX12_bits = 0 := rfl
theorem ci_X12_bits : rm_ci mX12_bits = 99 := rfl
theorem rt_X12_has : rm_rt mX12_has = (some .boolean) := rfl
theorem mc_X12_has : rm_mc mX12_has = 0 := rfl
theorem ms_X12_has : rm_ms mX12_has = 0 := rfl
theorem ci_X12_has : rm_ci mX12_has = 99 := rfl
theorem rt_X12_isRealm : rm_rt mX12_isRealm = (some .boolean) := rfl
theorem mc_X12_isRealm : rm_mc mX12_isRealm = 0 := rfl
theorem ms_X12_isRealm : rm_ms mX12_isRealm = 0 := rfl
theorem ci_X12_isRealm : rm_ci mX12_isRealm = 12 := rfl
theorem rt_X12_isQuestion : rm_rt mX12_isQuestion = (some .boolean) := rfl
theorem mc_X12_isQuestion : rm_mc mX12_isQuestion = 0 := rfl
theorem ms_X12_isQuestion : rm_ms mX12_isQuestion = 0 := rfl
theorem ci_X12_isQuestion : rm_ci mX12_isQuestion = 12 := rfl
theorem rt_X12_feed : rm_rt mX12_feed = (some .int) := rfl
theorem mc_X12_feed : rm_mc mX12_feed = 0 := rfl
theorem ms_X12_feed : rm_ms mX12_feed = 0 := rfl
theorem ci_X12_feed : rm_ci mX12_feed = 12 := rfl
theorem rt_X12_put : rm_rt mX12_put = none := rfl
theorem mc_X12_put : rm_mc mX12_put = 0 := rfl
theorem ms_X12_put : rm_ms mX12_put = 0 := rfl
theorem ci_X12_put : rm_ci mX12_put = 12 := rfl
theorem rt_X12_end : rm_rt mX12_end = (some .int) := rfl
theorem mc_X12_end : rm_mc mX12_end = 0 := rfl
theorem ms_X12_end : rm_ms mX12_end = 0 := rfl
theorem ci_X12_end : rm_ci mX12_end = 12 := rfl
theorem rt_X12_wordOf : rm_rt mX12_wordOf = (some (.object "java/lang/String")) := rfl
theorem mc_X12_wordOf : rm_mc mX12_wordOf = 0 := rfl
theorem ms_X12_wordOf : rm_ms mX12_wordOf = 0 := rfl
theorem ci_X12_wordOf : rm_ci mX12_wordOf = 99 := rfl
theorem rt_X12_fails : rm_rt mX12_fails = none := rfl
theorem mc_X12_fails : rm_mc mX12_fails = 0 := rfl
theorem ms_X12_fails : rm_ms mX12_fails = 0 := rfl
theorem ci_X12_fails : rm_ci mX12_fails = 12 := rfl
theorem rt_X12_sign : rm_rt mX12_sign = (some .int) := rfl
theorem mc_X12_sign : rm_mc mX12_sign = 0 := rfl
theorem ms_X12_sign : rm_ms mX12_sign = 0 := rfl
theorem ci_X12_sign : rm_ci mX12_sign = 12 := rfl
theorem rt_X12_blanks : rm_rt mX12_blanks = none := rfl
theorem mc_X12_blanks : rm_mc mX12_blanks = 0 := rfl
theorem ms_X12_blanks : rm_ms mX12_blanks = 0 := rfl
theorem ci_X12_blanks : rm_ci mX12_blanks = 12 := rfl
theorem rt_X12_isDigit : rm_rt mX12_isDigit = (some .boolean) := rfl
theorem mc_X12_isDigit : rm_mc mX12_isDigit = 0 := rfl
theorem ms_X12_isDigit : rm_ms mX12_isDigit = 0 := rfl
theorem ci_X12_isDigit : rm_ci mX12_isDigit = 12 := rfl
theorem rt_X12_stood : rm_rt mX12_stood = (some .boolean) := rfl
theorem mc_X12_stood : rm_mc mX12_stood = 0 := rfl
theorem ms_X12_stood : rm_ms mX12_stood = 0 := rfl
theorem ci_X12_stood : rm_ci mX12_stood = 12 := rfl
theorem rt_X12_takes : rm_rt mX12_takes = (some .boolean) := rfl
theorem mc_X12_takes : rm_mc mX12_takes = 0 := rfl
theorem ms_X12_takes : rm_ms mX12_takes = 0 := rfl
theorem ci_X12_takes : rm_ci mX12_takes = 12 := rfl
theorem rt_X12_entry : rm_rt mX12_entry = none := rfl
theorem mc_X12_entry : rm_mc mX12_entry = 0 := rfl
theorem ms_X12_entry : rm_ms mX12_entry = 0 := rfl
theorem ci_X12_entry : rm_ci mX12_entry = 12 := rfl
theorem rt_X12_isCounted : rm_rt mX12_isCounted = none := rfl
theorem mc_X12_isCounted : rm_mc mX12_isCounted = 0 := rfl
theorem ms_X12_isCounted : rm_ms mX12_isCounted = 0 := rfl
theorem ci_X12_isCounted : rm_ci mX12_isCounted = 12 := rfl
theorem rt_X12_digits : rm_rt mX12_digits = (some .int) := rfl
theorem mc_X12_digits : rm_mc mX12_digits = 0 := rfl
theorem ms_X12_digits : rm_ms mX12_digits = 0 := rfl
theorem ci_X12_digits : rm_ci mX12_digits = 12 := rfl
theorem rt_X12_value : rm_rt mX12_value = none := rfl
theorem mc_X12_value : rm_mc mX12_value = 0 := rfl
theorem ms_X12_value : rm_ms mX12_value = 0 := rfl
theorem ci_X12_value : rm_ci mX12_value = 12 := rfl
theorem rt_X12_term : rm_rt mX12_term = none := rfl
theorem mc_X12_term : rm_mc mX12_term = 0 := rfl
theorem ms_X12_term : rm_ms mX12_term = 0 := rfl
theorem ci_X12_term : rm_ci mX12_term = 12 := rfl
theorem rt_X12_sum : rm_rt mX12_sum = none := rfl
theorem mc_X12_sum : rm_mc mX12_sum = 0 := rfl
theorem ms_X12_sum : rm_ms mX12_sum = 0 := rfl
theorem ci_X12_sum : rm_ci mX12_sum = 12 := rfl
theorem rt_X12_compared : rm_rt mX12_compared = none := rfl
theorem mc_X12_compared : rm_mc mX12_compared = 0 := rfl
theorem ms_X12_compared : rm_ms mX12_compared = 0 := rfl
theorem ci_X12_compared : rm_ci mX12_compared = 12 := rfl
theorem rt_X12_top : rm_rt mX12_top = (some .int) := rfl
theorem mc_X12_top : rm_mc mX12_top = 0 := rfl
theorem ms_X12_top : rm_ms mX12_top = 0 := rfl
theorem ci_X12_top : rm_ci mX12_top = 12 := rfl
theorem rt_X12_opens : rm_rt mX12_opens = none := rfl
theorem mc_X12_opens : rm_mc mX12_opens = 0 := rfl
theorem ms_X12_opens : rm_ms mX12_opens = 0 := rfl
theorem ci_X12_opens : rm_ci mX12_opens = 12 := rfl
theorem rt_X12_answers : rm_rt mX12_answers = none := rfl
theorem mc_X12_answers : rm_mc mX12_answers = 0 := rfl
theorem ms_X12_answers : rm_ms mX12_answers = 0 := rfl
theorem ci_X12_answers : rm_ci mX12_answers = 12 := rfl
theorem rt_X12_fact : rm_rt mX12_fact = (some .boolean) := rfl
theorem mc_X12_fact : rm_mc mX12_fact = 0 := rfl
theorem ms_X12_fact : rm_ms mX12_fact = 0 := rfl
theorem ci_X12_fact : rm_ci mX12_fact = 12 := rfl
theorem rt_X12_test : rm_rt mX12_test = none := rfl
theorem mc_X12_test : rm_mc mX12_test = 0 := rfl
theorem ms_X12_test : rm_ms mX12_test = 0 := rfl
theorem ci_X12_test : rm_ci mX12_test = 12 := rfl
theorem rt_X12_amount : rm_rt mX12_amount = (some .int) := rfl
theorem mc_X12_amount : rm_mc mX12_amount = 0 := rfl
theorem ms_X12_amount : rm_ms mX12_amount = 0 := rfl
theorem ci_X12_amount : rm_ci mX12_amount = 12 := rfl
theorem rt_X12_realmWord : rm_rt mX12_realmWord = (some (.object "java/lang/String")) := rfl
theorem mc_X12_realmWord : rm_mc mX12_realmWord = 0 := rfl
theorem ms_X12_realmWord : rm_ms mX12_realmWord = 0 := rfl
theorem ci_X12_realmWord : rm_ci mX12_realmWord = 99 := rfl
theorem rt_X12_alikePart : rm_rt mX12_alikePart = none := rfl
theorem mc_X12_alikePart : rm_mc mX12_alikePart = 0 := rfl
theorem ms_X12_alikePart : rm_ms mX12_alikePart = 0 := rfl
theorem ci_X12_alikePart : rm_ci mX12_alikePart = 12 := rfl
theorem rt_X12_realmPart : rm_rt mX12_realmPart = none := rfl
theorem mc_X12_realmPart : rm_mc mX12_realmPart = 0 := rfl
theorem ms_X12_realmPart : rm_ms mX12_realmPart = 0 := rfl
theorem ci_X12_realmPart : rm_ci mX12_realmPart = 12 := rfl
theorem rt_X12_isFull : rm_rt mX12_isFull = (some .boolean) := rfl
theorem mc_X12_isFull : rm_mc mX12_isFull = 0 := rfl
theorem ms_X12_isFull : rm_ms mX12_isFull = 0 := rfl
theorem ci_X12_isFull : rm_ci mX12_isFull = 12 := rfl
theorem rt_X12_realmClause : rm_rt mX12_realmClause = none := rfl
theorem mc_X12_realmClause : rm_mc mX12_realmClause = 0 := rfl
theorem ms_X12_realmClause : rm_ms mX12_realmClause = 0 := rfl
theorem ci_X12_realmClause : rm_ci mX12_realmClause = 12 := rfl
theorem rt_X12_copies : rm_rt mX12_copies = none := rfl
theorem mc_X12_copies : rm_mc mX12_copies = 0 := rfl
theorem ms_X12_copies : rm_ms mX12_copies = 0 := rfl
theorem ci_X12_copies : rm_ci mX12_copies = 99 := rfl
theorem rt_X12_goesOn : rm_rt mX12_goesOn = (some .boolean) := rfl
theorem mc_X12_goesOn : rm_mc mX12_goesOn = 0 := rfl
theorem ms_X12_goesOn : rm_ms mX12_goesOn = 0 := rfl
theorem ci_X12_goesOn : rm_ci mX12_goesOn = 12 := rfl
theorem rt_X12_starts : rm_rt mX12_starts = none := rfl
theorem mc_X12_starts : rm_mc mX12_starts = 0 := rfl
theorem ms_X12_starts : rm_ms mX12_starts = 0 := rfl
theorem ci_X12_starts : rm_ci mX12_starts = 12 := rfl
theorem rt_X12_readsAll : rm_rt mX12_readsAll = none := rfl
theorem mc_X12_readsAll : rm_mc mX12_readsAll = 0 := rfl
theorem ms_X12_readsAll : rm_ms mX12_readsAll = 0 := rfl
theorem ci_X12_readsAll : rm_ci mX12_readsAll = 12 := rfl
theorem rt_X12_begins : rm_rt mX12_begins = none := rfl
theorem mc_X12_begins : rm_mc mX12_begins = 0 := rfl
theorem ms_X12_begins : rm_ms mX12_begins = 0 := rfl
theorem ci_X12_begins : rm_ci mX12_begins = 12 := rfl
theorem rt_X12_realm : rm_rt mX12_realm = (some .int) := rfl
theorem mc_X12_realm : rm_mc mX12_realm = 0 := rfl
theorem ms_X12_realm : rm_ms mX12_realm = 0 := rfl
theorem ci_X12_realm : rm_ci mX12_realm = 12 := rfl
theorem rt_X12_ruleClause : rm_rt mX12_ruleClause = none := rfl
theorem mc_X12_ruleClause : rm_mc mX12_ruleClause = 0 := rfl
theorem ms_X12_ruleClause : rm_ms mX12_ruleClause = 0 := rfl
theorem ci_X12_ruleClause : rm_ci mX12_ruleClause = 12 := rfl
theorem rt_X12_rule : rm_rt mX12_rule = (some .int) := rfl
theorem mc_X12_rule : rm_mc mX12_rule = 0 := rfl
theorem ms_X12_rule : rm_ms mX12_rule = 0 := rfl
theorem ci_X12_rule : rm_ci mX12_rule = 12 := rfl
theorem rt_X12_force : rm_rt mX12_force = (some .int) := rfl
theorem mc_X12_force : rm_mc mX12_force = 0 := rfl
theorem ms_X12_force : rm_ms mX12_force = 0 := rfl
theorem ci_X12_force : rm_ci mX12_force = 12 := rfl
theorem rt_X12_wanted : rm_rt mX12_wanted = (some .long) := rfl
theorem mc_X12_wanted : rm_mc mX12_wanted = 0 := rfl
theorem ms_X12_wanted : rm_ms mX12_wanted = 0 := rfl
theorem ci_X12_wanted : rm_ci mX12_wanted = 12 := rfl
theorem rt_X12_truth : rm_rt mX12_truth = (some .long) := rfl
theorem mc_X12_truth : rm_mc mX12_truth = 0 := rfl
theorem ms_X12_truth : rm_ms mX12_truth = 0 := rfl
theorem ci_X12_truth : rm_ci mX12_truth = 99 := rfl
theorem rt_X12_both : rm_rt mX12_both = (some .long) := rfl
theorem mc_X12_both : rm_mc mX12_both = 0 := rfl
theorem ms_X12_both : rm_ms mX12_both = 0 := rfl
theorem ci_X12_both : rm_ci mX12_both = 99 := rfl
theorem rt_X12_answer : rm_rt mX12_answer = (some .long) := rfl
theorem mc_X12_answer : rm_mc mX12_answer = 0 := rfl
theorem ms_X12_answer : rm_ms mX12_answer = 0 := rfl
theorem ci_X12_answer : rm_ci mX12_answer = 12 := rfl
theorem rt_X12_isOpen : rm_rt mX12_isOpen = (some .boolean) := rfl
theorem mc_X12_isOpen : rm_mc mX12_isOpen = 0 := rfl
theorem ms_X12_isOpen : rm_ms mX12_isOpen = 0 := rfl
theorem ci_X12_isOpen : rm_ci mX12_isOpen = 12 := rfl
theorem rt_X12_openOnes : rm_rt mX12_openOnes = (some .int) := rfl
theorem mc_X12_openOnes : rm_mc mX12_openOnes = 0 := rfl
theorem ms_X12_openOnes : rm_ms mX12_openOnes = 0 := rfl
theorem ci_X12_openOnes : rm_ci mX12_openOnes = 12 := rfl
theorem rt_X12_inBundle : rm_rt mX12_inBundle = (some .int) := rfl
theorem mc_X12_inBundle : rm_mc mX12_inBundle = 0 := rfl
theorem ms_X12_inBundle : rm_ms mX12_inBundle = 0 := rfl
theorem ci_X12_inBundle : rm_ci mX12_inBundle = 12 := rfl
theorem rt_X12_brings : rm_rt mX12_brings = (some .int) := rfl
theorem mc_X12_brings : rm_mc mX12_brings = 0 := rfl
theorem ms_X12_brings : rm_ms mX12_brings = 0 := rfl
theorem ci_X12_brings : rm_ci mX12_brings = 12 := rfl
theorem rt_X12_question : rm_rt mX12_question = (some .int) := rfl
theorem mc_X12_question : rm_mc mX12_question = 0 := rfl
theorem ms_X12_question : rm_ms mX12_question = 0 := rfl
theorem ci_X12_question : rm_ci mX12_question = 12 := rfl
theorem rt_X12_upTo : rm_rt mX12_upTo = (some .int) := rfl
theorem mc_X12_upTo : rm_mc mX12_upTo = 0 := rfl
theorem ms_X12_upTo : rm_ms mX12_upTo = 0 := rfl
theorem ci_X12_upTo : rm_ci mX12_upTo = 99 := rfl
theorem rt_X12_answered : rm_rt mX12_answered = (some .int) := rfl
theorem mc_X12_answered : rm_mc mX12_answered = 0 := rfl
theorem ms_X12_answered : rm_ms mX12_answered = 0 := rfl
theorem ci_X12_answered : rm_ci mX12_answered = 12 := rfl
theorem rt_X12_sumOf : rm_rt mX12_sumOf = (some .long) := rfl
theorem mc_X12_sumOf : rm_mc mX12_sumOf = 0 := rfl
theorem ms_X12_sumOf : rm_ms mX12_sumOf = 0 := rfl
theorem ci_X12_sumOf : rm_ci mX12_sumOf = 12 := rfl
theorem rt_X12_choice : rm_rt mX12_choice = (some .int) := rfl
theorem mc_X12_choice : rm_mc mX12_choice = 0 := rfl
theorem ms_X12_choice : rm_ms mX12_choice = 0 := rfl
theorem ci_X12_choice : rm_ci mX12_choice = 12 := rfl
theorem rt_X12_isWaste : rm_rt mX12_isWaste = (some .boolean) := rfl
theorem mc_X12_isWaste : rm_mc mX12_isWaste = 0 := rfl
theorem ms_X12_isWaste : rm_ms mX12_isWaste = 0 := rfl
theorem ci_X12_isWaste : rm_ci mX12_isWaste = 12 := rfl
theorem rt_X12_goesWith : rm_rt mX12_goesWith = none := rfl
theorem mc_X12_goesWith : rm_mc mX12_goesWith = 0 := rfl
theorem ms_X12_goesWith : rm_ms mX12_goesWith = 0 := rfl
theorem ci_X12_goesWith : rm_ci mX12_goesWith = 12 := rfl
theorem rt_X12_goes : rm_rt mX12_goes = (some .int) := rfl
theorem mc_X12_goes : rm_mc mX12_goes = 0 := rfl
theorem ms_X12_goes : rm_ms mX12_goes = 0 := rfl
theorem ci_X12_goes : rm_ci mX12_goes = 12 := rfl
theorem rt_X12_goFor : rm_rt mX12_goFor = none := rfl
theorem mc_X12_goFor : rm_mc mX12_goFor = 0 := rfl
theorem ms_X12_goFor : rm_ms mX12_goFor = 0 := rfl
theorem ci_X12_goFor : rm_ci mX12_goFor = 12 := rfl
theorem rt_X12_moves : rm_rt mX12_moves = (some .int) := rfl
theorem mc_X12_moves : rm_mc mX12_moves = 0 := rfl
theorem ms_X12_moves : rm_ms mX12_moves = 0 := rfl
theorem ci_X12_moves : rm_ci mX12_moves = 12 := rfl
theorem rt_X12_movesRow : rm_rt mX12_movesRow = none := rfl
theorem mc_X12_movesRow : rm_mc mX12_movesRow = 0 := rfl
theorem ms_X12_movesRow : rm_ms mX12_movesRow = 0 := rfl
theorem ci_X12_movesRow : rm_ci mX12_movesRow = 12 := rfl
theorem rt_X12_movesAll : rm_rt mX12_movesAll = none := rfl
theorem mc_X12_movesAll : rm_mc mX12_movesAll = 0 := rfl
theorem ms_X12_movesAll : rm_ms mX12_movesAll = 0 := rfl
theorem ci_X12_movesAll : rm_ci mX12_movesAll = 12 := rfl
theorem rt_X12_keepsAct : rm_rt mX12_keepsAct = none := rfl
theorem mc_X12_keepsAct : rm_mc mX12_keepsAct = 0 := rfl
theorem ms_X12_keepsAct : rm_ms mX12_keepsAct = 0 := rfl
theorem ci_X12_keepsAct : rm_ci mX12_keepsAct = 12 := rfl
theorem rt_X12_undo : rm_rt mX12_undo = (some .int) := rfl
theorem mc_X12_undo : rm_mc mX12_undo = 0 := rfl
theorem ms_X12_undo : rm_ms mX12_undo = 0 := rfl
theorem ci_X12_undo : rm_ci mX12_undo = 12 := rfl
theorem rt_X12_day : rm_rt mX12_day = (some .int) := rfl
theorem mc_X12_day : rm_mc mX12_day = 0 := rfl
theorem ms_X12_day : rm_ms mX12_day = 0 := rfl
theorem ci_X12_day : rm_ci mX12_day = 12 := rfl
theorem rt_X12_use : rm_rt mX12_use = (some .int) := rfl
theorem mc_X12_use : rm_mc mX12_use = 0 := rfl
theorem ms_X12_use : rm_ms mX12_use = 0 := rfl
theorem ci_X12_use : rm_ci mX12_use = 12 := rfl
theorem rt_X12_egg : rm_rt mX12_egg = (some .int) := rfl
theorem mc_X12_egg : rm_mc mX12_egg = 0 := rfl
theorem ms_X12_egg : rm_ms mX12_egg = 0 := rfl
theorem ci_X12_egg : rm_ci mX12_egg = 12 := rfl
theorem rt_X12_ties : rm_rt mX12_ties = none := rfl
theorem mc_X12_ties : rm_mc mX12_ties = 0 := rfl
theorem ms_X12_ties : rm_ms mX12_ties = 0 := rfl
theorem ci_X12_ties : rm_ci mX12_ties = 12 := rfl
theorem rt_X12_tie : rm_rt mX12_tie = (some .int) := rfl
theorem mc_X12_tie : rm_mc mX12_tie = 0 := rfl
theorem ms_X12_tie : rm_ms mX12_tie = 0 := rfl
theorem ci_X12_tie : rm_ci mX12_tie = 12 := rfl
theorem rt_X12_grow : rm_rt mX12_grow = (some .int) := rfl
theorem mc_X12_grow : rm_mc mX12_grow = 0 := rfl
theorem ms_X12_grow : rm_ms mX12_grow = 0 := rfl
theorem ci_X12_grow : rm_ci mX12_grow = 12 := rfl
theorem rt_X12_keepsAll : rm_rt mX12_keepsAll = none := rfl
theorem mc_X12_keepsAll : rm_mc mX12_keepsAll = 0 := rfl
theorem ms_X12_keepsAll : rm_ms mX12_keepsAll = 0 := rfl
theorem ci_X12_keepsAll : rm_ci mX12_keepsAll = 12 := rfl
theorem rt_X12_laysBack : rm_rt mX12_laysBack = none := rfl
theorem mc_X12_laysBack : rm_mc mX12_laysBack = 0 := rfl
theorem ms_X12_laysBack : rm_ms mX12_laysBack = 0 := rfl
theorem ci_X12_laysBack : rm_ci mX12_laysBack = 12 := rfl
theorem rt_X12_net : rm_rt mX12_net = (some .int) := rfl
theorem mc_X12_net : rm_mc mX12_net = 0 := rfl
theorem ms_X12_net : rm_ms mX12_net = 0 := rfl
theorem ci_X12_net : rm_ci mX12_net = 12 := rfl
theorem rt_X12_netIn : rm_rt mX12_netIn = (some .int) := rfl
theorem mc_X12_netIn : rm_mc mX12_netIn = 0 := rfl
theorem ms_X12_netIn : rm_ms mX12_netIn = 0 := rfl
theorem ci_X12_netIn : rm_ci mX12_netIn = 12 := rfl
theorem rt_X12_ahead : rm_rt mX12_ahead = (some .int) := rfl
theorem mc_X12_ahead : rm_mc mX12_ahead = 0 := rfl
theorem ms_X12_ahead : rm_ms mX12_ahead = 0 := rfl
theorem ci_X12_ahead : rm_ci mX12_ahead = 12 := rfl
theorem rt_X12_fate : rm_rt mX12_fate = (some .int) := rfl
theorem mc_X12_fate : rm_mc mX12_fate = 0 := rfl
theorem ms_X12_fate : rm_ms mX12_fate = 0 := rfl
theorem ci_X12_fate : rm_ci mX12_fate = 12 := rfl
theorem rt_X12_goesRow : rm_rt mX12_goesRow = (some .boolean) := rfl
theorem mc_X12_goesRow : rm_mc mX12_goesRow = 0 := rfl
theorem ms_X12_goesRow : rm_ms mX12_goesRow = 0 := rfl
theorem ci_X12_goesRow : rm_ci mX12_goesRow = 12 := rfl
theorem rt_X12_row : rm_rt mX12_row = (some .int) := rfl
theorem mc_X12_row : rm_mc mX12_row = 0 := rfl
theorem ms_X12_row : rm_ms mX12_row = 0 := rfl
theorem ci_X12_row : rm_ci mX12_row = 12 := rfl
theorem rt_X12_bind : rm_rt mX12_bind = (some .int) := rfl
theorem mc_X12_bind : rm_mc mX12_bind = 0 := rfl
theorem ms_X12_bind : rm_ms mX12_bind = 0 := rfl
theorem ci_X12_bind : rm_ci mX12_bind = 12 := rfl
theorem rt_X12_isRescued : rm_rt mX12_isRescued = (some .boolean) := rfl
theorem mc_X12_isRescued : rm_mc mX12_isRescued = 0 := rfl
theorem ms_X12_isRescued : rm_ms mX12_isRescued = 0 := rfl
theorem ci_X12_isRescued : rm_ci mX12_isRescued = 12 := rfl
theorem rt_X12_rescue : rm_rt mX12_rescue = (some .int) := rfl
theorem mc_X12_rescue : rm_mc mX12_rescue = 0 := rfl
theorem ms_X12_rescue : rm_ms mX12_rescue = 0 := rfl
theorem ci_X12_rescue : rm_ci mX12_rescue = 12 := rfl
theorem rt_X12_isCovered : rm_rt mX12_isCovered = (some .boolean) := rfl
theorem mc_X12_isCovered : rm_mc mX12_isCovered = 0 := rfl
theorem ms_X12_isCovered : rm_ms mX12_isCovered = 0 := rfl
theorem ci_X12_isCovered : rm_ci mX12_isCovered = 12 := rfl
theorem rt_X12_cover : rm_rt mX12_cover = (some .int) := rfl
theorem mc_X12_cover : rm_mc mX12_cover = 0 := rfl
theorem ms_X12_cover : rm_ms mX12_cover = 0 := rfl
theorem ci_X12_cover : rm_ci mX12_cover = 12 := rfl
theorem rt_X12_today : rm_rt mX12_today = (some .int) := rfl
theorem mc_X12_today : rm_mc mX12_today = 0 := rfl
theorem ms_X12_today : rm_ms mX12_today = 0 := rfl
theorem ci_X12_today : rm_ci mX12_today = 12 := rfl
theorem rt_X12_waste : rm_rt mX12_waste = (some .int) := rfl
theorem mc_X12_waste : rm_mc mX12_waste = 0 := rfl
theorem ms_X12_waste : rm_ms mX12_waste = 0 := rfl
theorem ci_X12_waste : rm_ci mX12_waste = 12 := rfl
theorem rt_X12_blame : rm_rt mX12_blame = (some .int) := rfl
theorem mc_X12_blame : rm_mc mX12_blame = 0 := rfl
theorem ms_X12_blame : rm_ms mX12_blame = 0 := rfl
theorem ci_X12_blame : rm_ci mX12_blame = 12 := rfl
theorem rt_X12_triesWoke : rm_rt mX12_triesWoke = none := rfl
theorem mc_X12_triesWoke : rm_mc mX12_triesWoke = 0 := rfl
theorem ms_X12_triesWoke : rm_ms mX12_triesWoke = 0 := rfl
theorem ci_X12_triesWoke : rm_ci mX12_triesWoke = 12 := rfl
theorem rt_X12_woke : rm_rt mX12_woke = (some .int) := rfl
theorem mc_X12_woke : rm_mc mX12_woke = 0 := rfl
theorem ms_X12_woke : rm_ms mX12_woke = 0 := rfl
theorem ci_X12_woke : rm_ci mX12_woke = 12 := rfl
theorem rt_X12_note : rm_rt mX12_note = (some .int) := rfl
theorem mc_X12_note : rm_mc mX12_note = 0 := rfl
theorem ms_X12_note : rm_ms mX12_note = 0 := rfl
theorem ci_X12_note : rm_ci mX12_note = 12 := rfl
theorem rt_X12_couldRule : rm_rt mX12_couldRule = (some .boolean) := rfl
theorem mc_X12_couldRule : rm_mc mX12_couldRule = 0 := rfl
theorem ms_X12_couldRule : rm_ms mX12_couldRule = 0 := rfl
theorem ci_X12_couldRule : rm_ci mX12_couldRule = 12 := rfl
theorem rt_X12_ruled : rm_rt mX12_ruled = (some .int) := rfl
theorem mc_X12_ruled : rm_mc mX12_ruled = 0 := rfl
theorem ms_X12_ruled : rm_ms mX12_ruled = 0 := rfl
theorem ci_X12_ruled : rm_ci mX12_ruled = 12 := rfl
theorem rt_X12_mostAlike : rm_rt mX12_mostAlike = (some .int) := rfl
theorem mc_X12_mostAlike : rm_mc mX12_mostAlike = 0 := rfl
theorem ms_X12_mostAlike : rm_ms mX12_mostAlike = 0 := rfl
theorem ci_X12_mostAlike : rm_ci mX12_mostAlike = 12 := rfl
theorem rt_X12_look : rm_rt mX12_look = (some .int) := rfl
theorem mc_X12_look : rm_mc mX12_look = 0 := rfl
theorem ms_X12_look : rm_ms mX12_look = 0 := rfl
theorem ci_X12_look : rm_ci mX12_look = 12 := rfl
theorem rt_X12_seed : rm_rt mX12_seed = (some .int) := rfl
theorem mc_X12_seed : rm_mc mX12_seed = 0 := rfl
theorem ms_X12_seed : rm_ms mX12_seed = 0 := rfl
theorem ci_X12_seed : rm_ci mX12_seed = 12 := rfl
theorem rt_X12_draws : rm_rt mX12_draws = (some .int) := rfl
theorem mc_X12_draws : rm_mc mX12_draws = 0 := rfl
theorem ms_X12_draws : rm_ms mX12_draws = 0 := rfl
theorem ci_X12_draws : rm_ci mX12_draws = 12 := rfl
theorem rt_X12_reigns : rm_rt mX12_reigns = (some .int) := rfl
theorem mc_X12_reigns : rm_mc mX12_reigns = 0 := rfl
theorem ms_X12_reigns : rm_ms mX12_reigns = 0 := rfl
theorem ci_X12_reigns : rm_ci mX12_reigns = 12 := rfl
theorem rt_X12_count : rm_rt mX12_count = (some .int) := rfl
theorem mc_X12_count : rm_mc mX12_count = 0 := rfl
theorem ms_X12_count : rm_ms mX12_count = 0 := rfl
theorem ci_X12_count : rm_ci mX12_count = 12 := rfl
theorem rt_X12_carryRow : rm_rt mX12_carryRow = none := rfl
theorem mc_X12_carryRow : rm_mc mX12_carryRow = 0 := rfl
theorem ms_X12_carryRow : rm_ms mX12_carryRow = 0 := rfl
theorem ci_X12_carryRow : rm_ci mX12_carryRow = 12 := rfl
theorem rt_X12_carriesAll : rm_rt mX12_carriesAll = none := rfl
theorem mc_X12_carriesAll : rm_mc mX12_carriesAll = 0 := rfl
theorem ms_X12_carriesAll : rm_ms mX12_carriesAll = 0 := rfl
theorem ci_X12_carriesAll : rm_ci mX12_carriesAll = 12 := rfl
theorem rt_X12_image : rm_rt mX12_image = (some .int) := rfl
theorem mc_X12_image : rm_mc mX12_image = 0 := rfl
theorem ms_X12_image : rm_ms mX12_image = 0 := rfl
theorem ci_X12_image : rm_ci mX12_image = 12 := rfl
theorem rt_X12_back : rm_rt mX12_back = (some .int) := rfl
theorem mc_X12_back : rm_mc mX12_back = 0 := rfl
theorem ms_X12_back : rm_ms mX12_back = 0 := rfl
theorem ci_X12_back : rm_ci mX12_back = 12 := rfl
theorem rt_X0_init : rm_rt mX0_init = none := rfl
theorem mc_X0_init : rm_mc mX0_init = 73 := rfl
theorem ms_X0_init : rm_ms mX0_init = 696 := rfl
theorem ci_X0_init : rm_ci mX0_init = 0 := rfl
theorem rt_X0_begin : rm_rt mX0_begin = none := rfl
theorem mc_X0_begin : rm_mc mX0_begin = 0 := rfl
theorem ms_X0_begin : rm_ms mX0_begin = 0 := rfl
theorem ci_X0_begin : rm_ci mX0_begin = 0 := rfl
theorem rt_X0_copyFrom : rm_rt mX0_copyFrom = none := rfl
theorem mc_X0_copyFrom : rm_mc mX0_copyFrom = 0 := rfl
theorem ms_X0_copyFrom : rm_ms mX0_copyFrom = 0 := rfl
theorem ci_X0_copyFrom : rm_ci mX0_copyFrom = 0 := rfl
theorem rt_X1_init : rm_rt mX1_init = none := rfl
theorem mc_X1_init : rm_mc mX1_init = 2 := rfl
theorem ms_X1_init : rm_ms mX1_init = 20 := rfl
theorem ci_X1_init : rm_ci mX1_init = 1 := rfl
theorem rt_X1_isFull : rm_rt mX1_isFull = (some .boolean) := rfl
theorem mc_X1_isFull : rm_mc mX1_isFull = 0 := rfl
theorem ms_X1_isFull : rm_ms mX1_isFull = 0 := rfl
theorem ci_X1_isFull : rm_ci mX1_isFull = 1 := rfl
theorem rt_X1_add : rm_rt mX1_add = none := rfl
theorem mc_X1_add : rm_mc mX1_add = 0 := rfl
theorem ms_X1_add : rm_ms mX1_add = 0 := rfl
theorem ci_X1_add : rm_ci mX1_add = 1 := rfl
theorem rt_X1_areSo : rm_rt mX1_areSo = (some .boolean) := rfl
theorem mc_X1_areSo : rm_mc mX1_areSo = 0 := rfl
theorem ms_X1_areSo : rm_ms mX1_areSo = 0 := rfl
theorem ci_X1_areSo : rm_ci mX1_areSo = 1 := rfl
theorem rt_X1_copyFrom : rm_rt mX1_copyFrom = none := rfl
theorem mc_X1_copyFrom : rm_mc mX1_copyFrom = 0 := rfl
theorem ms_X1_copyFrom : rm_ms mX1_copyFrom = 0 := rfl
theorem ci_X1_copyFrom : rm_ci mX1_copyFrom = 1 := rfl
theorem rt_X2_init : rm_rt mX2_init = none := rfl
theorem mc_X2_init : rm_mc mX2_init = 61 := rfl
theorem ms_X2_init : rm_ms mX2_init = 600 := rfl
theorem ci_X2_init : rm_ci mX2_init = 2 := rfl
theorem rt_X2_push : rm_rt mX2_push = none := rfl
theorem mc_X2_push : rm_mc mX2_push = 0 := rfl
theorem ms_X2_push : rm_ms mX2_push = 0 := rfl
theorem ci_X2_push : rm_ci mX2_push = 2 := rfl
theorem rt_X2_pop : rm_rt mX2_pop = none := rfl
theorem mc_X2_pop : rm_mc mX2_pop = 0 := rfl
theorem ms_X2_pop : rm_ms mX2_pop = 0 := rfl
theorem ci_X2_pop : rm_ci mX2_pop = 2 := rfl
theorem rt_X2_copyFrom : rm_rt mX2_copyFrom = none := rfl
theorem mc_X2_copyFrom : rm_mc mX2_copyFrom = 0 := rfl
theorem ms_X2_copyFrom : rm_ms mX2_copyFrom = 0 := rfl
theorem ci_X2_copyFrom : rm_ci mX2_copyFrom = 2 := rfl
theorem rt_X2_placeOf : rm_rt mX2_placeOf = (some .int) := rfl
theorem mc_X2_placeOf : rm_mc mX2_placeOf = 0 := rfl
theorem ms_X2_placeOf : rm_ms mX2_placeOf = 0 := rfl
theorem ci_X2_placeOf : rm_ci mX2_placeOf = 2 := rfl
theorem rt_X3_init : rm_rt mX3_init = none := rfl
theorem mc_X3_init : rm_mc mX3_init = 4 := rfl
theorem ms_X3_init : rm_ms mX3_init = 32 := rfl
theorem ci_X3_init : rm_ci mX3_init = 3 := rfl
theorem rt_X3_has : rm_rt mX3_has = (some .boolean) := rfl
theorem mc_X3_has : rm_mc mX3_has = 0 := rfl
theorem ms_X3_has : rm_ms mX3_has = 0 := rfl
theorem ci_X3_has : rm_ci mX3_has = 3 := rfl
theorem rt_X3_readFrom : rm_rt mX3_readFrom = none := rfl
theorem mc_X3_readFrom : rm_mc mX3_readFrom = 0 := rfl
theorem ms_X3_readFrom : rm_ms mX3_readFrom = 0 := rfl
theorem ci_X3_readFrom : rm_ci mX3_readFrom = 3 := rfl
theorem rt_X3_readClause : rm_rt mX3_readClause = none := rfl
theorem mc_X3_readClause : rm_mc mX3_readClause = 0 := rfl
theorem ms_X3_readClause : rm_ms mX3_readClause = 0 := rfl
theorem ci_X3_readClause : rm_ci mX3_readClause = 3 := rfl
theorem rt_X3_readQuestion : rm_rt mX3_readQuestion = none := rfl
theorem mc_X3_readQuestion : rm_mc mX3_readQuestion = 0 := rfl
theorem ms_X3_readQuestion : rm_ms mX3_readQuestion = 0 := rfl
theorem ci_X3_readQuestion : rm_ci mX3_readQuestion = 3 := rfl
theorem rt_X3_readAlike : rm_rt mX3_readAlike = none := rfl
theorem mc_X3_readAlike : rm_mc mX3_readAlike = 0 := rfl
theorem ms_X3_readAlike : rm_ms mX3_readAlike = 0 := rfl
theorem ci_X3_readAlike : rm_ci mX3_readAlike = 3 := rfl
theorem rt_X4_init : rm_rt mX4_init = none := rfl
theorem mc_X4_init : rm_mc mX4_init = 23 := rfl
theorem ms_X4_init : rm_ms mX4_init = 199 := rfl
theorem ci_X4_init : rm_ci mX4_init = 4 := rfl
theorem rt_X4_find : rm_rt mX4_find = none := rfl
theorem mc_X4_find : rm_mc mX4_find = 0 := rfl
theorem ms_X4_find : rm_ms mX4_find = 0 := rfl
theorem ci_X4_find : rm_ci mX4_find = 4 := rfl
theorem rt_X4_tryFrom : rm_rt mX4_tryFrom = none := rfl
theorem mc_X4_tryFrom : rm_mc mX4_tryFrom = 0 := rfl
theorem ms_X4_tryFrom : rm_ms mX4_tryFrom = 0 := rfl
theorem ci_X4_tryFrom : rm_ci mX4_tryFrom = 4 := rfl
theorem rt_X4_keepIfBetter : rm_rt mX4_keepIfBetter = none := rfl
theorem mc_X4_keepIfBetter : rm_mc mX4_keepIfBetter = 0 := rfl
theorem ms_X4_keepIfBetter : rm_ms mX4_keepIfBetter = 0 := rfl
theorem ci_X4_keepIfBetter : rm_ci mX4_keepIfBetter = 4 := rfl
theorem rt_X5_init : rm_rt mX5_init = none := rfl
theorem mc_X5_init : rm_mc mX5_init = 0 := rfl
theorem ms_X5_init : rm_ms mX5_init = 0 := rfl
theorem ci_X5_init : rm_ci mX5_init = 5 := rfl
theorem rt_X5_sumFor : rm_rt mX5_sumFor = (some .long) := rfl
theorem mc_X5_sumFor : rm_mc mX5_sumFor = 0 := rfl
theorem ms_X5_sumFor : rm_ms mX5_sumFor = 0 := rfl
theorem ci_X5_sumFor : rm_ci mX5_sumFor = 5 := rfl
theorem rt_X5_joined : rm_rt mX5_joined = (some .long) := rfl
theorem mc_X5_joined : rm_mc mX5_joined = 0 := rfl
theorem ms_X5_joined : rm_ms mX5_joined = 0 := rfl
theorem ci_X5_joined : rm_ci mX5_joined = 99 := rfl
theorem rt_X5_isSo : rm_rt mX5_isSo = (some .boolean) := rfl
theorem mc_X5_isSo : rm_mc mX5_isSo = 0 := rfl
theorem ms_X5_isSo : rm_ms mX5_isSo = 0 := rfl
theorem ci_X5_isSo : rm_ci mX5_isSo = 99 := rfl
theorem rt_X6_init : rm_rt mX6_init = none := rfl
theorem mc_X6_init : rm_mc mX6_init = 1 := rfl
theorem ms_X6_init : rm_ms mX6_init = 400 := rfl
theorem ci_X6_init : rm_ci mX6_init = 6 := rfl
theorem rt_X6_read : rm_rt mX6_read = (some (.object "OneDecision$Rule")) := rfl
theorem mc_X6_read : rm_mc mX6_read = 2 := rfl
theorem ms_X6_read : rm_ms mX6_read = 401 := rfl
theorem ci_X6_read : rm_ci mX6_read = 6 := rfl
theorem rt_X6_readTest : rm_rt mX6_readTest = none := rfl
theorem mc_X6_readTest : rm_mc mX6_readTest = 0 := rfl
theorem ms_X6_readTest : rm_ms mX6_readTest = 0 := rfl
theorem ci_X6_readTest : rm_ci mX6_readTest = 6 := rfl
theorem rt_X6_readFact : rm_rt mX6_readFact = none := rfl
theorem mc_X6_readFact : rm_mc mX6_readFact = 0 := rfl
theorem ms_X6_readFact : rm_ms mX6_readFact = 0 := rfl
theorem ci_X6_readFact : rm_ci mX6_readFact = 6 := rfl
theorem rt_X6_readSign : rm_rt mX6_readSign = (some .int) := rfl
theorem mc_X6_readSign : rm_mc mX6_readSign = 0 := rfl
theorem ms_X6_readSign : rm_ms mX6_readSign = 0 := rfl
theorem ci_X6_readSign : rm_ci mX6_readSign = 6 := rfl
theorem rt_X6_readSum : rm_rt mX6_readSum = none := rfl
theorem mc_X6_readSum : rm_mc mX6_readSum = 0 := rfl
theorem ms_X6_readSum : rm_ms mX6_readSum = 0 := rfl
theorem ci_X6_readSum : rm_ci mX6_readSum = 6 := rfl
theorem rt_X6_readValue : rm_rt mX6_readValue = none := rfl
theorem mc_X6_readValue : rm_mc mX6_readValue = 0 := rfl
theorem ms_X6_readValue : rm_ms mX6_readValue = 0 := rfl
theorem ci_X6_readValue : rm_ci mX6_readValue = 6 := rfl
theorem rt_X6_addToken : rm_rt mX6_addToken = none := rfl
theorem mc_X6_addToken : rm_mc mX6_addToken = 0 := rfl
theorem ms_X6_addToken : rm_ms mX6_addToken = 0 := rfl
theorem ci_X6_addToken : rm_ci mX6_addToken = 6 := rfl
theorem rt_X6_add : rm_rt mX6_add = none := rfl
theorem mc_X6_add : rm_mc mX6_add = 0 := rfl
theorem ms_X6_add : rm_ms mX6_add = 0 := rfl
theorem ci_X6_add : rm_ci mX6_add = 6 := rfl
theorem rt_X7_init : rm_rt mX7_init = none := rfl
theorem mc_X7_init : rm_mc mX7_init = 2 := rfl
theorem ms_X7_init : rm_ms mX7_init = 16 := rfl
theorem ci_X7_init : rm_ci mX7_init = 7 := rfl
theorem rt_X7_beginIn : rm_rt mX7_beginIn = none := rfl
theorem mc_X7_beginIn : rm_mc mX7_beginIn = 0 := rfl
theorem ms_X7_beginIn : rm_ms mX7_beginIn = 0 := rfl
theorem ci_X7_beginIn : rm_ci mX7_beginIn = 7 := rfl
theorem rt_X7_copyFrom : rm_rt mX7_copyFrom = none := rfl
theorem mc_X7_copyFrom : rm_mc mX7_copyFrom = 0 := rfl
theorem ms_X7_copyFrom : rm_ms mX7_copyFrom = 0 := rfl
theorem ci_X7_copyFrom : rm_ci mX7_copyFrom = 7 := rfl
theorem rt_X7_balance : rm_rt mX7_balance = (some .int) := rfl
theorem mc_X7_balance : rm_mc mX7_balance = 0 := rfl
theorem ms_X7_balance : rm_ms mX7_balance = 0 := rfl
theorem ci_X7_balance : rm_ci mX7_balance = 7 := rfl
theorem rt_X7_becameOf : rm_rt mX7_becameOf = (some .int) := rfl
theorem mc_X7_becameOf : rm_mc mX7_becameOf = 0 := rfl
theorem ms_X7_becameOf : rm_ms mX7_becameOf = 0 := rfl
theorem ci_X7_becameOf : rm_ci mX7_becameOf = 7 := rfl
theorem rt_X7_isLost : rm_rt mX7_isLost = (some .boolean) := rfl
theorem mc_X7_isLost : rm_mc mX7_isLost = 0 := rfl
theorem ms_X7_isLost : rm_ms mX7_isLost = 0 := rfl
theorem ci_X7_isLost : rm_ci mX7_isLost = 7 := rfl
theorem rt_X7_isAllSettled : rm_rt mX7_isAllSettled = (some .boolean) := rfl
theorem mc_X7_isAllSettled : rm_mc mX7_isAllSettled = 0 := rfl
theorem ms_X7_isAllSettled : rm_ms mX7_isAllSettled = 0 := rfl
theorem ci_X7_isAllSettled : rm_ci mX7_isAllSettled = 7 := rfl
theorem rt_X7_isOpen : rm_rt mX7_isOpen = (some .boolean) := rfl
theorem mc_X7_isOpen : rm_mc mX7_isOpen = 0 := rfl
theorem ms_X7_isOpen : rm_ms mX7_isOpen = 0 := rfl
theorem ci_X7_isOpen : rm_ci mX7_isOpen = 7 := rfl
theorem rt_X7_openSet : rm_rt mX7_openSet = (some .int) := rfl
theorem mc_X7_openSet : rm_mc mX7_openSet = 0 := rfl
theorem ms_X7_openSet : rm_ms mX7_openSet = 0 := rfl
theorem ci_X7_openSet : rm_ci mX7_openSet = 7 := rfl
theorem rt_X7_areAlike : rm_rt mX7_areAlike = (some .boolean) := rfl
theorem mc_X7_areAlike : rm_mc mX7_areAlike = 0 := rfl
theorem ms_X7_areAlike : rm_ms mX7_areAlike = 0 := rfl
theorem ci_X7_areAlike : rm_ci mX7_areAlike = 7 := rfl
theorem rt_X7_tieOrCut : rm_rt mX7_tieOrCut = none := rfl
theorem mc_X7_tieOrCut : rm_mc mX7_tieOrCut = 0 := rfl
theorem ms_X7_tieOrCut : rm_ms mX7_tieOrCut = 0 := rfl
theorem ci_X7_tieOrCut : rm_ci mX7_tieOrCut = 7 := rfl
theorem rt_X7_brings : rm_rt mX7_brings = (some .int) := rfl
theorem mc_X7_brings : rm_mc mX7_brings = 0 := rfl
theorem ms_X7_brings : rm_ms mX7_brings = 0 := rfl
theorem ci_X7_brings : rm_ci mX7_brings = 7 := rfl
theorem rt_X7_answer : rm_rt mX7_answer = (some .int) := rfl
theorem mc_X7_answer : rm_mc mX7_answer = 0 := rfl
theorem ms_X7_answer : rm_ms mX7_answer = 0 := rfl
theorem ci_X7_answer : rm_ci mX7_answer = 7 := rfl
theorem rt_X7_covers : rm_rt mX7_covers = (some .boolean) := rfl
theorem mc_X7_covers : rm_mc mX7_covers = 0 := rfl
theorem ms_X7_covers : rm_ms mX7_covers = 0 := rfl
theorem ci_X7_covers : rm_ci mX7_covers = 7 := rfl
theorem rt_X7_wakesByHimself : rm_rt mX7_wakesByHimself = (some .boolean) := rfl
theorem mc_X7_wakesByHimself : rm_mc mX7_wakesByHimself = 0 := rfl
theorem ms_X7_wakesByHimself : rm_ms mX7_wakesByHimself = 0 := rfl
theorem ci_X7_wakesByHimself : rm_ci mX7_wakesByHimself = 7 := rfl
theorem rt_X7_isDayWasted : rm_rt mX7_isDayWasted = (some .boolean) := rfl
theorem mc_X7_isDayWasted : rm_mc mX7_isDayWasted = 0 := rfl
theorem ms_X7_isDayWasted : rm_ms mX7_isDayWasted = 0 := rfl
theorem ci_X7_isDayWasted : rm_ci mX7_isDayWasted = 7 := rfl
theorem rt_X7_decide : rm_rt mX7_decide = none := rfl
theorem mc_X7_decide : rm_mc mX7_decide = 0 := rfl
theorem ms_X7_decide : rm_ms mX7_decide = 0 := rfl
theorem ci_X7_decide : rm_ci mX7_decide = 7 := rfl
theorem rt_X7_endDay : rm_rt mX7_endDay = none := rfl
theorem mc_X7_endDay : rm_mc mX7_endDay = 0 := rfl
theorem ms_X7_endDay : rm_ms mX7_endDay = 0 := rfl
theorem ci_X7_endDay : rm_ci mX7_endDay = 7 := rfl
theorem rt_X7_lostWeight : rm_rt mX7_lostWeight = (some .int) := rfl
theorem mc_X7_lostWeight : rm_mc mX7_lostWeight = 0 := rfl
theorem ms_X7_lostWeight : rm_ms mX7_lostWeight = 0 := rfl
theorem ci_X7_lostWeight : rm_ci mX7_lostWeight = 7 := rfl
theorem rt_X7_weight : rm_rt mX7_weight = (some .int) := rfl
theorem mc_X7_weight : rm_mc mX7_weight = 0 := rfl
theorem ms_X7_weight : rm_ms mX7_weight = 0 := rfl
theorem ci_X7_weight : rm_ci mX7_weight = 7 := rfl
theorem rt_X8_init : rm_rt mX8_init = none := rfl
theorem mc_X8_init : rm_mc mX8_init = 4 := rfl
theorem ms_X8_init : rm_ms mX8_init = 1603 := rfl
theorem ci_X8_init : rm_ci mX8_init = 8 := rfl
theorem rt_X8_add : rm_rt mX8_add = none := rfl
theorem mc_X8_add : rm_mc mX8_add = 0 := rfl
theorem ms_X8_add : rm_ms mX8_add = 0 := rfl
theorem ci_X8_add : rm_ci mX8_add = 8 := rfl
theorem rt_X8_split : rm_rt mX8_split = none := rfl
theorem mc_X8_split : rm_mc mX8_split = 0 := rfl
theorem ms_X8_split : rm_ms mX8_split = 0 := rfl
theorem ci_X8_split : rm_ci mX8_split = 8 := rfl
theorem rt_X8_token : rm_rt mX8_token = (some .int) := rfl
theorem mc_X8_token : rm_mc mX8_token = 0 := rfl
theorem ms_X8_token : rm_ms mX8_token = 0 := rfl
theorem ci_X8_token : rm_ci mX8_token = 8 := rfl
theorem rt_X8_value : rm_rt mX8_value = (some .int) := rfl
theorem mc_X8_value : rm_mc mX8_value = 0 := rfl
theorem ms_X8_value : rm_ms mX8_value = 0 := rfl
theorem ci_X8_value : rm_ci mX8_value = 8 := rfl
theorem rt_X8_step : rm_rt mX8_step = none := rfl
theorem mc_X8_step : rm_mc mX8_step = 0 := rfl
theorem ms_X8_step : rm_ms mX8_step = 0 := rfl
theorem ci_X8_step : rm_ci mX8_step = 8 := rfl
theorem rt_X8_fail : rm_rt mX8_fail = none := rfl
theorem mc_X8_fail : rm_mc mX8_fail = 0 := rfl
theorem ms_X8_fail : rm_ms mX8_fail = 0 := rfl
theorem ci_X8_fail : rm_ci mX8_fail = 8 := rfl
theorem rt_X8_number : rm_rt mX8_number = (some .int) := rfl
theorem mc_X8_number : rm_mc mX8_number = 0 := rfl
theorem ms_X8_number : rm_ms mX8_number = 0 := rfl
theorem ci_X8_number : rm_ci mX8_number = 8 := rfl
theorem rt_X8_goesOn : rm_rt mX8_goesOn = (some .boolean) := rfl
theorem mc_X8_goesOn : rm_mc mX8_goesOn = 0 := rfl
theorem ms_X8_goesOn : rm_ms mX8_goesOn = 0 := rfl
theorem ci_X8_goesOn : rm_ci mX8_goesOn = 8 := rfl
theorem rt_X8_splitAt : rm_rt mX8_splitAt = (some .int) := rfl
theorem mc_X8_splitAt : rm_mc mX8_splitAt = 0 := rfl
theorem ms_X8_splitAt : rm_ms mX8_splitAt = 0 := rfl
theorem ci_X8_splitAt : rm_ci mX8_splitAt = 8 := rfl
theorem rt_X8_splitNumber : rm_rt mX8_splitNumber = (some .int) := rfl
theorem mc_X8_splitNumber : rm_mc mX8_splitNumber = 0 := rfl
theorem ms_X8_splitNumber : rm_ms mX8_splitNumber = 0 := rfl
theorem ci_X8_splitNumber : rm_ci mX8_splitNumber = 8 := rfl
theorem rt_X8_splitWord : rm_rt mX8_splitWord = (some .int) := rfl
theorem mc_X8_splitWord : rm_mc mX8_splitWord = 0 := rfl
theorem ms_X8_splitWord : rm_ms mX8_splitWord = 0 := rfl
theorem ci_X8_splitWord : rm_ci mX8_splitWord = 8 := rfl
theorem rt_X8_splitSign : rm_rt mX8_splitSign = (some .int) := rfl
theorem mc_X8_splitSign : rm_mc mX8_splitSign = 0 := rfl
theorem ms_X8_splitSign : rm_ms mX8_splitSign = 0 := rfl
theorem ci_X8_splitSign : rm_ci mX8_splitSign = 8 := rfl
theorem rt_X8_put : rm_rt mX8_put = none := rfl
theorem mc_X8_put : rm_mc mX8_put = 0 := rfl
theorem ms_X8_put : rm_ms mX8_put = 0 := rfl
theorem ci_X8_put : rm_ci mX8_put = 8 := rfl
theorem rt_X8_wordOf : rm_rt mX8_wordOf = (some .int) := rfl
theorem mc_X8_wordOf : rm_mc mX8_wordOf = 0 := rfl
theorem ms_X8_wordOf : rm_ms mX8_wordOf = 0 := rfl
theorem ci_X8_wordOf : rm_ci mX8_wordOf = 8 := rfl
theorem rt_X8_isSame : rm_rt mX8_isSame = (some .boolean) := rfl
theorem mc_X8_isSame : rm_mc mX8_isSame = 0 := rfl
theorem ms_X8_isSame : rm_ms mX8_isSame = 0 := rfl
theorem ci_X8_isSame : rm_ci mX8_isSame = 8 := rfl
theorem rt_X8_byteAt : rm_rt mX8_byteAt = (some .int) := rfl
theorem mc_X8_byteAt : rm_mc mX8_byteAt = 0 := rfl
theorem ms_X8_byteAt : rm_ms mX8_byteAt = 0 := rfl
theorem ci_X8_byteAt : rm_ci mX8_byteAt = 8 := rfl
theorem rt_X8_isDigit : rm_rt mX8_isDigit = (some .boolean) := rfl
theorem mc_X8_isDigit : rm_mc mX8_isDigit = 0 := rfl
theorem ms_X8_isDigit : rm_ms mX8_isDigit = 0 := rfl
theorem ci_X8_isDigit : rm_ci mX8_isDigit = 99 := rfl
theorem rt_X8_isLetter : rm_rt mX8_isLetter = (some .boolean) := rfl
theorem mc_X8_isLetter : rm_mc mX8_isLetter = 0 := rfl
theorem ms_X8_isLetter : rm_ms mX8_isLetter = 0 := rfl
theorem ci_X8_isLetter : rm_ci mX8_isLetter = 99 := rfl
theorem rt_X9_init : rm_rt mX9_init = none := rfl
theorem mc_X9_init : rm_mc mX9_init = 9 := rfl
theorem ms_X9_init : rm_ms mX9_init = 134 := rfl
theorem ci_X9_init : rm_ci mX9_init = 9 := rfl
theorem rt_X9_start : rm_rt mX9_start = none := rfl
theorem mc_X9_start : rm_mc mX9_start = 0 := rfl
theorem ms_X9_start : rm_ms mX9_start = 0 := rfl
theorem ci_X9_start : rm_ci mX9_start = 9 := rfl
theorem rt_X9_startAnew : rm_rt mX9_startAnew = none := rfl
theorem mc_X9_startAnew : rm_mc mX9_startAnew = 0 := rfl
theorem ms_X9_startAnew : rm_ms mX9_startAnew = 0 := rfl
theorem ci_X9_startAnew : rm_ci mX9_startAnew = 9 := rfl
theorem rt_X9_passDay : rm_rt mX9_passDay = (some .int) := rfl
theorem mc_X9_passDay : rm_mc mX9_passDay = 0 := rfl
theorem ms_X9_passDay : rm_ms mX9_passDay = 0 := rfl
theorem ci_X9_passDay : rm_ci mX9_passDay = 9 := rfl
theorem rt_X9_passDays : rm_rt mX9_passDays = none := rfl
theorem mc_X9_passDays : rm_mc mX9_passDays = 0 := rfl
theorem ms_X9_passDays : rm_ms mX9_passDays = 0 := rfl
theorem ci_X9_passDays : rm_ci mX9_passDays = 9 := rfl
theorem rt_X9_balanceBehind : rm_rt mX9_balanceBehind = (some .int) := rfl
theorem mc_X9_balanceBehind : rm_mc mX9_balanceBehind = 0 := rfl
theorem ms_X9_balanceBehind : rm_ms mX9_balanceBehind = 0 := rfl
theorem ci_X9_balanceBehind : rm_ci mX9_balanceBehind = 9 := rfl
theorem rt_X9_valueOf : rm_rt mX9_valueOf = (some .long) := rfl
theorem mc_X9_valueOf : rm_mc mX9_valueOf = 0 := rfl
theorem ms_X9_valueOf : rm_ms mX9_valueOf = 0 := rfl
theorem ci_X9_valueOf : rm_ci mX9_valueOf = 9 := rfl
theorem rt_X9_mostUrgent : rm_rt mX9_mostUrgent = (some .int) := rfl
theorem mc_X9_mostUrgent : rm_mc mX9_mostUrgent = 0 := rfl
theorem ms_X9_mostUrgent : rm_ms mX9_mostUrgent = 0 := rfl
theorem ci_X9_mostUrgent : rm_ci mX9_mostUrgent = 9 := rfl
theorem rt_X9_mostAsked : rm_rt mX9_mostAsked = (some .int) := rfl
theorem mc_X9_mostAsked : rm_mc mX9_mostAsked = 0 := rfl
theorem ms_X9_mostAsked : rm_ms mX9_mostAsked = 0 := rfl
theorem ci_X9_mostAsked : rm_ci mX9_mostAsked = 9 := rfl
theorem rt_X10_init : rm_rt mX10_init = none := rfl
theorem mc_X10_init : rm_mc mX10_init = 33 := rfl
theorem ms_X10_init : rm_ms mX10_init = 311 := rfl
theorem ci_X10_init : rm_ci mX10_init = 10 := rfl
theorem rt_X10_find : rm_rt mX10_find = none := rfl
theorem mc_X10_find : rm_mc mX10_find = 0 := rfl
theorem ms_X10_find : rm_ms mX10_find = 0 := rfl
theorem ci_X10_find : rm_ci mX10_find = 10 := rfl
theorem rt_X10_tryFrom : rm_rt mX10_tryFrom = none := rfl
theorem mc_X10_tryFrom : rm_mc mX10_tryFrom = 0 := rfl
theorem ms_X10_tryFrom : rm_ms mX10_tryFrom = 0 := rfl
theorem ci_X10_tryFrom : rm_ci mX10_tryFrom = 10 := rfl
theorem rt_X10_keep : rm_rt mX10_keep = none := rfl
theorem mc_X10_keep : rm_mc mX10_keep = 0 := rfl
theorem ms_X10_keep : rm_ms mX10_keep = 0 := rfl
theorem ci_X10_keep : rm_ci mX10_keep = 10 := rfl
