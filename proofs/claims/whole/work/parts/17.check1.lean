/-! What the machine decides of the methods. -/
set_option maxRecDepth 100000 in
theorem kX4_warms : ms_ckM ms_P MX4_warms = true := by decide +kernel
set_option maxRecDepth 100000 in
theorem kX4_stakes : ms_ckM ms_P MX4_stakes = true := by decide +kernel
set_option maxRecDepth 100000 in
theorem kX4_pulls : ms_ckM ms_P MX4_pulls = true := by decide +kernel
set_option maxRecDepth 100000 in
theorem kX4_undo : ms_ckM ms_P MX4_undo = true := by decide +kernel
set_option maxRecDepth 100000 in
theorem kX4_now : ms_ckM ms_P MX4_now = true := by decide +kernel
set_option maxRecDepth 100000 in
theorem kX4_first : ms_ckM ms_P MX4_first = true := by decide +kernel
set_option maxRecDepth 100000 in
theorem kX4_fair : ms_ckM ms_P MX4_fair = true := by decide +kernel
set_option maxRecDepth 100000 in
theorem kX4_best : ms_ckM ms_P MX4_best = true := by decide +kernel
set_option maxRecDepth 100000 in
theorem kX4_power : ms_ckM ms_P MX4_power = true := by decide +kernel
set_option maxRecDepth 100000 in
theorem kX4_duel : ms_ckM ms_P MX4_duel = true := by decide +kernel
set_option maxRecDepth 100000 in
theorem kX4_odds : ms_ckM ms_P MX4_odds = true := by decide +kernel
set_option maxRecDepth 100000 in
theorem kX4_hears : ms_ckM ms_P MX4_hears = true := by decide +kernel
set_option maxRecDepth 100000 in
theorem kX4_forget : ms_ckM ms_P MX4_forget = true := by decide +kernel
set_option maxRecDepth 100000 in
theorem kX4_warmth : ms_ckM ms_P MX4_warmth = true := by decide +kernel
set_option maxRecDepth 100000 in
theorem kX4_ask : ms_ckM ms_P MX4_ask = true := by decide +kernel
set_option maxRecDepth 100000 in
theorem kX4_mark : ms_ckM ms_P MX4_mark = true := by decide +kernel
set_option maxRecDepth 100000 in
theorem kX4_keep : ms_ckM ms_P MX4_keep = true := by decide +kernel
set_option maxRecDepth 100000 in
theorem kX4_back : ms_ckM ms_P MX4_back = true := by decide +kernel
set_option maxRecDepth 100000 in
theorem kX4_count : ms_ckM ms_P MX4_count = true := by decide +kernel
set_option maxRecDepth 100000 in
theorem kX4_trace : ms_ckM ms_P MX4_trace = true := by decide +kernel
set_option maxRecDepth 100000 in
theorem kX4_within : ms_ckM ms_P MX4_within = true := by decide +kernel
set_option maxRecDepth 100000 in
theorem kX4_isColumn : ms_ckM ms_P MX4_isColumn = true := by decide +kernel
set_option maxRecDepth 100000 in
theorem kX4_isField : ms_ckM ms_P MX4_isField = true := by decide +kernel
set_option maxRecDepth 100000 in
theorem kX4_isVoter : ms_ckM ms_P MX4_isVoter = true := by decide +kernel
set_option maxRecDepth 100000 in
theorem kX4_warmToday : ms_ckM ms_P MX4_warmToday = true := by decide +kernel
set_option maxRecDepth 100000 in
theorem kX4_mild : ms_ckM ms_P MX4_mild = true := by decide +kernel
set_option maxRecDepth 100000 in
theorem kX4_falls : ms_ckM ms_P MX4_falls = true := by decide +kernel
set_option maxRecDepth 100000 in
theorem kX4_lowestUpTo : ms_ckM ms_P MX4_lowestUpTo = true := by decide +kernel
set_option maxRecDepth 100000 in
theorem kX4_edge : ms_ckM ms_P MX4_edge = true := by decide +kernel
set_option maxRecDepth 100000 in
theorem kX4_wet : ms_ckM ms_P MX4_wet = true := by decide +kernel
set_option maxRecDepth 100000 in
theorem kX4_claim : ms_ckM ms_P MX4_claim = true := by decide +kernel
set_option maxRecDepth 100000 in
theorem kX4_halves : ms_ckM ms_P MX4_halves = true := by decide +kernel
set_option maxRecDepth 100000 in
theorem kX4_greaterHalf : ms_ckM ms_P MX4_greaterHalf = true := by decide +kernel
set_option maxRecDepth 100000 in
theorem kX4_snowyFields : ms_ckM ms_P MX4_snowyFields = true := by decide +kernel
set_option maxRecDepth 100000 in
theorem kX4_rainyFields : ms_ckM ms_P MX4_rainyFields = true := by decide +kernel
set_option maxRecDepth 100000 in
theorem kX4_widest : ms_ckM ms_P MX4_widest = true := by decide +kernel
set_option maxRecDepth 100000 in
theorem kX4_vote : ms_ckM ms_P MX4_vote = true := by decide +kernel
set_option maxRecDepth 100000 in
theorem kX4_decidedOrders : ms_ckM ms_P MX4_decidedOrders = true := by decide +kernel
set_option maxRecDepth 100000 in
theorem kX4_weightOf : ms_ckM ms_P MX4_weightOf = true := by decide +kernel
set_option maxRecDepth 100000 in
theorem kX4_snowyWays : ms_ckM ms_P MX4_snowyWays = true := by decide +kernel
