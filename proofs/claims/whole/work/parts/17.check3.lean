/-! What the machine decides of the methods. -/
set_option maxRecDepth 100000 in
theorem kX5_field : ms_ckM ms_P MX5_field = true := by decide +kernel
set_option maxRecDepth 100000 in
theorem kX5_voter : ms_ckM ms_P MX5_voter = true := by decide +kernel
set_option maxRecDepth 100000 in
theorem kX5_fallMany : ms_ckM ms_P MX5_fallMany = true := by decide +kernel
set_option maxRecDepth 100000 in
theorem kX5_writes : ms_ckM ms_P MX5_writes = true := by decide +kernel
set_option maxRecDepth 100000 in
theorem kX5_readsBack : ms_ckM ms_P MX5_readsBack = true := by decide +kernel
set_option maxRecDepth 100000 in
theorem kX5_notes : ms_ckM ms_P MX5_notes = true := by decide +kernel
set_option maxRecDepth 100000 in
theorem kX5_days : ms_ckM ms_P MX5_days = true := by decide +kernel
set_option maxRecDepth 100000 in
theorem kX5_warms : ms_ckM ms_P MX5_warms = true := by decide +kernel
set_option maxRecDepth 100000 in
theorem kX5_stakes : ms_ckM ms_P MX5_stakes = true := by decide +kernel
set_option maxRecDepth 100000 in
theorem kX5_pulls : ms_ckM ms_P MX5_pulls = true := by decide +kernel
set_option maxRecDepth 100000 in
theorem kX5_undo : ms_ckM ms_P MX5_undo = true := by decide +kernel
set_option maxRecDepth 100000 in
theorem kX5_widest : ms_ckM ms_P MX5_widest = true := by decide +kernel
set_option maxRecDepth 100000 in
theorem kX5_stakeMany : ms_ckM ms_P MX5_stakeMany = true := by decide +kernel
set_option maxRecDepth 100000 in
theorem kX5_vote : ms_ckM ms_P MX5_vote = true := by decide +kernel
set_option maxRecDepth 100000 in
theorem kX5_now : ms_ckM ms_P MX5_now = true := by decide +kernel
set_option maxRecDepth 100000 in
theorem kX5_first : ms_ckM ms_P MX5_first = true := by decide +kernel
set_option maxRecDepth 100000 in
theorem kX5_firstLine : ms_ckM ms_P MX5_firstLine = true := by decide +kernel
set_option maxRecDepth 100000 in
theorem kX5_nextLine : ms_ckM ms_P MX5_nextLine = true := by decide +kernel
set_option maxRecDepth 100000 in
theorem kX5_lineNumber : ms_ckM ms_P MX5_lineNumber = true := by decide +kernel
set_option maxRecDepth 100000 in
theorem kX5_hasHill : ms_ckM ms_P MX5_hasHill = true := by decide +kernel
set_option maxRecDepth 100000 in
theorem kX5_hasSea : ms_ckM ms_P MX5_hasSea = true := by decide +kernel
set_option maxRecDepth 100000 in
theorem kX5_allOf : ms_ckM ms_P MX5_allOf = true := by decide +kernel
set_option maxRecDepth 100000 in
theorem kX5_fair : ms_ckM ms_P MX5_fair = true := by decide +kernel
set_option maxRecDepth 100000 in
theorem kX5_best : ms_ckM ms_P MX5_best = true := by decide +kernel
set_option maxRecDepth 100000 in
theorem kX5_orders : ms_ckM ms_P MX5_orders = true := by decide +kernel
set_option maxRecDepth 100000 in
theorem kX5_weightOf : ms_ckM ms_P MX5_weightOf = true := by decide +kernel
set_option maxRecDepth 100000 in
theorem kX5_power : ms_ckM ms_P MX5_power = true := by decide +kernel
set_option maxRecDepth 100000 in
theorem kX5_duel : ms_ckM ms_P MX5_duel = true := by decide +kernel
set_option maxRecDepth 100000 in
theorem kX5_odds : ms_ckM ms_P MX5_odds = true := by decide +kernel
set_option maxRecDepth 100000 in
theorem kX5_hears : ms_ckM ms_P MX5_hears = true := by decide +kernel
set_option maxRecDepth 100000 in
theorem kX5_forget : ms_ckM ms_P MX5_forget = true := by decide +kernel
set_option maxRecDepth 100000 in
theorem kX5_says : ms_ckM ms_P MX5_says = true := by decide +kernel
set_option maxRecDepth 100000 in
theorem kX5_isSo : ms_ckM ms_P MX5_isSo = true := by decide +kernel
set_option maxRecDepth 100000 in
theorem kX5_warmth : ms_ckM ms_P MX5_warmth = true := by decide +kernel
set_option maxRecDepth 100000 in
theorem kX5_ask : ms_ckM ms_P MX5_ask = true := by decide +kernel
set_option maxRecDepth 100000 in
theorem kX5_marked : ms_ckM ms_P MX5_marked = true := by decide +kernel
set_option maxRecDepth 100000 in
theorem kX5_mark : ms_ckM ms_P MX5_mark = true := by decide +kernel
set_option maxRecDepth 100000 in
theorem kX5_keep : ms_ckM ms_P MX5_keep = true := by decide +kernel
set_option maxRecDepth 100000 in
theorem kX5_back : ms_ckM ms_P MX5_back = true := by decide +kernel
set_option maxRecDepth 100000 in
theorem kX5_count : ms_ckM ms_P MX5_count = true := by decide +kernel
