/-! What the machine decides of the methods. -/
set_option maxRecDepth 100000 in
theorem kX4_leastTerms : ms_ckM ms_P MX4_leastTerms = true := by decide +kernel
set_option maxRecDepth 100000 in
theorem kX4_greatestShared : ms_ckM ms_P MX4_greatestShared = true := by decide +kernel
set_option maxRecDepth 100000 in
theorem kX4_hearNothing : ms_ckM ms_P MX4_hearNothing = true := by decide +kernel
set_option maxRecDepth 100000 in
theorem kX4_warmths : ms_ckM ms_P MX4_warmths = true := by decide +kernel
set_option maxRecDepth 100000 in
theorem kX4_greaterPart : ms_ckM ms_P MX4_greaterPart = true := by decide +kernel
set_option maxRecDepth 100000 in
theorem kX4_columnMark : ms_ckM ms_P MX4_columnMark = true := by decide +kernel
set_option maxRecDepth 100000 in
theorem kX4_moorMark : ms_ckM ms_P MX4_moorMark = true := by decide +kernel
set_option maxRecDepth 100000 in
theorem kX4_fenMark : ms_ckM ms_P MX4_fenMark = true := by decide +kernel
set_option maxRecDepth 100000 in
theorem kX4_fellMark : ms_ckM ms_P MX4_fellMark = true := by decide +kernel
set_option maxRecDepth 100000 in
theorem kX4_saltingMark : ms_ckM ms_P MX4_saltingMark = true := by decide +kernel
set_option maxRecDepth 100000 in
theorem kX4_woodMark : ms_ckM ms_P MX4_woodMark = true := by decide +kernel
set_option maxRecDepth 100000 in
theorem kX5_in : ms_ckM ms_P MX5_in = true := by decide +kernel
set_option maxRecDepth 100000 in
theorem kX5_common : ms_ckM ms_P MX5_common = true := by decide +kernel
set_option maxRecDepth 100000 in
theorem kX5_init : ms_ckM ms_P MX5_init = true := by decide +kernel
set_option maxRecDepth 100000 in
theorem kX5_isColumn : ms_ckM ms_P MX5_isColumn = true := by decide +kernel
set_option maxRecDepth 100000 in
theorem kX5_isField : ms_ckM ms_P MX5_isField = true := by decide +kernel
set_option maxRecDepth 100000 in
theorem kX5_type : ms_ckM ms_P MX5_type = true := by decide +kernel
set_option maxRecDepth 100000 in
theorem kX5_clear : ms_ckM ms_P MX5_clear = true := by decide +kernel
set_option maxRecDepth 100000 in
theorem kX5_here : ms_ckM ms_P MX5_here = true := by decide +kernel
set_option maxRecDepth 100000 in
theorem kX5_skip : ms_ckM ms_P MX5_skip = true := by decide +kernel
set_option maxRecDepth 100000 in
theorem kX5_number : ms_ckM ms_P MX5_number = true := by decide +kernel
set_option maxRecDepth 100000 in
theorem kX5_ends : ms_ckM ms_P MX5_ends = true := by decide +kernel
set_option maxRecDepth 100000 in
theorem kX5_readsColumn : ms_ckM ms_P MX5_readsColumn = true := by decide +kernel
set_option maxRecDepth 100000 in
theorem kX5_readsVoter : ms_ckM ms_P MX5_readsVoter = true := by decide +kernel
set_option maxRecDepth 100000 in
theorem kX5_readsDay : ms_ckM ms_P MX5_readsDay = true := by decide +kernel
set_option maxRecDepth 100000 in
theorem kX5_readsGap : ms_ckM ms_P MX5_readsGap = true := by decide +kernel
set_option maxRecDepth 100000 in
theorem kX5_readsHands : ms_ckM ms_P MX5_readsHands = true := by decide +kernel
set_option maxRecDepth 100000 in
theorem kX5_readsItem : ms_ckM ms_P MX5_readsItem = true := by decide +kernel
set_option maxRecDepth 100000 in
theorem kX5_wold : ms_ckM ms_P MX5_wold = true := by decide +kernel
set_option maxRecDepth 100000 in
theorem kX5_comesRead : ms_ckM ms_P MX5_comesRead = true := by decide +kernel
set_option maxRecDepth 100000 in
theorem kX5_warmAt : ms_ckM ms_P MX5_warmAt = true := by decide +kernel
set_option maxRecDepth 100000 in
theorem kX5_mildBy : ms_ckM ms_P MX5_mildBy = true := by decide +kernel
set_option maxRecDepth 100000 in
theorem kX5_warmthNow : ms_ckM ms_P MX5_warmthNow = true := by decide +kernel
set_option maxRecDepth 100000 in
theorem kX5_mild : ms_ckM ms_P MX5_mild = true := by decide +kernel
set_option maxRecDepth 100000 in
theorem kX5_lowestBy : ms_ckM ms_P MX5_lowestBy = true := by decide +kernel
set_option maxRecDepth 100000 in
theorem kX5_edge : ms_ckM ms_P MX5_edge = true := by decide +kernel
set_option maxRecDepth 100000 in
theorem kX5_wet : ms_ckM ms_P MX5_wet = true := by decide +kernel
set_option maxRecDepth 100000 in
theorem kX5_halves : ms_ckM ms_P MX5_halves = true := by decide +kernel
set_option maxRecDepth 100000 in
theorem kX5_column : ms_ckM ms_P MX5_column = true := by decide +kernel
set_option maxRecDepth 100000 in
theorem kX5_falls : ms_ckM ms_P MX5_falls = true := by decide +kernel
