/-! What the machine decides of the methods. -/
set_option maxRecDepth 100000 in
theorem kX0_init : ms_ckM ms_P MX0_init = true := by decide +kernel
set_option maxRecDepth 100000 in
theorem kX0_judge : ms_ckM ms_P MX0_judge = true := by decide +kernel
set_option maxRecDepth 100000 in
theorem kX0_drawFrom : ms_ckM ms_P MX0_drawFrom = true := by decide +kernel
set_option maxRecDepth 100000 in
theorem kX0_judgeOne : ms_ckM ms_P MX0_judgeOne = true := by decide +kernel
set_option maxRecDepth 100000 in
theorem kX1_init : ms_ckM ms_P MX1_init = true := by decide +kernel
set_option maxRecDepth 100000 in
theorem kX1_begin : ms_ckM ms_P MX1_begin = true := by decide +kernel
set_option maxRecDepth 100000 in
theorem kX1_become : ms_ckM ms_P MX1_become = true := by decide +kernel
set_option maxRecDepth 100000 in
theorem kX1_remember : ms_ckM ms_P MX1_remember = true := by decide +kernel
set_option maxRecDepth 100000 in
theorem kX1_loseOldest : ms_ckM ms_P MX1_loseOldest = true := by decide +kernel
set_option maxRecDepth 100000 in
theorem kX1_takeBack : ms_ckM ms_P MX1_takeBack = true := by decide +kernel
set_option maxRecDepth 100000 in
theorem kX1_standing : ms_ckM ms_P MX1_standing = true := by decide +kernel
set_option maxRecDepth 100000 in
theorem kX2_init : ms_ckM ms_P MX2_init = true := by decide +kernel
set_option maxRecDepth 100000 in
theorem kX2_add : ms_ckM ms_P MX2_add = true := by decide +kernel
set_option maxRecDepth 100000 in
theorem kX2_tell : ms_ckM ms_P MX2_tell = true := by decide +kernel
set_option maxRecDepth 100000 in
theorem kX2_readItem : ms_ckM ms_P MX2_readItem = true := by decide +kernel
set_option maxRecDepth 100000 in
theorem kX2_readColumn : ms_ckM ms_P MX2_readColumn = true := by decide +kernel
set_option maxRecDepth 100000 in
theorem kX2_readGap : ms_ckM ms_P MX2_readGap = true := by decide +kernel
set_option maxRecDepth 100000 in
theorem kX2_readHands : ms_ckM ms_P MX2_readHands = true := by decide +kernel
set_option maxRecDepth 100000 in
theorem kX2_readVoter : ms_ckM ms_P MX2_readVoter = true := by decide +kernel
set_option maxRecDepth 100000 in
theorem kX2_readDay : ms_ckM ms_P MX2_readDay = true := by decide +kernel
set_option maxRecDepth 100000 in
theorem kX2_number : ms_ckM ms_P MX2_number = true := by decide +kernel
set_option maxRecDepth 100000 in
theorem kX2_ended : ms_ckM ms_P MX2_ended = true := by decide +kernel
set_option maxRecDepth 100000 in
theorem kX2_take : ms_ckM ms_P MX2_take = true := by decide +kernel
set_option maxRecDepth 100000 in
theorem kX2_takeLetters : ms_ckM ms_P MX2_takeLetters = true := by decide +kernel
set_option maxRecDepth 100000 in
theorem kX2_takeNumber : ms_ckM ms_P MX2_takeNumber = true := by decide +kernel
set_option maxRecDepth 100000 in
theorem kX3_init : ms_ckM ms_P MX3_init = true := by decide +kernel
set_option maxRecDepth 100000 in
theorem kX3_begin : ms_ckM ms_P MX3_begin = true := by decide +kernel
set_option maxRecDepth 100000 in
theorem kX3_addColumn : ms_ckM ms_P MX3_addColumn = true := by decide +kernel
set_option maxRecDepth 100000 in
theorem kX3_addVoter : ms_ckM ms_P MX3_addVoter = true := by decide +kernel
set_option maxRecDepth 100000 in
theorem kX3_addDay : ms_ckM ms_P MX3_addDay = true := by decide +kernel
set_option maxRecDepth 100000 in
theorem kX3_warmOn : ms_ckM ms_P MX3_warmOn = true := by decide +kernel
set_option maxRecDepth 100000 in
theorem kX3_snowLimit : ms_ckM ms_P MX3_snowLimit = true := by decide +kernel
set_option maxRecDepth 100000 in
theorem kX4_init : ms_ckM ms_P MX4_init = true := by decide +kernel
set_option maxRecDepth 100000 in
theorem kX4_type : ms_ckM ms_P MX4_type = true := by decide +kernel
set_option maxRecDepth 100000 in
theorem kX4_clear : ms_ckM ms_P MX4_clear = true := by decide +kernel
set_option maxRecDepth 100000 in
theorem kX4_wold : ms_ckM ms_P MX4_wold = true := by decide +kernel
set_option maxRecDepth 100000 in
theorem kX4_column : ms_ckM ms_P MX4_column = true := by decide +kernel
set_option maxRecDepth 100000 in
theorem kX4_field : ms_ckM ms_P MX4_field = true := by decide +kernel
set_option maxRecDepth 100000 in
theorem kX4_voter : ms_ckM ms_P MX4_voter = true := by decide +kernel
set_option maxRecDepth 100000 in
theorem kX4_days : ms_ckM ms_P MX4_days = true := by decide +kernel
