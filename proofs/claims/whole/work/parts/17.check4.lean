/-! What the machine decides of the methods. -/
set_option maxRecDepth 100000 in
theorem kX5_trace : ms_ckM ms_P MX5_trace = true := by decide +kernel
set_option maxRecDepth 100000 in
theorem kJ6_bitCount_0f7a4 : ms_ckM ms_P MJ6_bitCount_0f7a4 = true := by decide +kernel
