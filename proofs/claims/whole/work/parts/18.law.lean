/-! The law's own blocks; all methods. -/
set_option maxRecDepth 100000 in
theorem kL_0 : ms_ckB ms_P ML_law bL_law_0 = true := by decide +kernel
set_option maxRecDepth 100000 in
theorem kL_1 : ms_ckB ms_P ML_law bL_law_1 = true := by decide +kernel
set_option maxRecDepth 100000 in
theorem kL_2 : ms_ckB ms_P ML_law bL_law_2 = true := by decide +kernel
set_option maxRecDepth 100000 in
theorem kL_3 : ms_ckB ms_P ML_law bL_law_3 = true := by decide +kernel
set_option maxRecDepth 100000 in
theorem kL_4 : ms_ckB ms_P ML_law bL_law_4 = true := by decide +kernel
set_option maxRecDepth 100000 in
theorem kL_5 : ms_ckB ms_P ML_law bL_law_5 = true := by decide +kernel
set_option maxRecDepth 100000 in
theorem kL_6 : ms_ckB ms_P ML_law bL_law_6 = true := by decide +kernel
set_option maxRecDepth 100000 in
theorem kL_7 : ms_ckB ms_P ML_law bL_law_7 = true := by decide +kernel
set_option maxRecDepth 100000 in
theorem kL_8 : ms_ckB ms_P ML_law bL_law_8 = true := by decide +kernel
set_option maxRecDepth 100000 in
theorem kL_9 : ms_ckB ms_P ML_law bL_law_9 = true := by decide +kernel
set_option maxRecDepth 100000 in
theorem kL_10 : ms_ckB ms_P ML_law bL_law_10 = true := by decide +kernel
set_option maxRecDepth 100000 in
theorem kL_11 : ms_ckB ms_P ML_law bL_law_11 = true := by decide +kernel
set_option maxRecDepth 100000 in
theorem kL_12 : ms_ckB ms_P ML_law bL_law_12 = true := by decide +kernel
set_option maxRecDepth 100000 in
theorem kL_13 : ms_ckB ms_P ML_law bL_law_13 = true := by decide +kernel
set_option maxRecDepth 100000 in
theorem kL_14 : ms_ckB ms_P ML_law bL_law_14 = true := by decide +kernel
set_option maxRecDepth 100000 in
theorem kL_15 : ms_ckB ms_P ML_law bL_law_15 = true := by decide +kernel
set_option maxRecDepth 100000 in
theorem kL_16 : ms_ckB ms_P ML_law bL_law_16 = true := by decide +kernel
set_option maxRecDepth 100000 in
theorem kL_17 : ms_ckB ms_P ML_law bL_law_17 = true := by decide +kernel
set_option maxRecDepth 100000 in
theorem kL_18 : ms_ckB ms_P ML_law bL_law_18 = true := by decide +kernel
set_option maxRecDepth 100000 in
theorem kL_19 : ms_ckB ms_P ML_law bL_law_19 = true := by decide +kernel
set_option maxRecDepth 100000 in
theorem kL_20 : ms_ckB ms_P ML_law bL_law_20 = true := by decide +kernel
set_option maxRecDepth 100000 in
theorem kL_21 : ms_ckB ms_P ML_law bL_law_21 = true := by decide +kernel
set_option maxRecDepth 100000 in
theorem kL_22 : ms_ckB ms_P ML_law bL_law_22 = true := by decide +kernel
set_option maxRecDepth 100000 in
theorem kL_23 : ms_ckB ms_P ML_law bL_law_23 = true := by decide +kernel
set_option maxRecDepth 100000 in
theorem kL_24 : ms_ckB ms_P ML_law bL_law_24 = true := by decide +kernel
set_option maxRecDepth 100000 in
theorem kL_25 : ms_ckB ms_P ML_law bL_law_25 = true := by decide +kernel
set_option maxRecDepth 100000 in
theorem kL_26 : ms_ckB ms_P ML_law bL_law_26 = true := by decide +kernel
set_option maxRecDepth 100000 in
theorem kL_27 : ms_ckB ms_P ML_law bL_law_27 = true := by decide +kernel
set_option maxRecDepth 100000 in
theorem kL_28 : ms_ckB ms_P ML_law bL_law_28 = true := by decide +kernel
set_option maxRecDepth 100000 in
theorem kL_29 : ms_ckB ms_P ML_law bL_law_29 = true := by decide +kernel
set_option maxRecDepth 100000 in
theorem kL_100 : ms_ckB ms_P ML_law bL_law_100 = true := by decide +kernel
theorem kL_nb : [bL_law_0, bL_law_1, bL_law_2, bL_law_3, bL_law_4, bL_law_5, bL_law_6, bL_law_7, bL_law_8, bL_law_9, bL_law_10, bL_law_11, bL_law_12, bL_law_13, bL_law_14, bL_law_15, bL_law_16, bL_law_17, bL_law_18, bL_law_19, bL_law_20, bL_law_21, bL_law_22, bL_law_23, bL_law_24, bL_law_25, bL_law_26, bL_law_27, bL_law_28, bL_law_29].all (ms_ckB ms_P ML_law) = true := by
  simp only [List.all_cons, List.all_nil, Bool.and_true, Bool.and_eq_true, kL_0, kL_1, kL_2, kL_3, kL_4, kL_5, kL_6, kL_7, kL_8, kL_9, kL_10, kL_11, kL_12, kL_13, kL_14, kL_15, kL_16, kL_17, kL_18, kL_19, kL_20, kL_21, kL_22, kL_23, kL_24, kL_25, kL_26, kL_27, kL_28, kL_29, and_self]
theorem kL_nc : [bL_law_100].all (ms_ckB ms_P ML_law) = true := by
  simp only [List.all_cons, List.all_nil, Bool.and_true, Bool.and_eq_true, kL_100, and_self]
theorem ms_P_ok : ∀ M ∈ ms_P, ms_ckM ms_P M = true := by
  unfold ms_P
  exact List.forall_mem_cons.mpr ⟨kX0_init, List.forall_mem_cons.mpr ⟨kX0_judge, List.forall_mem_cons.mpr ⟨kX0_drawFrom, List.forall_mem_cons.mpr ⟨kX0_judgeOne, List.forall_mem_cons.mpr ⟨kX1_init, List.forall_mem_cons.mpr ⟨kX1_begin, List.forall_mem_cons.mpr ⟨kX1_become, List.forall_mem_cons.mpr ⟨kX1_remember, List.forall_mem_cons.mpr ⟨kX1_loseOldest, List.forall_mem_cons.mpr ⟨kX1_takeBack, List.forall_mem_cons.mpr ⟨kX1_standing, List.forall_mem_cons.mpr ⟨kX2_init, List.forall_mem_cons.mpr ⟨kX2_add, List.forall_mem_cons.mpr ⟨kX2_tell, List.forall_mem_cons.mpr ⟨kX2_readItem, List.forall_mem_cons.mpr ⟨kX2_readColumn, List.forall_mem_cons.mpr ⟨kX2_readGap, List.forall_mem_cons.mpr ⟨kX2_readHands, List.forall_mem_cons.mpr ⟨kX2_readVoter, List.forall_mem_cons.mpr ⟨kX2_readDay, List.forall_mem_cons.mpr ⟨kX2_number, List.forall_mem_cons.mpr ⟨kX2_ended, List.forall_mem_cons.mpr ⟨kX2_take, List.forall_mem_cons.mpr ⟨kX2_takeLetters, List.forall_mem_cons.mpr ⟨kX2_takeNumber, List.forall_mem_cons.mpr ⟨kX3_init, List.forall_mem_cons.mpr ⟨kX3_begin, List.forall_mem_cons.mpr ⟨kX3_addColumn, List.forall_mem_cons.mpr ⟨kX3_addVoter, List.forall_mem_cons.mpr ⟨kX3_addDay, List.forall_mem_cons.mpr ⟨kX3_warmOn, List.forall_mem_cons.mpr ⟨kX3_snowLimit, List.forall_mem_cons.mpr ⟨kX4_init, List.forall_mem_cons.mpr ⟨kX4_type, List.forall_mem_cons.mpr ⟨kX4_clear, List.forall_mem_cons.mpr ⟨kX4_wold, List.forall_mem_cons.mpr ⟨kX4_column, List.forall_mem_cons.mpr ⟨kX4_field, List.forall_mem_cons.mpr ⟨kX4_voter, List.forall_mem_cons.mpr ⟨kX4_days, List.forall_mem_cons.mpr ⟨kX4_warms, List.forall_mem_cons.mpr ⟨kX4_stakes, List.forall_mem_cons.mpr ⟨kX4_pulls, List.forall_mem_cons.mpr ⟨kX4_undo, List.forall_mem_cons.mpr ⟨kX4_now, List.forall_mem_cons.mpr ⟨kX4_first, List.forall_mem_cons.mpr ⟨kX4_fair, List.forall_mem_cons.mpr ⟨kX4_best, List.forall_mem_cons.mpr ⟨kX4_power, List.forall_mem_cons.mpr ⟨kX4_duel, List.forall_mem_cons.mpr ⟨kX4_odds, List.forall_mem_cons.mpr ⟨kX4_hears, List.forall_mem_cons.mpr ⟨kX4_forget, List.forall_mem_cons.mpr ⟨kX4_warmth, List.forall_mem_cons.mpr ⟨kX4_ask, List.forall_mem_cons.mpr ⟨kX4_mark, List.forall_mem_cons.mpr ⟨kX4_keep, List.forall_mem_cons.mpr ⟨kX4_back, List.forall_mem_cons.mpr ⟨kX4_count, List.forall_mem_cons.mpr ⟨kX4_trace, List.forall_mem_cons.mpr ⟨kX4_within, List.forall_mem_cons.mpr ⟨kX4_isColumn, List.forall_mem_cons.mpr ⟨kX4_isField, List.forall_mem_cons.mpr ⟨kX4_isVoter, List.forall_mem_cons.mpr ⟨kX4_warmToday, List.forall_mem_cons.mpr ⟨kX4_mild, List.forall_mem_cons.mpr ⟨kX4_falls, List.forall_mem_cons.mpr ⟨kX4_lowestUpTo, List.forall_mem_cons.mpr ⟨kX4_edge, List.forall_mem_cons.mpr ⟨kX4_wet, List.forall_mem_cons.mpr ⟨kX4_claim, List.forall_mem_cons.mpr ⟨kX4_halves, List.forall_mem_cons.mpr ⟨kX4_greaterHalf, List.forall_mem_cons.mpr ⟨kX4_snowyFields, List.forall_mem_cons.mpr ⟨kX4_rainyFields, List.forall_mem_cons.mpr ⟨kX4_widest, List.forall_mem_cons.mpr ⟨kX4_vote, List.forall_mem_cons.mpr ⟨kX4_decidedOrders, List.forall_mem_cons.mpr ⟨kX4_weightOf, List.forall_mem_cons.mpr ⟨kX4_snowyWays, List.forall_mem_cons.mpr ⟨kX4_leastTerms, List.forall_mem_cons.mpr ⟨kX4_greatestShared, List.forall_mem_cons.mpr ⟨kX4_hearNothing, List.forall_mem_cons.mpr ⟨kX4_warmths, List.forall_mem_cons.mpr ⟨kX4_greaterPart, List.forall_mem_cons.mpr ⟨kX4_columnMark, List.forall_mem_cons.mpr ⟨kX4_moorMark, List.forall_mem_cons.mpr ⟨kX4_fenMark, List.forall_mem_cons.mpr ⟨kX4_fellMark, List.forall_mem_cons.mpr ⟨kX4_saltingMark, List.forall_mem_cons.mpr ⟨kX4_woodMark, List.forall_mem_cons.mpr ⟨kX5_in, List.forall_mem_cons.mpr ⟨kX5_common, List.forall_mem_cons.mpr ⟨kX5_init, List.forall_mem_cons.mpr ⟨kX5_isColumn, List.forall_mem_cons.mpr ⟨kX5_isField, List.forall_mem_cons.mpr ⟨kX5_type, List.forall_mem_cons.mpr ⟨kX5_clear, List.forall_mem_cons.mpr ⟨kX5_here, List.forall_mem_cons.mpr ⟨kX5_skip, List.forall_mem_cons.mpr ⟨kX5_number, List.forall_mem_cons.mpr ⟨kX5_ends, List.forall_mem_cons.mpr ⟨kX5_readsColumn, List.forall_mem_cons.mpr ⟨kX5_readsVoter, List.forall_mem_cons.mpr ⟨kX5_readsDay, List.forall_mem_cons.mpr ⟨kX5_readsGap, List.forall_mem_cons.mpr ⟨kX5_readsHands, List.forall_mem_cons.mpr ⟨kX5_readsItem, List.forall_mem_cons.mpr ⟨kX5_wold, List.forall_mem_cons.mpr ⟨kX5_comesRead, List.forall_mem_cons.mpr ⟨kX5_warmAt, List.forall_mem_cons.mpr ⟨kX5_mildBy, List.forall_mem_cons.mpr ⟨kX5_warmthNow, List.forall_mem_cons.mpr ⟨kX5_mild, List.forall_mem_cons.mpr ⟨kX5_lowestBy, List.forall_mem_cons.mpr ⟨kX5_edge, List.forall_mem_cons.mpr ⟨kX5_wet, List.forall_mem_cons.mpr ⟨kX5_halves, List.forall_mem_cons.mpr ⟨kX5_column, List.forall_mem_cons.mpr ⟨kX5_falls, List.forall_mem_cons.mpr ⟨kX5_field, List.forall_mem_cons.mpr ⟨kX5_voter, List.forall_mem_cons.mpr ⟨kX5_fallMany, List.forall_mem_cons.mpr ⟨kX5_writes, List.forall_mem_cons.mpr ⟨kX5_readsBack, List.forall_mem_cons.mpr ⟨kX5_notes, List.forall_mem_cons.mpr ⟨kX5_days, List.forall_mem_cons.mpr ⟨kX5_warms, List.forall_mem_cons.mpr ⟨kX5_stakes, List.forall_mem_cons.mpr ⟨kX5_pulls, List.forall_mem_cons.mpr ⟨kX5_undo, List.forall_mem_cons.mpr ⟨kX5_widest, List.forall_mem_cons.mpr ⟨kX5_stakeMany, List.forall_mem_cons.mpr ⟨kX5_vote, List.forall_mem_cons.mpr ⟨kX5_now, List.forall_mem_cons.mpr ⟨kX5_first, List.forall_mem_cons.mpr ⟨kX5_firstLine, List.forall_mem_cons.mpr ⟨kX5_nextLine, List.forall_mem_cons.mpr ⟨kX5_lineNumber, List.forall_mem_cons.mpr ⟨kX5_hasHill, List.forall_mem_cons.mpr ⟨kX5_hasSea, List.forall_mem_cons.mpr ⟨kX5_allOf, List.forall_mem_cons.mpr ⟨kX5_fair, List.forall_mem_cons.mpr ⟨kX5_best, List.forall_mem_cons.mpr ⟨kX5_orders, List.forall_mem_cons.mpr ⟨kX5_weightOf, List.forall_mem_cons.mpr ⟨kX5_power, List.forall_mem_cons.mpr ⟨kX5_duel, List.forall_mem_cons.mpr ⟨kX5_odds, List.forall_mem_cons.mpr ⟨kX5_hears, List.forall_mem_cons.mpr ⟨kX5_forget, List.forall_mem_cons.mpr ⟨kX5_says, List.forall_mem_cons.mpr ⟨kX5_isSo, List.forall_mem_cons.mpr ⟨kX5_warmth, List.forall_mem_cons.mpr ⟨kX5_ask, List.forall_mem_cons.mpr ⟨kX5_marked, List.forall_mem_cons.mpr ⟨kX5_mark, List.forall_mem_cons.mpr ⟨kX5_keep, List.forall_mem_cons.mpr ⟨kX5_back, List.forall_mem_cons.mpr ⟨kX5_count, List.forall_mem_cons.mpr ⟨kX5_trace, List.forall_mem_cons.mpr ⟨kJ6_bitCount_0f7a4, fun _ h => absurd h List.not_mem_nil⟩⟩⟩⟩⟩⟩⟩⟩⟩⟩⟩⟩⟩⟩⟩⟩⟩⟩⟩⟩⟩⟩⟩⟩⟩⟩⟩⟩⟩⟩⟩⟩⟩⟩⟩⟩⟩⟩⟩⟩⟩⟩⟩⟩⟩⟩⟩⟩⟩⟩⟩⟩⟩⟩⟩⟩⟩⟩⟩⟩⟩⟩⟩⟩⟩⟩⟩⟩⟩⟩⟩⟩⟩⟩⟩⟩⟩⟩⟩⟩⟩⟩⟩⟩⟩⟩⟩⟩⟩⟩⟩⟩⟩⟩⟩⟩⟩⟩⟩⟩⟩⟩⟩⟩⟩⟩⟩⟩⟩⟩⟩⟩⟩⟩⟩⟩⟩⟩⟩⟩⟩⟩⟩⟩⟩⟩⟩⟩⟩⟩⟩⟩⟩⟩⟩⟩⟩⟩⟩⟩⟩⟩⟩⟩⟩⟩⟩⟩⟩⟩⟩⟩⟩⟩⟩⟩⟩⟩⟩⟩⟩⟩
theorem ms_L_ok (t : Nat) : ms_ckB ms_P ML_law (M_bl ML_law t) = true := ms_ckM_bl (M := ML_law) kL_nb kL_nc t
