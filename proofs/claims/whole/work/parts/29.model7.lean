/-! The model: what was said; marks. -/
def hrH (h : ms_H) (w c f s : Int) : ms_H := hs (hs (hs (hs (hs h 47 (4 * h 38 14) w) 47 (4 * h 38 14 + 1) c) 47 (4 * h 38 14 + 2) f) 47 (4 * h 38 14 + 3) s) 38 14 (h 38 14 + 1)
set_option maxRecDepth 50000 in
theorem m_hears {d : Nat} {w c f s : Int} {h : ms_H} {Q : ms_Q} (hv : MV h) (hn : 0 ≤ h 38 14 ∧ h 38 14 ≤ 6) (q1 : ¬ ((0 ≤ w ∧ w ≤ 1) ∧ (0 ≤ c ∧ c < h 38 0) ∧ (0 ≤ f ∧ f ≤ 7) ∧ 0 ≤ s ∧ s ≤ 1) → Q (some (mI (-1))) SH h) (q2 : ((0 ≤ w ∧ w ≤ 1) ∧ (0 ≤ c ∧ c < h 38 0) ∧ (0 ≤ f ∧ f ≤ 7) ∧ 0 ≤ s ∧ s ≤ 1) → h 38 14 = 6 → Q (some (mI (-3))) SH h) (q3 : ((0 ≤ w ∧ w ≤ 1) ∧ (0 ≤ c ∧ c < h 38 0) ∧ (0 ≤ f ∧ f ≤ 7) ∧ 0 ≤ s ∧ s ≤ 1) → ¬ h 38 14 = 6 → Q (some (mI (h 38 14 + 1))) SH (hrH h w c f s)) : ms_Ok ms_P (d + 3) 149 [mR 38, mI w, mI c, mI f, mI s] SH (h) Q := by
  refine ok_in (k := 30) MX5_hears rfl rfl ?_
  show sq (ms_Ok ms_P (d + 2)) ms_X1 MX5_hears Q 30 (M_bl MX5_hears 0) [mR 38, mI w, mI c, mI f, mI s, mL 0] [] (SH, 0, 0) (h)
  have hR := hv.1
  unfold RM at hR
  simp only [sq_c, jp_s, jp_c, rc_0, rc_s, ms_ex, o_iload, o_aload, o_istore, o_astore, o_iinc, o_bin, o_div, o_rem, o_neg, o_and, o_shl, o_shr, o_dup, o_pop, o_dup2, o_if, o_icmp, o_switch, o_sw, o_get, o_put, o_iald, o_iast, o_zald, o_zast, o_aald, o_aast, o_len, ob_s, ob_n, o_call, o_max, o_min, o_copy, o_obj, o_lpush, o_ladd, o_lcmp, o_iret, o_lret, o_vret, i1_c, l1_c, r1_c, st_g0, st_g1, st_g2, st_g3, st_g4, st_g5, st_g6, st_g7, st_g8, st_g9, st_s0, st_s1, st_s2, st_s3, st_s4, st_s5, st_s6, st_s7, st_s8, st_s9, List.length_cons, List.length_nil, List.take_succ_cons, List.take_zero, List.drop_succ_cons, List.drop_zero, List.reverse_cons, List.reverse_nil, List.nil_append, List.cons_append, List.all_cons, List.all_nil, ms_nl, Bool.and_true, Nat.reduceLeDiff, Nat.reduceAdd, Nat.reduceLT, Nat.reduceEqDiff, if_true, if_false, true_and, and_true, ms_rt, List.cons.injEq, exists_eq_left, exists_eq_right, exists_and_left, exists_and_right, ms_one, ite_true, ite_false, reduceIte, imp_self, Nat.zero_add, Nat.add_zero, zero_le_any, Nat.le_refl, Int.zero_add, true_or, or_true, false_implies, Int.reduceLE, Int.reduceLT, Int.reduceNeg, Int.reduceAdd, Int.reduceSub, Int.reduceMul, Int.reduceEq, not_true, not_false_iff, and_self, implies_true, false_and, and_false, or_false, false_or, bX5_hears_0, bX5_hears_1, bX5_hears_2, bX5_hears_3, lX5_hears_0, lX5_hears_1, lX5_hears_2, lX5_hears_3, qX5_hears, sh_b, hR]
  refine m_in (fun r1 hr1 => ?_)
  simp only [sq_c, jp_s, jp_c, rc_0, rc_s, ms_ex, o_iload, o_aload, o_istore, o_astore, o_iinc, o_bin, o_div, o_rem, o_neg, o_and, o_shl, o_shr, o_dup, o_pop, o_dup2, o_if, o_icmp, o_switch, o_sw, o_get, o_put, o_iald, o_iast, o_zald, o_zast, o_aald, o_aast, o_len, ob_s, ob_n, o_call, o_max, o_min, o_copy, o_obj, o_lpush, o_ladd, o_lcmp, o_iret, o_lret, o_vret, i1_c, l1_c, r1_c, st_g0, st_g1, st_g2, st_g3, st_g4, st_g5, st_g6, st_g7, st_g8, st_g9, st_s0, st_s1, st_s2, st_s3, st_s4, st_s5, st_s6, st_s7, st_s8, st_s9, List.length_cons, List.length_nil, List.take_succ_cons, List.take_zero, List.drop_succ_cons, List.drop_zero, List.reverse_cons, List.reverse_nil, List.nil_append, List.cons_append, List.all_cons, List.all_nil, ms_nl, Bool.and_true, Nat.reduceLeDiff, Nat.reduceAdd, Nat.reduceLT, Nat.reduceEqDiff, if_true, if_false, true_and, and_true, ms_rt, List.cons.injEq, exists_eq_left, exists_eq_right, exists_and_left, exists_and_right, ms_one, ite_true, ite_false, reduceIte, imp_self, Nat.zero_add, Nat.add_zero, zero_le_any, Nat.le_refl, Int.zero_add, true_or, or_true, false_implies, Int.reduceLE, Int.reduceLT, Int.reduceNeg, Int.reduceAdd, Int.reduceSub, Int.reduceMul, Int.reduceEq, not_true, not_false_iff, and_self, implies_true, false_and, and_false, or_false, false_or, bX5_hears_0, bX5_hears_1, bX5_hears_2, bX5_hears_3, lX5_hears_0, lX5_hears_1, lX5_hears_2, lX5_hears_3, qX5_hears, sh_b, hR]
  refine ⟨fun h1 => q1 (fun z => bf hr1 h1 z.1), fun h1 => ?_⟩
  refine m_isColumn hv (fun r2 hr2 => ?_)
  simp only [sq_c, jp_s, jp_c, rc_0, rc_s, ms_ex, o_iload, o_aload, o_istore, o_astore, o_iinc, o_bin, o_div, o_rem, o_neg, o_and, o_shl, o_shr, o_dup, o_pop, o_dup2, o_if, o_icmp, o_switch, o_sw, o_get, o_put, o_iald, o_iast, o_zald, o_zast, o_aald, o_aast, o_len, ob_s, ob_n, o_call, o_max, o_min, o_copy, o_obj, o_lpush, o_ladd, o_lcmp, o_iret, o_lret, o_vret, i1_c, l1_c, r1_c, st_g0, st_g1, st_g2, st_g3, st_g4, st_g5, st_g6, st_g7, st_g8, st_g9, st_s0, st_s1, st_s2, st_s3, st_s4, st_s5, st_s6, st_s7, st_s8, st_s9, List.length_cons, List.length_nil, List.take_succ_cons, List.take_zero, List.drop_succ_cons, List.drop_zero, List.reverse_cons, List.reverse_nil, List.nil_append, List.cons_append, List.all_cons, List.all_nil, ms_nl, Bool.and_true, Nat.reduceLeDiff, Nat.reduceAdd, Nat.reduceLT, Nat.reduceEqDiff, if_true, if_false, true_and, and_true, ms_rt, List.cons.injEq, exists_eq_left, exists_eq_right, exists_and_left, exists_and_right, ms_one, ite_true, ite_false, reduceIte, imp_self, Nat.zero_add, Nat.add_zero, zero_le_any, Nat.le_refl, Int.zero_add, true_or, or_true, false_implies, Int.reduceLE, Int.reduceLT, Int.reduceNeg, Int.reduceAdd, Int.reduceSub, Int.reduceMul, Int.reduceEq, not_true, not_false_iff, and_self, implies_true, false_and, and_false, or_false, false_or, bX5_hears_0, bX5_hears_1, bX5_hears_2, bX5_hears_3, lX5_hears_0, lX5_hears_1, lX5_hears_2, lX5_hears_3, qX5_hears, sh_b, hR]
  refine ⟨fun h2 => q1 (fun z => bf hr2 h2 z.2.1), fun h2 => ?_⟩
  refine m_isField (fun r3 hr3 => ?_)
  simp only [sq_c, jp_s, jp_c, rc_0, rc_s, ms_ex, o_iload, o_aload, o_istore, o_astore, o_iinc, o_bin, o_div, o_rem, o_neg, o_and, o_shl, o_shr, o_dup, o_pop, o_dup2, o_if, o_icmp, o_switch, o_sw, o_get, o_put, o_iald, o_iast, o_zald, o_zast, o_aald, o_aast, o_len, ob_s, ob_n, o_call, o_max, o_min, o_copy, o_obj, o_lpush, o_ladd, o_lcmp, o_iret, o_lret, o_vret, i1_c, l1_c, r1_c, st_g0, st_g1, st_g2, st_g3, st_g4, st_g5, st_g6, st_g7, st_g8, st_g9, st_s0, st_s1, st_s2, st_s3, st_s4, st_s5, st_s6, st_s7, st_s8, st_s9, List.length_cons, List.length_nil, List.take_succ_cons, List.take_zero, List.drop_succ_cons, List.drop_zero, List.reverse_cons, List.reverse_nil, List.nil_append, List.cons_append, List.all_cons, List.all_nil, ms_nl, Bool.and_true, Nat.reduceLeDiff, Nat.reduceAdd, Nat.reduceLT, Nat.reduceEqDiff, if_true, if_false, true_and, and_true, ms_rt, List.cons.injEq, exists_eq_left, exists_eq_right, exists_and_left, exists_and_right, ms_one, ite_true, ite_false, reduceIte, imp_self, Nat.zero_add, Nat.add_zero, zero_le_any, Nat.le_refl, Int.zero_add, true_or, or_true, false_implies, Int.reduceLE, Int.reduceLT, Int.reduceNeg, Int.reduceAdd, Int.reduceSub, Int.reduceMul, Int.reduceEq, not_true, not_false_iff, and_self, implies_true, false_and, and_false, or_false, false_or, bX5_hears_0, bX5_hears_1, bX5_hears_2, bX5_hears_3, lX5_hears_0, lX5_hears_1, lX5_hears_2, lX5_hears_3, qX5_hears, sh_b, hR]
  refine ⟨fun h3 => q1 (fun z => bf hr3 h3 z.2.2.1), fun h3 => ?_⟩
  refine m_in (fun r4 hr4 => ?_)
  simp only [sq_c, jp_s, jp_c, rc_0, rc_s, ms_ex, o_iload, o_aload, o_istore, o_astore, o_iinc, o_bin, o_div, o_rem, o_neg, o_and, o_shl, o_shr, o_dup, o_pop, o_dup2, o_if, o_icmp, o_switch, o_sw, o_get, o_put, o_iald, o_iast, o_zald, o_zast, o_aald, o_aast, o_len, ob_s, ob_n, o_call, o_max, o_min, o_copy, o_obj, o_lpush, o_ladd, o_lcmp, o_iret, o_lret, o_vret, i1_c, l1_c, r1_c, st_g0, st_g1, st_g2, st_g3, st_g4, st_g5, st_g6, st_g7, st_g8, st_g9, st_s0, st_s1, st_s2, st_s3, st_s4, st_s5, st_s6, st_s7, st_s8, st_s9, List.length_cons, List.length_nil, List.take_succ_cons, List.take_zero, List.drop_succ_cons, List.drop_zero, List.reverse_cons, List.reverse_nil, List.nil_append, List.cons_append, List.all_cons, List.all_nil, ms_nl, Bool.and_true, Nat.reduceLeDiff, Nat.reduceAdd, Nat.reduceLT, Nat.reduceEqDiff, if_true, if_false, true_and, and_true, ms_rt, List.cons.injEq, exists_eq_left, exists_eq_right, exists_and_left, exists_and_right, ms_one, ite_true, ite_false, reduceIte, imp_self, Nat.zero_add, Nat.add_zero, zero_le_any, Nat.le_refl, Int.zero_add, true_or, or_true, false_implies, Int.reduceLE, Int.reduceLT, Int.reduceNeg, Int.reduceAdd, Int.reduceSub, Int.reduceMul, Int.reduceEq, not_true, not_false_iff, and_self, implies_true, false_and, and_false, or_false, false_or, bX5_hears_0, bX5_hears_1, bX5_hears_2, bX5_hears_3, lX5_hears_0, lX5_hears_1, lX5_hears_2, lX5_hears_3, qX5_hears, sh_b, hR, ar_47, hs_v]
  refine ⟨fun h4 => ?_, fun h4 => q1 (fun z => bf hr4 h4 z.2.2.2)⟩
  have hp := And.intro (bt hr1 h1) (And.intro (bt hr2 h2) (And.intro (bt hr3 h3) (bt hr4 h4)))
  refine ⟨fun h5 => ?_, fun h5 => q2 hp h5⟩
  exact ⟨rg_of (by omega) (by omega), by omega, by omega, rg_of (by omega) (by omega), by omega, by omega, rg_of (by omega) (by omega), by omega, by omega, rg_of (by omega) (by omega), by omega, by omega, rg_of (by omega) (by omega), q3 hp h5⟩
theorem m_forget {d : Nat} {h : ms_H} {Q : ms_Q} (q : Q (some (mI (h 38 14))) SH (hs h 38 14 0)) : ms_Ok ms_P (d + 1) 150 [mR 38] SH (h) Q := by
  refine ok_in (k := 30) MX5_forget rfl rfl ?_
  show sq (ms_Ok ms_P (d)) ms_X1 MX5_forget Q 30 (M_bl MX5_forget 0) [mR 38, mL 0] [] (SH, 0, 0) (h)
  simp only [sq_c, jp_s, jp_c, rc_0, rc_s, ms_ex, o_iload, o_aload, o_istore, o_astore, o_iinc, o_bin, o_div, o_rem, o_neg, o_and, o_shl, o_shr, o_dup, o_pop, o_dup2, o_if, o_icmp, o_switch, o_sw, o_get, o_put, o_iald, o_iast, o_zald, o_zast, o_aald, o_aast, o_len, ob_s, ob_n, o_call, o_max, o_min, o_copy, o_obj, o_lpush, o_ladd, o_lcmp, o_iret, o_lret, o_vret, i1_c, l1_c, r1_c, st_g0, st_g1, st_g2, st_g3, st_g4, st_g5, st_g6, st_g7, st_g8, st_g9, st_s0, st_s1, st_s2, st_s3, st_s4, st_s5, st_s6, st_s7, st_s8, st_s9, List.length_cons, List.length_nil, List.take_succ_cons, List.take_zero, List.drop_succ_cons, List.drop_zero, List.reverse_cons, List.reverse_nil, List.nil_append, List.cons_append, List.all_cons, List.all_nil, ms_nl, Bool.and_true, Nat.reduceLeDiff, Nat.reduceAdd, Nat.reduceLT, Nat.reduceEqDiff, if_true, if_false, true_and, and_true, ms_rt, List.cons.injEq, exists_eq_left, exists_eq_right, exists_and_left, exists_and_right, ms_one, ite_true, ite_false, reduceIte, imp_self, Nat.zero_add, Nat.add_zero, zero_le_any, Nat.le_refl, Int.zero_add, true_or, or_true, false_implies, Int.reduceLE, Int.reduceLT, Int.reduceNeg, Int.reduceAdd, Int.reduceSub, Int.reduceMul, Int.reduceEq, not_true, not_false_iff, and_self, implies_true, false_and, and_false, or_false, false_or, bX5_forget_0, lX5_forget_0, qX5_forget, sh_b]
  exact q
theorem m_says {d : Nat} {t w c f : Int} {h : ms_H} {Q : ms_Q} (hv : MV h) (ht : 0 ≤ t ∧ t ≤ 39) (hw : 0 ≤ w ∧ w ≤ 1) (hc : 0 ≤ c ∧ c < h 38 0) (hf : 0 ≤ f ∧ f ≤ 7) (q : ∀ r, r = (if t - h 40 c - f ≤ h 39 w then 1 else 0) → Q (some (mI r)) SH h) : ms_Ok ms_P (d + 2) 151 [mR 38, mI t, mI w, mI c, mI f] SH (h) Q := by
  refine ok_in (k := 30) MX5_says rfl rfl ?_
  show sq (ms_Ok ms_P (d + 1)) ms_X1 MX5_says Q 30 (M_bl MX5_says 0) [mR 38, mI t, mI w, mI c, mI f] [] (SH, 0, 0) (h)
  have hR := hv.1
  unfold RM at hR
  simp only [sq_c, jp_s, jp_c, rc_0, rc_s, ms_ex, o_iload, o_aload, o_istore, o_astore, o_iinc, o_bin, o_div, o_rem, o_neg, o_and, o_shl, o_shr, o_dup, o_pop, o_dup2, o_if, o_icmp, o_switch, o_sw, o_get, o_put, o_iald, o_iast, o_zald, o_zast, o_aald, o_aast, o_len, ob_s, ob_n, o_call, o_max, o_min, o_copy, o_obj, o_lpush, o_ladd, o_lcmp, o_iret, o_lret, o_vret, i1_c, l1_c, r1_c, st_g0, st_g1, st_g2, st_g3, st_g4, st_g5, st_g6, st_g7, st_g8, st_g9, st_s0, st_s1, st_s2, st_s3, st_s4, st_s5, st_s6, st_s7, st_s8, st_s9, List.length_cons, List.length_nil, List.take_succ_cons, List.take_zero, List.drop_succ_cons, List.drop_zero, List.reverse_cons, List.reverse_nil, List.nil_append, List.cons_append, List.all_cons, List.all_nil, ms_nl, Bool.and_true, Nat.reduceLeDiff, Nat.reduceAdd, Nat.reduceLT, Nat.reduceEqDiff, if_true, if_false, true_and, and_true, ms_rt, List.cons.injEq, exists_eq_left, exists_eq_right, exists_and_left, exists_and_right, ms_one, ite_true, ite_false, reduceIte, imp_self, Nat.zero_add, Nat.add_zero, zero_le_any, Nat.le_refl, Int.zero_add, true_or, or_true, false_implies, Int.reduceLE, Int.reduceLT, Int.reduceNeg, Int.reduceAdd, Int.reduceSub, Int.reduceMul, Int.reduceEq, not_true, not_false_iff, and_self, implies_true, false_and, and_false, or_false, false_or, bX5_says_0, bX5_says_1, bX5_says_2, lX5_says_0, lX5_says_1, lX5_says_2, qX5_says, sh_b, hR]
  refine m_mildBy hv (by omega) hc (by omega) ?_
  simp only [sq_c, jp_s, jp_c, rc_0, rc_s, ms_ex, o_iload, o_aload, o_istore, o_astore, o_iinc, o_bin, o_div, o_rem, o_neg, o_and, o_shl, o_shr, o_dup, o_pop, o_dup2, o_if, o_icmp, o_switch, o_sw, o_get, o_put, o_iald, o_iast, o_zald, o_zast, o_aald, o_aast, o_len, ob_s, ob_n, o_call, o_max, o_min, o_copy, o_obj, o_lpush, o_ladd, o_lcmp, o_iret, o_lret, o_vret, i1_c, l1_c, r1_c, st_g0, st_g1, st_g2, st_g3, st_g4, st_g5, st_g6, st_g7, st_g8, st_g9, st_s0, st_s1, st_s2, st_s3, st_s4, st_s5, st_s6, st_s7, st_s8, st_s9, List.length_cons, List.length_nil, List.take_succ_cons, List.take_zero, List.drop_succ_cons, List.drop_zero, List.reverse_cons, List.reverse_nil, List.nil_append, List.cons_append, List.all_cons, List.all_nil, ms_nl, Bool.and_true, Nat.reduceLeDiff, Nat.reduceAdd, Nat.reduceLT, Nat.reduceEqDiff, if_true, if_false, true_and, and_true, ms_rt, List.cons.injEq, exists_eq_left, exists_eq_right, exists_and_left, exists_and_right, ms_one, ite_true, ite_false, reduceIte, imp_self, Nat.zero_add, Nat.add_zero, zero_le_any, Nat.le_refl, Int.zero_add, true_or, or_true, false_implies, Int.reduceLE, Int.reduceLT, Int.reduceNeg, Int.reduceAdd, Int.reduceSub, Int.reduceMul, Int.reduceEq, not_true, not_false_iff, and_self, implies_true, false_and, and_false, or_false, false_or, bX5_says_0, bX5_says_1, bX5_says_2, lX5_says_0, lX5_says_1, lX5_says_2, qX5_says, sh_b, hR, ar_39]
  refine ⟨by omega, by omega, fun h1 => q _ ?_, fun h1 => q _ ?_⟩
  · rw [if_neg (by omega)]
  · rw [if_pos (by omega)]
/-- all that was heard is so at this warmth: the first n of it -/
def sy (h : ms_H) (t : Int) (k : Int) : Prop := (t - h 40 (h 47 (4 * k + 1)) - h 47 (4 * k + 2) ≤ h 39 (h 47 (4 * k))) ↔ h 47 (4 * k + 3) = 1
def so (h : ms_H) (t : Int) : Nat → Prop
  | 0 => True
  | n + 1 => so h t n ∧ sy h t n
def HV (h : ms_H) : Prop := (0 ≤ h 38 14 ∧ h 38 14 ≤ 6) ∧ ∀ k, 0 ≤ k → k < h 38 14 → (0 ≤ h 47 (4 * k) ∧ h 47 (4 * k) ≤ 1) ∧ (0 ≤ h 47 (4 * k + 1) ∧ h 47 (4 * k + 1) < h 38 0) ∧ (0 ≤ h 47 (4 * k + 2) ∧ h 47 (4 * k + 2) ≤ 7) ∧ (0 ≤ h 47 (4 * k + 3) ∧ h 47 (4 * k + 3) ≤ 1)
theorem m_isSo_lp {d : Nat} {t : Int} {h : ms_H} {Q : ms_Q} (hv : MV h) (hh : HV h) (ht : 0 ≤ t ∧ t ≤ 39) (q : ∀ r, (r = 0 ∨ r = 1) → (r = 1 ↔ so h t (h 38 14).toNat) → Q (some (mI r)) SH h) : ∀ (j k : Nat) (r : Int) (u : ms_V), k + j = (h 38 14).toNat → (r = 0 ∨ r = 1) → (r = 1 ↔ so h t k) → ms_at (ms_Ok ms_P (d + 2)) ms_X1 MX5_isSo Q 100 [mR 38, mI t, mI r, mI k, u] [] (SH, 0, 0) (h) := by
  have hR := hv.1
  unfold RM at hR
  have hn := hh.1
  intro j
  induction j with
  | zero =>
    intro k r u hk hr hs
    refine sq_at (ms_Ok_m ms_P _) 30 100 ?_
    simp only [sq_c, jp_s, jp_c, rc_0, rc_s, ms_ex, o_iload, o_aload, o_istore, o_astore, o_iinc, o_bin, o_div, o_rem, o_neg, o_and, o_shl, o_shr, o_dup, o_pop, o_dup2, o_if, o_icmp, o_switch, o_sw, o_get, o_put, o_iald, o_iast, o_zald, o_zast, o_aald, o_aast, o_len, ob_s, ob_n, o_call, o_max, o_min, o_copy, o_obj, o_lpush, o_ladd, o_lcmp, o_iret, o_lret, o_vret, i1_c, l1_c, r1_c, st_g0, st_g1, st_g2, st_g3, st_g4, st_g5, st_g6, st_g7, st_g8, st_g9, st_s0, st_s1, st_s2, st_s3, st_s4, st_s5, st_s6, st_s7, st_s8, st_s9, List.length_cons, List.length_nil, List.take_succ_cons, List.take_zero, List.drop_succ_cons, List.drop_zero, List.reverse_cons, List.reverse_nil, List.nil_append, List.cons_append, List.all_cons, List.all_nil, ms_nl, Bool.and_true, Nat.reduceLeDiff, Nat.reduceAdd, Nat.reduceLT, Nat.reduceEqDiff, if_true, if_false, true_and, and_true, ms_rt, List.cons.injEq, exists_eq_left, exists_eq_right, exists_and_left, exists_and_right, ms_one, ite_true, ite_false, reduceIte, imp_self, Nat.zero_add, Nat.add_zero, zero_le_any, Nat.le_refl, Int.zero_add, true_or, or_true, false_implies, Int.reduceLE, Int.reduceLT, Int.reduceNeg, Int.reduceAdd, Int.reduceSub, Int.reduceMul, Int.reduceEq, not_true, not_false_iff, and_self, implies_true, false_and, and_false, or_false, false_or, bX5_isSo_0, bX5_isSo_1, bX5_isSo_2, bX5_isSo_3, bX5_isSo_4, bX5_isSo_5, bX5_isSo_100, lX5_isSo_0, lX5_isSo_1, lX5_isSo_2, lX5_isSo_3, lX5_isSo_4, lX5_isSo_5, lX5_isSo_100, qX5_isSo, sh_b, hR, ar_47]
    refine ⟨fun _ => ⟨hr, q r hr ?_⟩, fun h1 => by omega⟩
    rw [show (h 38 14).toNat = k by omega]
    exact hs
  | succ j ih =>
    intro k r u hk hr hs
    obtain ⟨k1, k2, k3, k4⟩ := hh.2 k (by omega) (by omega)
    refine sq_at (ms_Ok_m ms_P _) 30 100 ?_
    simp only [sq_c, jp_s, jp_c, rc_0, rc_s, ms_ex, o_iload, o_aload, o_istore, o_astore, o_iinc, o_bin, o_div, o_rem, o_neg, o_and, o_shl, o_shr, o_dup, o_pop, o_dup2, o_if, o_icmp, o_switch, o_sw, o_get, o_put, o_iald, o_iast, o_zald, o_zast, o_aald, o_aast, o_len, ob_s, ob_n, o_call, o_max, o_min, o_copy, o_obj, o_lpush, o_ladd, o_lcmp, o_iret, o_lret, o_vret, i1_c, l1_c, r1_c, st_g0, st_g1, st_g2, st_g3, st_g4, st_g5, st_g6, st_g7, st_g8, st_g9, st_s0, st_s1, st_s2, st_s3, st_s4, st_s5, st_s6, st_s7, st_s8, st_s9, List.length_cons, List.length_nil, List.take_succ_cons, List.take_zero, List.drop_succ_cons, List.drop_zero, List.reverse_cons, List.reverse_nil, List.nil_append, List.cons_append, List.all_cons, List.all_nil, ms_nl, Bool.and_true, Nat.reduceLeDiff, Nat.reduceAdd, Nat.reduceLT, Nat.reduceEqDiff, if_true, if_false, true_and, and_true, ms_rt, List.cons.injEq, exists_eq_left, exists_eq_right, exists_and_left, exists_and_right, ms_one, ite_true, ite_false, reduceIte, imp_self, Nat.zero_add, Nat.add_zero, zero_le_any, Nat.le_refl, Int.zero_add, true_or, or_true, false_implies, Int.reduceLE, Int.reduceLT, Int.reduceNeg, Int.reduceAdd, Int.reduceSub, Int.reduceMul, Int.reduceEq, not_true, not_false_iff, and_self, implies_true, false_and, and_false, or_false, false_or, bX5_isSo_0, bX5_isSo_1, bX5_isSo_2, bX5_isSo_3, bX5_isSo_4, bX5_isSo_5, bX5_isSo_100, lX5_isSo_0, lX5_isSo_1, lX5_isSo_2, lX5_isSo_3, lX5_isSo_4, lX5_isSo_5, lX5_isSo_100, qX5_isSo, sh_b, hR, ar_47]
    refine ⟨fun h1 => by omega, fun h1 => ⟨rg_of (by omega) (by omega), fun h2 => ?_, fun h2 => ?_⟩⟩
    · refine ⟨rg_of (by omega) (by omega), ih (k + 1) 0 _ (by omega) (Or.inl rfl) ⟨fun z => by omega, fun z => ?_⟩⟩
      have := hs.mpr z.1
      omega
    · have hsk : so h t k := hs.mp (by omega)
      refine ⟨by omega, by omega, rg_of (by omega) (by omega), by omega, by omega, rg_of (by omega) (by omega), by omega, by omega, ?_⟩
      refine m_says hv ht k1 k2 k3 (fun r2 hr2 => ?_)
      have hr01 := b01 hr2
      simp only [sq_c, jp_s, jp_c, rc_0, rc_s, ms_ex, o_iload, o_aload, o_istore, o_astore, o_iinc, o_bin, o_div, o_rem, o_neg, o_and, o_shl, o_shr, o_dup, o_pop, o_dup2, o_if, o_icmp, o_switch, o_sw, o_get, o_put, o_iald, o_iast, o_zald, o_zast, o_aald, o_aast, o_len, ob_s, ob_n, o_call, o_max, o_min, o_copy, o_obj, o_lpush, o_ladd, o_lcmp, o_iret, o_lret, o_vret, i1_c, l1_c, r1_c, st_g0, st_g1, st_g2, st_g3, st_g4, st_g5, st_g6, st_g7, st_g8, st_g9, st_s0, st_s1, st_s2, st_s3, st_s4, st_s5, st_s6, st_s7, st_s8, st_s9, List.length_cons, List.length_nil, List.take_succ_cons, List.take_zero, List.drop_succ_cons, List.drop_zero, List.reverse_cons, List.reverse_nil, List.nil_append, List.cons_append, List.all_cons, List.all_nil, ms_nl, Bool.and_true, Nat.reduceLeDiff, Nat.reduceAdd, Nat.reduceLT, Nat.reduceEqDiff, if_true, if_false, true_and, and_true, ms_rt, List.cons.injEq, exists_eq_left, exists_eq_right, exists_and_left, exists_and_right, ms_one, ite_true, ite_false, reduceIte, imp_self, Nat.zero_add, Nat.add_zero, zero_le_any, Nat.le_refl, Int.zero_add, true_or, or_true, false_implies, Int.reduceLE, Int.reduceLT, Int.reduceNeg, Int.reduceAdd, Int.reduceSub, Int.reduceMul, Int.reduceEq, not_true, not_false_iff, and_self, implies_true, false_and, and_false, or_false, false_or, bX5_isSo_0, bX5_isSo_1, bX5_isSo_2, bX5_isSo_3, bX5_isSo_4, bX5_isSo_5, bX5_isSo_100, lX5_isSo_0, lX5_isSo_1, lX5_isSo_2, lX5_isSo_3, lX5_isSo_4, lX5_isSo_5, lX5_isSo_100, qX5_isSo, sh_b, hR, ar_47]
      refine ⟨rg_of (by omega) (by omega), by omega, by omega, fun h3 => ⟨fun h4 => ?_, fun h4 => ?_⟩, fun h3 => ⟨fun h4 => ?_, fun h4 => ?_⟩⟩
      · refine ⟨rg_of (by omega) (by omega), ih (k + 1) 0 _ (by omega) (Or.inl rfl) ⟨fun z => by omega, fun z => ?_⟩⟩
        have h5 := bt hr2 h4
        exact absurd (z.2.mp h5) h3
      · refine ⟨rg_of (by omega) (by omega), ih (k + 1) 1 _ (by omega) (Or.inr rfl) ⟨fun _ => ⟨hsk, ?_⟩, fun z => rfl⟩⟩
        have h5 := bf hr2 h4
        exact ⟨fun z => absurd z h5, fun z => absurd z h3⟩
      · refine ⟨rg_of (by omega) (by omega), ih (k + 1) 0 _ (by omega) (Or.inl rfl) ⟨fun z => by omega, fun z => ?_⟩⟩
        have h5 := bf hr2 (by omega)
        exact absurd (z.2.mpr h3) h5
      · refine ⟨rg_of (by omega) (by omega), ih (k + 1) 1 _ (by omega) (Or.inr rfl) ⟨fun _ => ⟨hsk, ?_⟩, fun z => rfl⟩⟩
        have h5 := bt hr2 (by omega)
        exact ⟨fun _ => h3, fun _ => h5⟩
theorem m_isSo {d : Nat} {t : Int} {h : ms_H} {Q : ms_Q} (hv : MV h) (hh : HV h) (ht : 0 ≤ t ∧ t ≤ 39) (q : ∀ r, (r = 0 ∨ r = 1) → (r = 1 ↔ so h t (h 38 14).toNat) → Q (some (mI r)) SH h) : ms_Ok ms_P (d + 3) 152 [mR 38, mI t] SH (h) Q := by
  refine ok_in (k := 30) MX5_isSo rfl rfl ?_
  show sq (ms_Ok ms_P (d + 2)) ms_X1 MX5_isSo Q 30 (M_bl MX5_isSo 0) [mR 38, mI t, mL 0, mL 0, mL 0] [] (SH, 0, 0) (h)
  simp only [sq_c, jp_s, jp_c, rc_0, rc_s, ms_ex, o_iload, o_aload, o_istore, o_astore, o_iinc, o_bin, o_div, o_rem, o_neg, o_and, o_shl, o_shr, o_dup, o_pop, o_dup2, o_if, o_icmp, o_switch, o_sw, o_get, o_put, o_iald, o_iast, o_zald, o_zast, o_aald, o_aast, o_len, ob_s, ob_n, o_call, o_max, o_min, o_copy, o_obj, o_lpush, o_ladd, o_lcmp, o_iret, o_lret, o_vret, i1_c, l1_c, r1_c, st_g0, st_g1, st_g2, st_g3, st_g4, st_g5, st_g6, st_g7, st_g8, st_g9, st_s0, st_s1, st_s2, st_s3, st_s4, st_s5, st_s6, st_s7, st_s8, st_s9, List.length_cons, List.length_nil, List.take_succ_cons, List.take_zero, List.drop_succ_cons, List.drop_zero, List.reverse_cons, List.reverse_nil, List.nil_append, List.cons_append, List.all_cons, List.all_nil, ms_nl, Bool.and_true, Nat.reduceLeDiff, Nat.reduceAdd, Nat.reduceLT, Nat.reduceEqDiff, if_true, if_false, true_and, and_true, ms_rt, List.cons.injEq, exists_eq_left, exists_eq_right, exists_and_left, exists_and_right, ms_one, ite_true, ite_false, reduceIte, imp_self, Nat.zero_add, Nat.add_zero, zero_le_any, Nat.le_refl, Int.zero_add, true_or, or_true, false_implies, Int.reduceLE, Int.reduceLT, Int.reduceNeg, Int.reduceAdd, Int.reduceSub, Int.reduceMul, Int.reduceEq, not_true, not_false_iff, and_self, implies_true, false_and, and_false, or_false, false_or, bX5_isSo_0, bX5_isSo_1, bX5_isSo_2, bX5_isSo_3, bX5_isSo_4, bX5_isSo_5, bX5_isSo_100, lX5_isSo_0, lX5_isSo_1, lX5_isSo_2, lX5_isSo_3, lX5_isSo_4, lX5_isSo_5, lX5_isSo_100, qX5_isSo, sh_b]
  exact m_isSo_lp hv hh ht q (h 38 14).toNat 0 1 _ (by omega) (Or.inr rfl) ⟨fun _ => trivial, fun _ => rfl⟩
/-- the same as a number -/
def syI (h : ms_H) (t : Int) (k : Int) : Int := if t - h 40 (h 47 (4 * k + 1)) - h 47 (4 * k + 2) ≤ h 39 (h 47 (4 * k)) then (if h 47 (4 * k + 3) = 1 then 1 else 0) else (if h 47 (4 * k + 3) = 1 then 0 else 1)
def soI (h : ms_H) (t : Int) : Nat → Int
  | 0 => 1
  | n + 1 => if soI h t n = 1 then syI h t n else 0
theorem soI_ok (h : ms_H) (t : Int) : ∀ n, (soI h t n = 0 ∨ soI h t n = 1) ∧ (soI h t n = 1 ↔ so h t n)
  | 0 => ⟨Or.inr rfl, fun _ => trivial, fun _ => rfl⟩
  | n + 1 => by
    obtain ⟨h1, h2⟩ := soI_ok h t n
    unfold soI so sy syI
    by_cases h3 : soI h t n = 1
    · have h4 := h2.mp h3
      rw [if_pos h3]
      by_cases h5 : t - h 40 (h 47 (4 * n + 1)) - h 47 (4 * n + 2) ≤ h 39 (h 47 (4 * n))
      · rw [if_pos h5]
        by_cases h6 : h 47 (4 * n + 3) = 1
        · rw [if_pos h6]; exact ⟨Or.inr rfl, fun _ => ⟨h4, fun _ => h6, fun _ => h5⟩, fun _ => rfl⟩
        · rw [if_neg h6]; exact ⟨Or.inl rfl, fun z => by omega, fun z => absurd (z.2.mp h5) h6⟩
      · rw [if_neg h5]
        by_cases h6 : h 47 (4 * n + 3) = 1
        · rw [if_pos h6]; exact ⟨Or.inl rfl, fun z => by omega, fun z => absurd (z.2.mpr h6) h5⟩
        · rw [if_neg h6]; exact ⟨Or.inr rfl, fun _ => ⟨h4, fun z => absurd z h5, fun z => absurd z h6⟩, fun _ => rfl⟩
    · rw [if_neg h3]
      exact ⟨Or.inl rfl, fun z => by omega, fun z => absurd (h2.mpr z.1) h3⟩
def mSo (h : ms_H) (t : Int) : Int := soI h t (h 38 14).toNat
theorem mSo_01 (h : ms_H) (t : Int) : mSo h t = 0 ∨ mSo h t = 1 := (soI_ok h t _).1
theorem m_isSo2 {d : Nat} {t : Int} {h : ms_H} {Q : ms_Q} (hv : MV h) (hh : HV h) (ht : 0 ≤ t ∧ t ≤ 39) (q : Q (some (mI (mSo h t))) SH h) : ms_Ok ms_P (d + 3) 152 [mR 38, mI t] SH (h) Q := by
  refine m_isSo hv hh ht (fun r h1 h2 => ?_)
  obtain ⟨h3, h4⟩ := soI_ok h t (h 38 14).toNat
  have e : r = mSo h t := by
    unfold mSo
    by_cases z : so h t (h 38 14).toNat
    · rw [h2.mpr z, h4.mpr z]
    · have : ¬ r = 1 := fun w => z (h2.mp w)
      have : ¬ soI h t (h 38 14).toNat = 1 := fun w => z (h4.mp w)
      omega
  rw [e]
  exact q
/-- how many of the warmths 40 - j .. 39 are so; the least of them -/
def wcn (g : Int → Int) : Nat → Int
  | 0 => 0
  | j + 1 => wcn g j + (if g (39 - j) = 1 then 1 else 0)
def wls (g : Int → Int) : Nat → Int
  | 0 => -9
  | j + 1 => if g (39 - j) = 1 then 39 - j else wls g j
theorem wcn_b (g : Int → Int) : ∀ j : Nat, 0 ≤ wcn g j ∧ wcn g j ≤ j
  | 0 => by simp [wcn]
  | j + 1 => by
    have := wcn_b g j
    unfold wcn
    split <;> omega
theorem m_warmth_lp {d : Nat} {w : Int} {h : ms_H} {Q : ms_Q} (hv : MV h) (hh : HV h) (q : Q (some (mI (if w = 0 then wcn (mSo h) 40 else wls (mSo h) 40))) SH h) : ∀ (j i : Nat) (u : ms_V), i + j = 40 → ms_at (ms_Ok ms_P (d + 3)) ms_X1 MX5_warmth Q 100 [mR 38, mI w, mI (wcn (mSo h) i), mI (wls (mSo h) i), mI (39 - i), u] [] (SH, 0, 0) (h) := by
  intro j
  induction j with
  | zero =>
    intro i u hi
    have : i = 40 := by omega
    subst this
    refine sq_at (ms_Ok_m ms_P _) 30 100 ?_
    simp only [sq_c, jp_s, jp_c, rc_0, rc_s, ms_ex, o_iload, o_aload, o_istore, o_astore, o_iinc, o_bin, o_div, o_rem, o_neg, o_and, o_shl, o_shr, o_dup, o_pop, o_dup2, o_if, o_icmp, o_switch, o_sw, o_get, o_put, o_iald, o_iast, o_zald, o_zast, o_aald, o_aast, o_len, ob_s, ob_n, o_call, o_max, o_min, o_copy, o_obj, o_lpush, o_ladd, o_lcmp, o_iret, o_lret, o_vret, i1_c, l1_c, r1_c, st_g0, st_g1, st_g2, st_g3, st_g4, st_g5, st_g6, st_g7, st_g8, st_g9, st_s0, st_s1, st_s2, st_s3, st_s4, st_s5, st_s6, st_s7, st_s8, st_s9, List.length_cons, List.length_nil, List.take_succ_cons, List.take_zero, List.drop_succ_cons, List.drop_zero, List.reverse_cons, List.reverse_nil, List.nil_append, List.cons_append, List.all_cons, List.all_nil, ms_nl, Bool.and_true, Nat.reduceLeDiff, Nat.reduceAdd, Nat.reduceLT, Nat.reduceEqDiff, if_true, if_false, true_and, and_true, ms_rt, List.cons.injEq, exists_eq_left, exists_eq_right, exists_and_left, exists_and_right, ms_one, ite_true, ite_false, reduceIte, imp_self, Nat.zero_add, Nat.add_zero, zero_le_any, Nat.le_refl, Int.zero_add, true_or, or_true, false_implies, Int.reduceLE, Int.reduceLT, Int.reduceNeg, Int.reduceAdd, Int.reduceSub, Int.reduceMul, Int.reduceEq, not_true, not_false_iff, and_self, implies_true, false_and, and_false, or_false, false_or, bX5_warmth_0, bX5_warmth_1, bX5_warmth_2, bX5_warmth_3, bX5_warmth_4, bX5_warmth_5, bX5_warmth_6, bX5_warmth_7, bX5_warmth_8, bX5_warmth_100, lX5_warmth_0, lX5_warmth_1, lX5_warmth_2, lX5_warmth_3, lX5_warmth_4, lX5_warmth_5, lX5_warmth_6, lX5_warmth_7, lX5_warmth_8, lX5_warmth_100, qX5_warmth, sh_b]
    refine ⟨fun h1 => ⟨fun h2 => ?_, fun h2 => ?_⟩, fun h1 => by omega⟩
    · rw [if_neg h2] at q; exact q
    · rw [if_pos h2] at q; exact q
  | succ j ih =>
    intro i u hi
    have ih' := ih (i + 1) (mI (mSo h (39 - i))) (by omega)
    have hb := wcn_b (mSo h) i
    have h01 := mSo_01 h (39 - i)
    refine sq_at (ms_Ok_m ms_P _) 30 100 ?_
    simp only [sq_c, jp_s, jp_c, rc_0, rc_s, ms_ex, o_iload, o_aload, o_istore, o_astore, o_iinc, o_bin, o_div, o_rem, o_neg, o_and, o_shl, o_shr, o_dup, o_pop, o_dup2, o_if, o_icmp, o_switch, o_sw, o_get, o_put, o_iald, o_iast, o_zald, o_zast, o_aald, o_aast, o_len, ob_s, ob_n, o_call, o_max, o_min, o_copy, o_obj, o_lpush, o_ladd, o_lcmp, o_iret, o_lret, o_vret, i1_c, l1_c, r1_c, st_g0, st_g1, st_g2, st_g3, st_g4, st_g5, st_g6, st_g7, st_g8, st_g9, st_s0, st_s1, st_s2, st_s3, st_s4, st_s5, st_s6, st_s7, st_s8, st_s9, List.length_cons, List.length_nil, List.take_succ_cons, List.take_zero, List.drop_succ_cons, List.drop_zero, List.reverse_cons, List.reverse_nil, List.nil_append, List.cons_append, List.all_cons, List.all_nil, ms_nl, Bool.and_true, Nat.reduceLeDiff, Nat.reduceAdd, Nat.reduceLT, Nat.reduceEqDiff, if_true, if_false, true_and, and_true, ms_rt, List.cons.injEq, exists_eq_left, exists_eq_right, exists_and_left, exists_and_right, ms_one, ite_true, ite_false, reduceIte, imp_self, Nat.zero_add, Nat.add_zero, zero_le_any, Nat.le_refl, Int.zero_add, true_or, or_true, false_implies, Int.reduceLE, Int.reduceLT, Int.reduceNeg, Int.reduceAdd, Int.reduceSub, Int.reduceMul, Int.reduceEq, not_true, not_false_iff, and_self, implies_true, false_and, and_false, or_false, false_or, bX5_warmth_0, bX5_warmth_1, bX5_warmth_2, bX5_warmth_3, bX5_warmth_4, bX5_warmth_5, bX5_warmth_6, bX5_warmth_7, bX5_warmth_8, bX5_warmth_100, lX5_warmth_0, lX5_warmth_1, lX5_warmth_2, lX5_warmth_3, lX5_warmth_4, lX5_warmth_5, lX5_warmth_6, lX5_warmth_7, lX5_warmth_8, lX5_warmth_100, qX5_warmth, sh_b]
    refine ⟨fun h1 => by omega, fun h1 => ?_⟩
    refine m_isSo2 hv hh (by omega) ?_
    simp only [sq_c, jp_s, jp_c, rc_0, rc_s, ms_ex, o_iload, o_aload, o_istore, o_astore, o_iinc, o_bin, o_div, o_rem, o_neg, o_and, o_shl, o_shr, o_dup, o_pop, o_dup2, o_if, o_icmp, o_switch, o_sw, o_get, o_put, o_iald, o_iast, o_zald, o_zast, o_aald, o_aast, o_len, ob_s, ob_n, o_call, o_max, o_min, o_copy, o_obj, o_lpush, o_ladd, o_lcmp, o_iret, o_lret, o_vret, i1_c, l1_c, r1_c, st_g0, st_g1, st_g2, st_g3, st_g4, st_g5, st_g6, st_g7, st_g8, st_g9, st_s0, st_s1, st_s2, st_s3, st_s4, st_s5, st_s6, st_s7, st_s8, st_s9, List.length_cons, List.length_nil, List.take_succ_cons, List.take_zero, List.drop_succ_cons, List.drop_zero, List.reverse_cons, List.reverse_nil, List.nil_append, List.cons_append, List.all_cons, List.all_nil, ms_nl, Bool.and_true, Nat.reduceLeDiff, Nat.reduceAdd, Nat.reduceLT, Nat.reduceEqDiff, if_true, if_false, true_and, and_true, ms_rt, List.cons.injEq, exists_eq_left, exists_eq_right, exists_and_left, exists_and_right, ms_one, ite_true, ite_false, reduceIte, imp_self, Nat.zero_add, Nat.add_zero, zero_le_any, Nat.le_refl, Int.zero_add, true_or, or_true, false_implies, Int.reduceLE, Int.reduceLT, Int.reduceNeg, Int.reduceAdd, Int.reduceSub, Int.reduceMul, Int.reduceEq, not_true, not_false_iff, and_self, implies_true, false_and, and_false, or_false, false_or, bX5_warmth_0, bX5_warmth_1, bX5_warmth_2, bX5_warmth_3, bX5_warmth_4, bX5_warmth_5, bX5_warmth_6, bX5_warmth_7, bX5_warmth_8, bX5_warmth_100, lX5_warmth_0, lX5_warmth_1, lX5_warmth_2, lX5_warmth_3, lX5_warmth_4, lX5_warmth_5, lX5_warmth_6, lX5_warmth_7, lX5_warmth_8, lX5_warmth_100, qX5_warmth, sh_b]
    unfold wcn wls at ih'
    rw [show (39 : Int) - ((i + 1 : Nat) : Int) = 39 - i + -1 by omega] at ih'
    rcases h01 with e | e
    · rw [if_neg (by omega), if_neg (by omega)] at ih'
      repeat' first | refine And.intro ?_ ?_ | refine fun (_ : (_ : Int) ≤ _) => ?_ | refine fun (_ : (_ : Int) < _) => ?_ | refine fun (_ : ¬ (_ : Int) = _) => ?_ | refine fun (_ : (_ : Int) = _) => ?_
      all_goals first | omega | exact rg_of (by omega) (by omega) | skip
      all_goals exact ih'
    · rw [if_pos (by omega), if_pos (by omega)] at ih'
      repeat' first | refine And.intro ?_ ?_ | refine fun (_ : (_ : Int) ≤ _) => ?_ | refine fun (_ : (_ : Int) < _) => ?_ | refine fun (_ : ¬ (_ : Int) = _) => ?_ | refine fun (_ : (_ : Int) = _) => ?_
      all_goals first | omega | exact rg_of (by omega) (by omega) | skip
      all_goals exact ih'
theorem m_warmth {d : Nat} {w : Int} {h : ms_H} {Q : ms_Q} (hv : MV h) (hh : HV h) (q1 : ¬ (0 ≤ w ∧ w ≤ 1) → Q (some (mI (-1))) SH h) (q2 : (0 ≤ w ∧ w ≤ 1) → Q (some (mI (if w = 0 then wcn (mSo h) 40 else wls (mSo h) 40))) SH h) : ms_Ok ms_P (d + 4) 153 [mR 38, mI w] SH (h) Q := by
  refine ok_in (k := 30) MX5_warmth rfl rfl ?_
  show sq (ms_Ok ms_P (d + 3)) ms_X1 MX5_warmth Q 30 (M_bl MX5_warmth 0) [mR 38, mI w, mL 0, mL 0, mL 0, mL 0] [] (SH, 0, 0) (h)
  simp only [sq_c, jp_s, jp_c, rc_0, rc_s, ms_ex, o_iload, o_aload, o_istore, o_astore, o_iinc, o_bin, o_div, o_rem, o_neg, o_and, o_shl, o_shr, o_dup, o_pop, o_dup2, o_if, o_icmp, o_switch, o_sw, o_get, o_put, o_iald, o_iast, o_zald, o_zast, o_aald, o_aast, o_len, ob_s, ob_n, o_call, o_max, o_min, o_copy, o_obj, o_lpush, o_ladd, o_lcmp, o_iret, o_lret, o_vret, i1_c, l1_c, r1_c, st_g0, st_g1, st_g2, st_g3, st_g4, st_g5, st_g6, st_g7, st_g8, st_g9, st_s0, st_s1, st_s2, st_s3, st_s4, st_s5, st_s6, st_s7, st_s8, st_s9, List.length_cons, List.length_nil, List.take_succ_cons, List.take_zero, List.drop_succ_cons, List.drop_zero, List.reverse_cons, List.reverse_nil, List.nil_append, List.cons_append, List.all_cons, List.all_nil, ms_nl, Bool.and_true, Nat.reduceLeDiff, Nat.reduceAdd, Nat.reduceLT, Nat.reduceEqDiff, if_true, if_false, true_and, and_true, ms_rt, List.cons.injEq, exists_eq_left, exists_eq_right, exists_and_left, exists_and_right, ms_one, ite_true, ite_false, reduceIte, imp_self, Nat.zero_add, Nat.add_zero, zero_le_any, Nat.le_refl, Int.zero_add, true_or, or_true, false_implies, Int.reduceLE, Int.reduceLT, Int.reduceNeg, Int.reduceAdd, Int.reduceSub, Int.reduceMul, Int.reduceEq, not_true, not_false_iff, and_self, implies_true, false_and, and_false, or_false, false_or, bX5_warmth_0, bX5_warmth_1, bX5_warmth_2, bX5_warmth_3, bX5_warmth_4, bX5_warmth_5, bX5_warmth_6, bX5_warmth_7, bX5_warmth_8, bX5_warmth_100, lX5_warmth_0, lX5_warmth_1, lX5_warmth_2, lX5_warmth_3, lX5_warmth_4, lX5_warmth_5, lX5_warmth_6, lX5_warmth_7, lX5_warmth_8, lX5_warmth_100, qX5_warmth, sh_b]
  refine m_in (fun r hr => ?_)
  simp only [sq_c, jp_s, jp_c, rc_0, rc_s, ms_ex, o_iload, o_aload, o_istore, o_astore, o_iinc, o_bin, o_div, o_rem, o_neg, o_and, o_shl, o_shr, o_dup, o_pop, o_dup2, o_if, o_icmp, o_switch, o_sw, o_get, o_put, o_iald, o_iast, o_zald, o_zast, o_aald, o_aast, o_len, ob_s, ob_n, o_call, o_max, o_min, o_copy, o_obj, o_lpush, o_ladd, o_lcmp, o_iret, o_lret, o_vret, i1_c, l1_c, r1_c, st_g0, st_g1, st_g2, st_g3, st_g4, st_g5, st_g6, st_g7, st_g8, st_g9, st_s0, st_s1, st_s2, st_s3, st_s4, st_s5, st_s6, st_s7, st_s8, st_s9, List.length_cons, List.length_nil, List.take_succ_cons, List.take_zero, List.drop_succ_cons, List.drop_zero, List.reverse_cons, List.reverse_nil, List.nil_append, List.cons_append, List.all_cons, List.all_nil, ms_nl, Bool.and_true, Nat.reduceLeDiff, Nat.reduceAdd, Nat.reduceLT, Nat.reduceEqDiff, if_true, if_false, true_and, and_true, ms_rt, List.cons.injEq, exists_eq_left, exists_eq_right, exists_and_left, exists_and_right, ms_one, ite_true, ite_false, reduceIte, imp_self, Nat.zero_add, Nat.add_zero, zero_le_any, Nat.le_refl, Int.zero_add, true_or, or_true, false_implies, Int.reduceLE, Int.reduceLT, Int.reduceNeg, Int.reduceAdd, Int.reduceSub, Int.reduceMul, Int.reduceEq, not_true, not_false_iff, and_self, implies_true, false_and, and_false, or_false, false_or, bX5_warmth_0, bX5_warmth_1, bX5_warmth_2, bX5_warmth_3, bX5_warmth_4, bX5_warmth_5, bX5_warmth_6, bX5_warmth_7, bX5_warmth_8, bX5_warmth_100, lX5_warmth_0, lX5_warmth_1, lX5_warmth_2, lX5_warmth_3, lX5_warmth_4, lX5_warmth_5, lX5_warmth_6, lX5_warmth_7, lX5_warmth_8, lX5_warmth_100, qX5_warmth, sh_b]
  refine ⟨fun h1 => ?_, fun h1 => q1 (bf hr h1)⟩
  exact m_warmth_lp hv hh (q2 (bt hr h1)) 40 0 _ (by omega)
/-- where to put out a hand next: the questions gone through -/
def askf (g : Int → Int) (base : Int) : Nat → Int × Int → Int × Int
  | 0, s => s
  | k + 1, s => if g k < (askf g base k s).2 then (base + k, g k) else askf g base k s
def askc (g : Int → Int → Int) (base : Int) : Nat → Int × Int → Int × Int
  | 0, s => s
  | k + 1, s => askf (g k) (base + 10 * k) 8 (askc g base k s)
def askw (g : Int → Int → Int → Int) (n : Nat) : Nat → Int × Int → Int × Int
  | 0, s => s
  | k + 1, s => askc (g k) (100 * k) n (askw g n k s)
/-- of how many warmths that are so the walker says snow -/
def mN (h : ms_H) (w c f : Int) : Nat → Int := sm (fun t => if mSo h t = 1 ∧ t - h 40 c - f ≤ h 39 w then 1 else 0)
def mMore (h : ms_H) (w c f : Int) : Int := if wcn (mSo h) 40 - mN h w c f 40 < mN h w c f 40 then mN h w c f 40 else wcn (mSo h) 40 - mN h w c f 40
def mAsk (h : ms_H) : Int := (askw (mMore h) (h 38 0).toNat 2 (-9, wcn (mSo h) 40)).1
theorem mN_b (h : ms_H) (w c f : Int) (n : Nat) : 0 ≤ mN h w c f n ∧ mN h w c f n ≤ n := by
  have := sm_b (g := fun t => if mSo h t = 1 ∧ t - h 40 c - f ≤ h 39 w then 1 else 0) (lo := 0) (hi := 1) n (fun i h0 h1 => by split <;> omega)
  unfold mN
  omega
set_option maxRecDepth 50000 in
theorem m_ask_t {d : Nat} {h : ms_H} {Q : ms_Q} {w c f b l : Int} (hv : MV h) (hh : HV h) (hw : 0 ≤ w ∧ w ≤ 1) (hc : 0 ≤ c ∧ c < h 38 0) (hf : 0 ≤ f ∧ f ≤ 7) (K : ∀ u v, ms_at (ms_Ok ms_P (d + 4)) ms_X1 MX5_ask Q 102 [mR 38, mI (wcn (mSo h) 40), mI (if mMore h w c f < l then 100 * w + 10 * c + f else b), mI (if mMore h w c f < l then mMore h w c f else l), mI w, mI c, mI (f + 1), u, v] [] (SH, 0, 0) (h)) : ∀ (j k : Nat), k + j = 40 → ms_at (ms_Ok ms_P (d + 4)) ms_X1 MX5_ask Q 103 [mR 38, mI (wcn (mSo h) 40), mI b, mI l, mI w, mI c, mI f, mI (mN h w c f k), mI k] [] (SH, 0, 0) (h) := by
  have hb := hv.2.1.1
  have ha := wcn_b (mSo h) 40
  intro j
  induction j with
  | zero =>
    intro k hk
    have : k = 40 := by omega
    subst this
    have hnb := mN_b h w c f 40
    refine sq_at (ms_Ok_m ms_P _) 30 103 ?_
    simp only [sq_c, jp_s, jp_c, rc_0, rc_s, ms_ex, o_iload, o_aload, o_istore, o_astore, o_iinc, o_bin, o_div, o_rem, o_neg, o_and, o_shl, o_shr, o_dup, o_pop, o_dup2, o_if, o_icmp, o_switch, o_sw, o_get, o_put, o_iald, o_iast, o_zald, o_zast, o_aald, o_aast, o_len, ob_s, ob_n, o_call, o_max, o_min, o_copy, o_obj, o_lpush, o_ladd, o_lcmp, o_iret, o_lret, o_vret, i1_c, l1_c, r1_c, st_g0, st_g1, st_g2, st_g3, st_g4, st_g5, st_g6, st_g7, st_g8, st_g9, st_s0, st_s1, st_s2, st_s3, st_s4, st_s5, st_s6, st_s7, st_s8, st_s9, List.length_cons, List.length_nil, List.take_succ_cons, List.take_zero, List.drop_succ_cons, List.drop_zero, List.reverse_cons, List.reverse_nil, List.nil_append, List.cons_append, List.all_cons, List.all_nil, ms_nl, Bool.and_true, Nat.reduceLeDiff, Nat.reduceAdd, Nat.reduceLT, Nat.reduceEqDiff, if_true, if_false, true_and, and_true, ms_rt, List.cons.injEq, exists_eq_left, exists_eq_right, exists_and_left, exists_and_right, ms_one, ite_true, ite_false, reduceIte, imp_self, Nat.zero_add, Nat.add_zero, zero_le_any, Nat.le_refl, Int.zero_add, true_or, or_true, false_implies, Int.reduceLE, Int.reduceLT, Int.reduceNeg, Int.reduceAdd, Int.reduceSub, Int.reduceMul, Int.reduceEq, not_true, not_false_iff, and_self, implies_true, false_and, and_false, or_false, false_or, bX5_ask_0, bX5_ask_1, bX5_ask_2, bX5_ask_3, bX5_ask_4, bX5_ask_5, bX5_ask_6, bX5_ask_7, bX5_ask_8, bX5_ask_9, bX5_ask_10, bX5_ask_11, bX5_ask_12, bX5_ask_100, bX5_ask_101, bX5_ask_102, bX5_ask_103, lX5_ask_0, lX5_ask_1, lX5_ask_2, lX5_ask_3, lX5_ask_4, lX5_ask_5, lX5_ask_6, lX5_ask_7, lX5_ask_8, lX5_ask_9, lX5_ask_10, lX5_ask_11, lX5_ask_12, lX5_ask_100, lX5_ask_101, lX5_ask_102, lX5_ask_103, qX5_ask, sh_b]
    have em : mMore h w c f = if wcn (mSo h) 40 - mN h w c f 40 < mN h w c f 40 then mN h w c f 40 else wcn (mSo h) 40 - mN h w c f 40 := rfl
    by_cases h1 : wcn (mSo h) 40 - mN h w c f 40 < mN h w c f 40
    · rw [if_pos h1] at em
      by_cases h2 : mMore h w c f < l
      · rw [if_pos h2, if_pos h2, em] at K
        repeat' first | refine And.intro ?_ ?_ | refine fun (_ : (_ : Int) ≤ _) => ?_ | refine fun (_ : (_ : Int) < _) => ?_ | refine fun (_ : ¬ (_ : Int) = _) => ?_ | refine fun (_ : (_ : Int) = _) => ?_
        all_goals first | omega | exact rg_of (by omega) (by omega) | skip
        all_goals exact K _ _
      · rw [if_neg h2, if_neg h2] at K
        repeat' first | refine And.intro ?_ ?_ | refine fun (_ : (_ : Int) ≤ _) => ?_ | refine fun (_ : (_ : Int) < _) => ?_ | refine fun (_ : ¬ (_ : Int) = _) => ?_ | refine fun (_ : (_ : Int) = _) => ?_
        all_goals first | omega | exact rg_of (by omega) (by omega) | skip
        all_goals exact K _ _
    · rw [if_neg h1] at em
      by_cases h2 : mMore h w c f < l
      · rw [if_pos h2, if_pos h2, em] at K
        repeat' first | refine And.intro ?_ ?_ | refine fun (_ : (_ : Int) ≤ _) => ?_ | refine fun (_ : (_ : Int) < _) => ?_ | refine fun (_ : ¬ (_ : Int) = _) => ?_ | refine fun (_ : (_ : Int) = _) => ?_
        all_goals first | omega | exact rg_of (by omega) (by omega) | skip
        all_goals exact K _ _
      · rw [if_neg h2, if_neg h2] at K
        repeat' first | refine And.intro ?_ ?_ | refine fun (_ : (_ : Int) ≤ _) => ?_ | refine fun (_ : (_ : Int) < _) => ?_ | refine fun (_ : ¬ (_ : Int) = _) => ?_ | refine fun (_ : (_ : Int) = _) => ?_
        all_goals first | omega | exact rg_of (by omega) (by omega) | skip
        all_goals exact K _ _
  | succ j ih =>
    intro k hk
    have ih' := ih (k + 1) (by omega)
    have hnb := mN_b h w c f k
    have en : mN h w c f (k + 1) = mN h w c f k + (if mSo h k = 1 ∧ (k : Int) - h 40 c - f ≤ h 39 w then 1 else 0) := rfl
    refine sq_at (ms_Ok_m ms_P _) 30 103 ?_
    simp only [sq_c, jp_s, jp_c, rc_0, rc_s, ms_ex, o_iload, o_aload, o_istore, o_astore, o_iinc, o_bin, o_div, o_rem, o_neg, o_and, o_shl, o_shr, o_dup, o_pop, o_dup2, o_if, o_icmp, o_switch, o_sw, o_get, o_put, o_iald, o_iast, o_zald, o_zast, o_aald, o_aast, o_len, ob_s, ob_n, o_call, o_max, o_min, o_copy, o_obj, o_lpush, o_ladd, o_lcmp, o_iret, o_lret, o_vret, i1_c, l1_c, r1_c, st_g0, st_g1, st_g2, st_g3, st_g4, st_g5, st_g6, st_g7, st_g8, st_g9, st_s0, st_s1, st_s2, st_s3, st_s4, st_s5, st_s6, st_s7, st_s8, st_s9, List.length_cons, List.length_nil, List.take_succ_cons, List.take_zero, List.drop_succ_cons, List.drop_zero, List.reverse_cons, List.reverse_nil, List.nil_append, List.cons_append, List.all_cons, List.all_nil, ms_nl, Bool.and_true, Nat.reduceLeDiff, Nat.reduceAdd, Nat.reduceLT, Nat.reduceEqDiff, if_true, if_false, true_and, and_true, ms_rt, List.cons.injEq, exists_eq_left, exists_eq_right, exists_and_left, exists_and_right, ms_one, ite_true, ite_false, reduceIte, imp_self, Nat.zero_add, Nat.add_zero, zero_le_any, Nat.le_refl, Int.zero_add, true_or, or_true, false_implies, Int.reduceLE, Int.reduceLT, Int.reduceNeg, Int.reduceAdd, Int.reduceSub, Int.reduceMul, Int.reduceEq, not_true, not_false_iff, and_self, implies_true, false_and, and_false, or_false, false_or, bX5_ask_0, bX5_ask_1, bX5_ask_2, bX5_ask_3, bX5_ask_4, bX5_ask_5, bX5_ask_6, bX5_ask_7, bX5_ask_8, bX5_ask_9, bX5_ask_10, bX5_ask_11, bX5_ask_12, bX5_ask_100, bX5_ask_101, bX5_ask_102, bX5_ask_103, lX5_ask_0, lX5_ask_1, lX5_ask_2, lX5_ask_3, lX5_ask_4, lX5_ask_5, lX5_ask_6, lX5_ask_7, lX5_ask_8, lX5_ask_9, lX5_ask_10, lX5_ask_11, lX5_ask_12, lX5_ask_100, lX5_ask_101, lX5_ask_102, lX5_ask_103, qX5_ask, sh_b]
    refine ⟨fun h1 => by omega, fun h1 => ?_⟩
    refine m_isSo2 hv hh (by omega) ?_
    simp only [sq_c, jp_s, jp_c, rc_0, rc_s, ms_ex, o_iload, o_aload, o_istore, o_astore, o_iinc, o_bin, o_div, o_rem, o_neg, o_and, o_shl, o_shr, o_dup, o_pop, o_dup2, o_if, o_icmp, o_switch, o_sw, o_get, o_put, o_iald, o_iast, o_zald, o_zast, o_aald, o_aast, o_len, ob_s, ob_n, o_call, o_max, o_min, o_copy, o_obj, o_lpush, o_ladd, o_lcmp, o_iret, o_lret, o_vret, i1_c, l1_c, r1_c, st_g0, st_g1, st_g2, st_g3, st_g4, st_g5, st_g6, st_g7, st_g8, st_g9, st_s0, st_s1, st_s2, st_s3, st_s4, st_s5, st_s6, st_s7, st_s8, st_s9, List.length_cons, List.length_nil, List.take_succ_cons, List.take_zero, List.drop_succ_cons, List.drop_zero, List.reverse_cons, List.reverse_nil, List.nil_append, List.cons_append, List.all_cons, List.all_nil, ms_nl, Bool.and_true, Nat.reduceLeDiff, Nat.reduceAdd, Nat.reduceLT, Nat.reduceEqDiff, if_true, if_false, true_and, and_true, ms_rt, List.cons.injEq, exists_eq_left, exists_eq_right, exists_and_left, exists_and_right, ms_one, ite_true, ite_false, reduceIte, imp_self, Nat.zero_add, Nat.add_zero, zero_le_any, Nat.le_refl, Int.zero_add, true_or, or_true, false_implies, Int.reduceLE, Int.reduceLT, Int.reduceNeg, Int.reduceAdd, Int.reduceSub, Int.reduceMul, Int.reduceEq, not_true, not_false_iff, and_self, implies_true, false_and, and_false, or_false, false_or, bX5_ask_0, bX5_ask_1, bX5_ask_2, bX5_ask_3, bX5_ask_4, bX5_ask_5, bX5_ask_6, bX5_ask_7, bX5_ask_8, bX5_ask_9, bX5_ask_10, bX5_ask_11, bX5_ask_12, bX5_ask_100, bX5_ask_101, bX5_ask_102, bX5_ask_103, lX5_ask_0, lX5_ask_1, lX5_ask_2, lX5_ask_3, lX5_ask_4, lX5_ask_5, lX5_ask_6, lX5_ask_7, lX5_ask_8, lX5_ask_9, lX5_ask_10, lX5_ask_11, lX5_ask_12, lX5_ask_100, lX5_ask_101, lX5_ask_102, lX5_ask_103, qX5_ask, sh_b]
    have h01 := mSo_01 h k
    refine ⟨fun h2 => ?_, fun h2 => ?_⟩
    · rw [en, if_neg (by omega)] at ih'
      exact ⟨rg_of (by omega) (by omega), rg_of (by omega) (by omega), ih'⟩
    · refine m_says hv (by omega) hw hc hf (fun r hr => ?_)
      simp only [sq_c, jp_s, jp_c, rc_0, rc_s, ms_ex, o_iload, o_aload, o_istore, o_astore, o_iinc, o_bin, o_div, o_rem, o_neg, o_and, o_shl, o_shr, o_dup, o_pop, o_dup2, o_if, o_icmp, o_switch, o_sw, o_get, o_put, o_iald, o_iast, o_zald, o_zast, o_aald, o_aast, o_len, ob_s, ob_n, o_call, o_max, o_min, o_copy, o_obj, o_lpush, o_ladd, o_lcmp, o_iret, o_lret, o_vret, i1_c, l1_c, r1_c, st_g0, st_g1, st_g2, st_g3, st_g4, st_g5, st_g6, st_g7, st_g8, st_g9, st_s0, st_s1, st_s2, st_s3, st_s4, st_s5, st_s6, st_s7, st_s8, st_s9, List.length_cons, List.length_nil, List.take_succ_cons, List.take_zero, List.drop_succ_cons, List.drop_zero, List.reverse_cons, List.reverse_nil, List.nil_append, List.cons_append, List.all_cons, List.all_nil, ms_nl, Bool.and_true, Nat.reduceLeDiff, Nat.reduceAdd, Nat.reduceLT, Nat.reduceEqDiff, if_true, if_false, true_and, and_true, ms_rt, List.cons.injEq, exists_eq_left, exists_eq_right, exists_and_left, exists_and_right, ms_one, ite_true, ite_false, reduceIte, imp_self, Nat.zero_add, Nat.add_zero, zero_le_any, Nat.le_refl, Int.zero_add, true_or, or_true, false_implies, Int.reduceLE, Int.reduceLT, Int.reduceNeg, Int.reduceAdd, Int.reduceSub, Int.reduceMul, Int.reduceEq, not_true, not_false_iff, and_self, implies_true, false_and, and_false, or_false, false_or, bX5_ask_0, bX5_ask_1, bX5_ask_2, bX5_ask_3, bX5_ask_4, bX5_ask_5, bX5_ask_6, bX5_ask_7, bX5_ask_8, bX5_ask_9, bX5_ask_10, bX5_ask_11, bX5_ask_12, bX5_ask_100, bX5_ask_101, bX5_ask_102, bX5_ask_103, lX5_ask_0, lX5_ask_1, lX5_ask_2, lX5_ask_3, lX5_ask_4, lX5_ask_5, lX5_ask_6, lX5_ask_7, lX5_ask_8, lX5_ask_9, lX5_ask_10, lX5_ask_11, lX5_ask_12, lX5_ask_100, lX5_ask_101, lX5_ask_102, lX5_ask_103, qX5_ask, sh_b]
      refine ⟨fun h3 => ?_, fun h3 => ?_⟩
      · have h4 := bf hr h3
        rw [en, if_neg (fun z => h4 z.2)] at ih'
        exact ⟨rg_of (by omega) (by omega), rg_of (by omega) (by omega), ih'⟩
      · have h4 := bt hr h3
        rw [en, if_pos ⟨by omega, h4⟩] at ih'
        exact ⟨rg_of (by omega) (by omega), rg_of (by omega) (by omega), ih'⟩
set_option maxRecDepth 50000 in
theorem m_ask_f {d : Nat} {h : ms_H} {Q : ms_Q} {w c : Int} {s : Int × Int} (hv : MV h) (hh : HV h) (hw : 0 ≤ w ∧ w ≤ 1) (hc : 0 ≤ c ∧ c < h 38 0) (K : ∀ x u v, ms_at (ms_Ok ms_P (d + 4)) ms_X1 MX5_ask Q 101 [mR 38, mI (wcn (mSo h) 40), mI (askf (mMore h w c) (100 * w + 10 * c) 8 s).1, mI (askf (mMore h w c) (100 * w + 10 * c) 8 s).2, mI w, mI (c + 1), x, u, v] [] (SH, 0, 0) (h)) : ∀ (j k : Nat) (u v : ms_V), k + j = 8 → ms_at (ms_Ok ms_P (d + 4)) ms_X1 MX5_ask Q 102 [mR 38, mI (wcn (mSo h) 40), mI (askf (mMore h w c) (100 * w + 10 * c) k s).1, mI (askf (mMore h w c) (100 * w + 10 * c) k s).2, mI w, mI c, mI k, u, v] [] (SH, 0, 0) (h) := by
  have hb := hv.2.1.1
  intro j
  induction j with
  | zero =>
    intro k u v hk
    have : k = 8 := by omega
    subst this
    refine sq_at (ms_Ok_m ms_P _) 30 102 ?_
    simp only [sq_c, jp_s, jp_c, rc_0, rc_s, ms_ex, o_iload, o_aload, o_istore, o_astore, o_iinc, o_bin, o_div, o_rem, o_neg, o_and, o_shl, o_shr, o_dup, o_pop, o_dup2, o_if, o_icmp, o_switch, o_sw, o_get, o_put, o_iald, o_iast, o_zald, o_zast, o_aald, o_aast, o_len, ob_s, ob_n, o_call, o_max, o_min, o_copy, o_obj, o_lpush, o_ladd, o_lcmp, o_iret, o_lret, o_vret, i1_c, l1_c, r1_c, st_g0, st_g1, st_g2, st_g3, st_g4, st_g5, st_g6, st_g7, st_g8, st_g9, st_s0, st_s1, st_s2, st_s3, st_s4, st_s5, st_s6, st_s7, st_s8, st_s9, List.length_cons, List.length_nil, List.take_succ_cons, List.take_zero, List.drop_succ_cons, List.drop_zero, List.reverse_cons, List.reverse_nil, List.nil_append, List.cons_append, List.all_cons, List.all_nil, ms_nl, Bool.and_true, Nat.reduceLeDiff, Nat.reduceAdd, Nat.reduceLT, Nat.reduceEqDiff, if_true, if_false, true_and, and_true, ms_rt, List.cons.injEq, exists_eq_left, exists_eq_right, exists_and_left, exists_and_right, ms_one, ite_true, ite_false, reduceIte, imp_self, Nat.zero_add, Nat.add_zero, zero_le_any, Nat.le_refl, Int.zero_add, true_or, or_true, false_implies, Int.reduceLE, Int.reduceLT, Int.reduceNeg, Int.reduceAdd, Int.reduceSub, Int.reduceMul, Int.reduceEq, not_true, not_false_iff, and_self, implies_true, false_and, and_false, or_false, false_or, bX5_ask_0, bX5_ask_1, bX5_ask_2, bX5_ask_3, bX5_ask_4, bX5_ask_5, bX5_ask_6, bX5_ask_7, bX5_ask_8, bX5_ask_9, bX5_ask_10, bX5_ask_11, bX5_ask_12, bX5_ask_100, bX5_ask_101, bX5_ask_102, bX5_ask_103, lX5_ask_0, lX5_ask_1, lX5_ask_2, lX5_ask_3, lX5_ask_4, lX5_ask_5, lX5_ask_6, lX5_ask_7, lX5_ask_8, lX5_ask_9, lX5_ask_10, lX5_ask_11, lX5_ask_12, lX5_ask_100, lX5_ask_101, lX5_ask_102, lX5_ask_103, qX5_ask, sh_b]
    exact ⟨fun _ => ⟨rg_of (by omega) (by omega), K _ _ _⟩, fun h1 => by omega⟩
  | succ j ih =>
    intro k u v hk
    refine sq_at (ms_Ok_m ms_P _) 30 102 ?_
    simp only [sq_c, jp_s, jp_c, rc_0, rc_s, ms_ex, o_iload, o_aload, o_istore, o_astore, o_iinc, o_bin, o_div, o_rem, o_neg, o_and, o_shl, o_shr, o_dup, o_pop, o_dup2, o_if, o_icmp, o_switch, o_sw, o_get, o_put, o_iald, o_iast, o_zald, o_zast, o_aald, o_aast, o_len, ob_s, ob_n, o_call, o_max, o_min, o_copy, o_obj, o_lpush, o_ladd, o_lcmp, o_iret, o_lret, o_vret, i1_c, l1_c, r1_c, st_g0, st_g1, st_g2, st_g3, st_g4, st_g5, st_g6, st_g7, st_g8, st_g9, st_s0, st_s1, st_s2, st_s3, st_s4, st_s5, st_s6, st_s7, st_s8, st_s9, List.length_cons, List.length_nil, List.take_succ_cons, List.take_zero, List.drop_succ_cons, List.drop_zero, List.reverse_cons, List.reverse_nil, List.nil_append, List.cons_append, List.all_cons, List.all_nil, ms_nl, Bool.and_true, Nat.reduceLeDiff, Nat.reduceAdd, Nat.reduceLT, Nat.reduceEqDiff, if_true, if_false, true_and, and_true, ms_rt, List.cons.injEq, exists_eq_left, exists_eq_right, exists_and_left, exists_and_right, ms_one, ite_true, ite_false, reduceIte, imp_self, Nat.zero_add, Nat.add_zero, zero_le_any, Nat.le_refl, Int.zero_add, true_or, or_true, false_implies, Int.reduceLE, Int.reduceLT, Int.reduceNeg, Int.reduceAdd, Int.reduceSub, Int.reduceMul, Int.reduceEq, not_true, not_false_iff, and_self, implies_true, false_and, and_false, or_false, false_or, bX5_ask_0, bX5_ask_1, bX5_ask_2, bX5_ask_3, bX5_ask_4, bX5_ask_5, bX5_ask_6, bX5_ask_7, bX5_ask_8, bX5_ask_9, bX5_ask_10, bX5_ask_11, bX5_ask_12, bX5_ask_100, bX5_ask_101, bX5_ask_102, bX5_ask_103, lX5_ask_0, lX5_ask_1, lX5_ask_2, lX5_ask_3, lX5_ask_4, lX5_ask_5, lX5_ask_6, lX5_ask_7, lX5_ask_8, lX5_ask_9, lX5_ask_10, lX5_ask_11, lX5_ask_12, lX5_ask_100, lX5_ask_101, lX5_ask_102, lX5_ask_103, qX5_ask, sh_b]
    refine ⟨fun h1 => by omega, fun h1 => ?_⟩
    refine m_ask_t hv hh hw hc (by omega) (fun u v => ?_) 40 0 (by omega)
    have ih' := ih (k + 1) u v (by omega)
    have e : askf (mMore h w c) (100 * w + 10 * c) (k + 1) s = if mMore h w c k < (askf (mMore h w c) (100 * w + 10 * c) k s).2 then (100 * w + 10 * c + k, mMore h w c k) else askf (mMore h w c) (100 * w + 10 * c) k s := rfl
    rw [e] at ih'
    by_cases h2 : mMore h w c k < (askf (mMore h w c) (100 * w + 10 * c) k s).2
    · rw [if_pos h2] at ih'
      rw [if_pos h2, if_pos h2]
      exact ih'
    · rw [if_neg h2] at ih'
      rw [if_neg h2, if_neg h2]
      exact ih'
set_option maxRecDepth 50000 in
theorem m_ask_c {d : Nat} {h : ms_H} {Q : ms_Q} {w : Int} {s : Int × Int} (hv : MV h) (hh : HV h) (hw : 0 ≤ w ∧ w ≤ 1) (K : ∀ y x u v, ms_at (ms_Ok ms_P (d + 4)) ms_X1 MX5_ask Q 100 [mR 38, mI (wcn (mSo h) 40), mI (askc (mMore h w) (100 * w) (h 38 0).toNat s).1, mI (askc (mMore h w) (100 * w) (h 38 0).toNat s).2, mI (w + 1), y, x, u, v] [] (SH, 0, 0) (h)) : ∀ (j k : Nat) (x u v : ms_V), k + j = (h 38 0).toNat → ms_at (ms_Ok ms_P (d + 4)) ms_X1 MX5_ask Q 101 [mR 38, mI (wcn (mSo h) 40), mI (askc (mMore h w) (100 * w) k s).1, mI (askc (mMore h w) (100 * w) k s).2, mI w, mI k, x, u, v] [] (SH, 0, 0) (h) := by
  have hb := hv.2.1.1
  intro j
  induction j with
  | zero =>
    intro k x u v hk
    have : k = (h 38 0).toNat := by omega
    subst this
    refine sq_at (ms_Ok_m ms_P _) 30 101 ?_
    simp only [sq_c, jp_s, jp_c, rc_0, rc_s, ms_ex, o_iload, o_aload, o_istore, o_astore, o_iinc, o_bin, o_div, o_rem, o_neg, o_and, o_shl, o_shr, o_dup, o_pop, o_dup2, o_if, o_icmp, o_switch, o_sw, o_get, o_put, o_iald, o_iast, o_zald, o_zast, o_aald, o_aast, o_len, ob_s, ob_n, o_call, o_max, o_min, o_copy, o_obj, o_lpush, o_ladd, o_lcmp, o_iret, o_lret, o_vret, i1_c, l1_c, r1_c, st_g0, st_g1, st_g2, st_g3, st_g4, st_g5, st_g6, st_g7, st_g8, st_g9, st_s0, st_s1, st_s2, st_s3, st_s4, st_s5, st_s6, st_s7, st_s8, st_s9, List.length_cons, List.length_nil, List.take_succ_cons, List.take_zero, List.drop_succ_cons, List.drop_zero, List.reverse_cons, List.reverse_nil, List.nil_append, List.cons_append, List.all_cons, List.all_nil, ms_nl, Bool.and_true, Nat.reduceLeDiff, Nat.reduceAdd, Nat.reduceLT, Nat.reduceEqDiff, if_true, if_false, true_and, and_true, ms_rt, List.cons.injEq, exists_eq_left, exists_eq_right, exists_and_left, exists_and_right, ms_one, ite_true, ite_false, reduceIte, imp_self, Nat.zero_add, Nat.add_zero, zero_le_any, Nat.le_refl, Int.zero_add, true_or, or_true, false_implies, Int.reduceLE, Int.reduceLT, Int.reduceNeg, Int.reduceAdd, Int.reduceSub, Int.reduceMul, Int.reduceEq, not_true, not_false_iff, and_self, implies_true, false_and, and_false, or_false, false_or, bX5_ask_0, bX5_ask_1, bX5_ask_2, bX5_ask_3, bX5_ask_4, bX5_ask_5, bX5_ask_6, bX5_ask_7, bX5_ask_8, bX5_ask_9, bX5_ask_10, bX5_ask_11, bX5_ask_12, bX5_ask_100, bX5_ask_101, bX5_ask_102, bX5_ask_103, lX5_ask_0, lX5_ask_1, lX5_ask_2, lX5_ask_3, lX5_ask_4, lX5_ask_5, lX5_ask_6, lX5_ask_7, lX5_ask_8, lX5_ask_9, lX5_ask_10, lX5_ask_11, lX5_ask_12, lX5_ask_100, lX5_ask_101, lX5_ask_102, lX5_ask_103, qX5_ask, sh_b]
    exact ⟨fun _ => ⟨rg_of (by omega) (by omega), K _ _ _ _⟩, fun h1 => by omega⟩
  | succ j ih =>
    intro k x u v hk
    refine sq_at (ms_Ok_m ms_P _) 30 101 ?_
    simp only [sq_c, jp_s, jp_c, rc_0, rc_s, ms_ex, o_iload, o_aload, o_istore, o_astore, o_iinc, o_bin, o_div, o_rem, o_neg, o_and, o_shl, o_shr, o_dup, o_pop, o_dup2, o_if, o_icmp, o_switch, o_sw, o_get, o_put, o_iald, o_iast, o_zald, o_zast, o_aald, o_aast, o_len, ob_s, ob_n, o_call, o_max, o_min, o_copy, o_obj, o_lpush, o_ladd, o_lcmp, o_iret, o_lret, o_vret, i1_c, l1_c, r1_c, st_g0, st_g1, st_g2, st_g3, st_g4, st_g5, st_g6, st_g7, st_g8, st_g9, st_s0, st_s1, st_s2, st_s3, st_s4, st_s5, st_s6, st_s7, st_s8, st_s9, List.length_cons, List.length_nil, List.take_succ_cons, List.take_zero, List.drop_succ_cons, List.drop_zero, List.reverse_cons, List.reverse_nil, List.nil_append, List.cons_append, List.all_cons, List.all_nil, ms_nl, Bool.and_true, Nat.reduceLeDiff, Nat.reduceAdd, Nat.reduceLT, Nat.reduceEqDiff, if_true, if_false, true_and, and_true, ms_rt, List.cons.injEq, exists_eq_left, exists_eq_right, exists_and_left, exists_and_right, ms_one, ite_true, ite_false, reduceIte, imp_self, Nat.zero_add, Nat.add_zero, zero_le_any, Nat.le_refl, Int.zero_add, true_or, or_true, false_implies, Int.reduceLE, Int.reduceLT, Int.reduceNeg, Int.reduceAdd, Int.reduceSub, Int.reduceMul, Int.reduceEq, not_true, not_false_iff, and_self, implies_true, false_and, and_false, or_false, false_or, bX5_ask_0, bX5_ask_1, bX5_ask_2, bX5_ask_3, bX5_ask_4, bX5_ask_5, bX5_ask_6, bX5_ask_7, bX5_ask_8, bX5_ask_9, bX5_ask_10, bX5_ask_11, bX5_ask_12, bX5_ask_100, bX5_ask_101, bX5_ask_102, bX5_ask_103, lX5_ask_0, lX5_ask_1, lX5_ask_2, lX5_ask_3, lX5_ask_4, lX5_ask_5, lX5_ask_6, lX5_ask_7, lX5_ask_8, lX5_ask_9, lX5_ask_10, lX5_ask_11, lX5_ask_12, lX5_ask_100, lX5_ask_101, lX5_ask_102, lX5_ask_103, qX5_ask, sh_b]
    refine ⟨fun h1 => by omega, fun h1 => ?_⟩
    exact m_ask_f (s := askc (mMore h w) (100 * w) k s) hv hh hw (by omega) (fun x u v => ih (k + 1) x u v (by omega)) 8 0 _ _ (by omega)
set_option maxRecDepth 50000 in
theorem m_ask_w {d : Nat} {h : ms_H} {Q : ms_Q} {s : Int × Int} (hv : MV h) (hh : HV h) (q : Q (some (mI (askw (mMore h) (h 38 0).toNat 2 s).1)) SH h) : ∀ (j k : Nat) (y x u v : ms_V), k + j = 2 → ms_at (ms_Ok ms_P (d + 4)) ms_X1 MX5_ask Q 100 [mR 38, mI (wcn (mSo h) 40), mI (askw (mMore h) (h 38 0).toNat k s).1, mI (askw (mMore h) (h 38 0).toNat k s).2, mI k, y, x, u, v] [] (SH, 0, 0) (h) := by
  have hb := hv.2.1.1
  intro j
  induction j with
  | zero =>
    intro k y x u v hk
    have : k = 2 := by omega
    subst this
    refine sq_at (ms_Ok_m ms_P _) 30 100 ?_
    simp only [sq_c, jp_s, jp_c, rc_0, rc_s, ms_ex, o_iload, o_aload, o_istore, o_astore, o_iinc, o_bin, o_div, o_rem, o_neg, o_and, o_shl, o_shr, o_dup, o_pop, o_dup2, o_if, o_icmp, o_switch, o_sw, o_get, o_put, o_iald, o_iast, o_zald, o_zast, o_aald, o_aast, o_len, ob_s, ob_n, o_call, o_max, o_min, o_copy, o_obj, o_lpush, o_ladd, o_lcmp, o_iret, o_lret, o_vret, i1_c, l1_c, r1_c, st_g0, st_g1, st_g2, st_g3, st_g4, st_g5, st_g6, st_g7, st_g8, st_g9, st_s0, st_s1, st_s2, st_s3, st_s4, st_s5, st_s6, st_s7, st_s8, st_s9, List.length_cons, List.length_nil, List.take_succ_cons, List.take_zero, List.drop_succ_cons, List.drop_zero, List.reverse_cons, List.reverse_nil, List.nil_append, List.cons_append, List.all_cons, List.all_nil, ms_nl, Bool.and_true, Nat.reduceLeDiff, Nat.reduceAdd, Nat.reduceLT, Nat.reduceEqDiff, if_true, if_false, true_and, and_true, ms_rt, List.cons.injEq, exists_eq_left, exists_eq_right, exists_and_left, exists_and_right, ms_one, ite_true, ite_false, reduceIte, imp_self, Nat.zero_add, Nat.add_zero, zero_le_any, Nat.le_refl, Int.zero_add, true_or, or_true, false_implies, Int.reduceLE, Int.reduceLT, Int.reduceNeg, Int.reduceAdd, Int.reduceSub, Int.reduceMul, Int.reduceEq, not_true, not_false_iff, and_self, implies_true, false_and, and_false, or_false, false_or, bX5_ask_0, bX5_ask_1, bX5_ask_2, bX5_ask_3, bX5_ask_4, bX5_ask_5, bX5_ask_6, bX5_ask_7, bX5_ask_8, bX5_ask_9, bX5_ask_10, bX5_ask_11, bX5_ask_12, bX5_ask_100, bX5_ask_101, bX5_ask_102, bX5_ask_103, lX5_ask_0, lX5_ask_1, lX5_ask_2, lX5_ask_3, lX5_ask_4, lX5_ask_5, lX5_ask_6, lX5_ask_7, lX5_ask_8, lX5_ask_9, lX5_ask_10, lX5_ask_11, lX5_ask_12, lX5_ask_100, lX5_ask_101, lX5_ask_102, lX5_ask_103, qX5_ask, sh_b]
    exact ⟨fun _ => q, fun h1 => by omega⟩
  | succ j ih =>
    intro k y x u v hk
    refine sq_at (ms_Ok_m ms_P _) 30 100 ?_
    simp only [sq_c, jp_s, jp_c, rc_0, rc_s, ms_ex, o_iload, o_aload, o_istore, o_astore, o_iinc, o_bin, o_div, o_rem, o_neg, o_and, o_shl, o_shr, o_dup, o_pop, o_dup2, o_if, o_icmp, o_switch, o_sw, o_get, o_put, o_iald, o_iast, o_zald, o_zast, o_aald, o_aast, o_len, ob_s, ob_n, o_call, o_max, o_min, o_copy, o_obj, o_lpush, o_ladd, o_lcmp, o_iret, o_lret, o_vret, i1_c, l1_c, r1_c, st_g0, st_g1, st_g2, st_g3, st_g4, st_g5, st_g6, st_g7, st_g8, st_g9, st_s0, st_s1, st_s2, st_s3, st_s4, st_s5, st_s6, st_s7, st_s8, st_s9, List.length_cons, List.length_nil, List.take_succ_cons, List.take_zero, List.drop_succ_cons, List.drop_zero, List.reverse_cons, List.reverse_nil, List.nil_append, List.cons_append, List.all_cons, List.all_nil, ms_nl, Bool.and_true, Nat.reduceLeDiff, Nat.reduceAdd, Nat.reduceLT, Nat.reduceEqDiff, if_true, if_false, true_and, and_true, ms_rt, List.cons.injEq, exists_eq_left, exists_eq_right, exists_and_left, exists_and_right, ms_one, ite_true, ite_false, reduceIte, imp_self, Nat.zero_add, Nat.add_zero, zero_le_any, Nat.le_refl, Int.zero_add, true_or, or_true, false_implies, Int.reduceLE, Int.reduceLT, Int.reduceNeg, Int.reduceAdd, Int.reduceSub, Int.reduceMul, Int.reduceEq, not_true, not_false_iff, and_self, implies_true, false_and, and_false, or_false, false_or, bX5_ask_0, bX5_ask_1, bX5_ask_2, bX5_ask_3, bX5_ask_4, bX5_ask_5, bX5_ask_6, bX5_ask_7, bX5_ask_8, bX5_ask_9, bX5_ask_10, bX5_ask_11, bX5_ask_12, bX5_ask_100, bX5_ask_101, bX5_ask_102, bX5_ask_103, lX5_ask_0, lX5_ask_1, lX5_ask_2, lX5_ask_3, lX5_ask_4, lX5_ask_5, lX5_ask_6, lX5_ask_7, lX5_ask_8, lX5_ask_9, lX5_ask_10, lX5_ask_11, lX5_ask_12, lX5_ask_100, lX5_ask_101, lX5_ask_102, lX5_ask_103, qX5_ask, sh_b]
    refine ⟨fun h1 => by omega, fun h1 => ?_⟩
    exact m_ask_c (s := askw (mMore h) (h 38 0).toNat k s) hv hh (by omega) (fun y x u v => ih (k + 1) y x u v (by omega)) (h 38 0).toNat 0 _ _ _ (by omega)
set_option maxRecDepth 50000 in
theorem m_ask {d : Nat} {h : ms_H} {Q : ms_Q} (hv : MV h) (hh : HV h) (q : Q (some (mI (mAsk h))) SH h) : ms_Ok ms_P (d + 5) 154 [mR 38] SH (h) Q := by
  refine ok_in (k := 30) MX5_ask rfl rfl ?_
  show sq (ms_Ok ms_P (d + 4)) ms_X1 MX5_ask Q 30 (M_bl MX5_ask 0) [mR 38, mL 0, mL 0, mL 0, mL 0, mL 0, mL 0, mL 0, mL 0] [] (SH, 0, 0) (h)
  simp only [sq_c, jp_s, jp_c, rc_0, rc_s, ms_ex, o_iload, o_aload, o_istore, o_astore, o_iinc, o_bin, o_div, o_rem, o_neg, o_and, o_shl, o_shr, o_dup, o_pop, o_dup2, o_if, o_icmp, o_switch, o_sw, o_get, o_put, o_iald, o_iast, o_zald, o_zast, o_aald, o_aast, o_len, ob_s, ob_n, o_call, o_max, o_min, o_copy, o_obj, o_lpush, o_ladd, o_lcmp, o_iret, o_lret, o_vret, i1_c, l1_c, r1_c, st_g0, st_g1, st_g2, st_g3, st_g4, st_g5, st_g6, st_g7, st_g8, st_g9, st_s0, st_s1, st_s2, st_s3, st_s4, st_s5, st_s6, st_s7, st_s8, st_s9, List.length_cons, List.length_nil, List.take_succ_cons, List.take_zero, List.drop_succ_cons, List.drop_zero, List.reverse_cons, List.reverse_nil, List.nil_append, List.cons_append, List.all_cons, List.all_nil, ms_nl, Bool.and_true, Nat.reduceLeDiff, Nat.reduceAdd, Nat.reduceLT, Nat.reduceEqDiff, if_true, if_false, true_and, and_true, ms_rt, List.cons.injEq, exists_eq_left, exists_eq_right, exists_and_left, exists_and_right, ms_one, ite_true, ite_false, reduceIte, imp_self, Nat.zero_add, Nat.add_zero, zero_le_any, Nat.le_refl, Int.zero_add, true_or, or_true, false_implies, Int.reduceLE, Int.reduceLT, Int.reduceNeg, Int.reduceAdd, Int.reduceSub, Int.reduceMul, Int.reduceEq, not_true, not_false_iff, and_self, implies_true, false_and, and_false, or_false, false_or, bX5_ask_0, bX5_ask_1, bX5_ask_2, bX5_ask_3, bX5_ask_4, bX5_ask_5, bX5_ask_6, bX5_ask_7, bX5_ask_8, bX5_ask_9, bX5_ask_10, bX5_ask_11, bX5_ask_12, bX5_ask_100, bX5_ask_101, bX5_ask_102, bX5_ask_103, lX5_ask_0, lX5_ask_1, lX5_ask_2, lX5_ask_3, lX5_ask_4, lX5_ask_5, lX5_ask_6, lX5_ask_7, lX5_ask_8, lX5_ask_9, lX5_ask_10, lX5_ask_11, lX5_ask_12, lX5_ask_100, lX5_ask_101, lX5_ask_102, lX5_ask_103, qX5_ask, sh_b]
  refine m_warmth hv hh (fun z => absurd (by omega) z) (fun _ => ?_)
  rw [if_pos rfl]
  simp only [sq_c, jp_s, jp_c, rc_0, rc_s, ms_ex, o_iload, o_aload, o_istore, o_astore, o_iinc, o_bin, o_div, o_rem, o_neg, o_and, o_shl, o_shr, o_dup, o_pop, o_dup2, o_if, o_icmp, o_switch, o_sw, o_get, o_put, o_iald, o_iast, o_zald, o_zast, o_aald, o_aast, o_len, ob_s, ob_n, o_call, o_max, o_min, o_copy, o_obj, o_lpush, o_ladd, o_lcmp, o_iret, o_lret, o_vret, i1_c, l1_c, r1_c, st_g0, st_g1, st_g2, st_g3, st_g4, st_g5, st_g6, st_g7, st_g8, st_g9, st_s0, st_s1, st_s2, st_s3, st_s4, st_s5, st_s6, st_s7, st_s8, st_s9, List.length_cons, List.length_nil, List.take_succ_cons, List.take_zero, List.drop_succ_cons, List.drop_zero, List.reverse_cons, List.reverse_nil, List.nil_append, List.cons_append, List.all_cons, List.all_nil, ms_nl, Bool.and_true, Nat.reduceLeDiff, Nat.reduceAdd, Nat.reduceLT, Nat.reduceEqDiff, if_true, if_false, true_and, and_true, ms_rt, List.cons.injEq, exists_eq_left, exists_eq_right, exists_and_left, exists_and_right, ms_one, ite_true, ite_false, reduceIte, imp_self, Nat.zero_add, Nat.add_zero, zero_le_any, Nat.le_refl, Int.zero_add, true_or, or_true, false_implies, Int.reduceLE, Int.reduceLT, Int.reduceNeg, Int.reduceAdd, Int.reduceSub, Int.reduceMul, Int.reduceEq, not_true, not_false_iff, and_self, implies_true, false_and, and_false, or_false, false_or, bX5_ask_0, bX5_ask_1, bX5_ask_2, bX5_ask_3, bX5_ask_4, bX5_ask_5, bX5_ask_6, bX5_ask_7, bX5_ask_8, bX5_ask_9, bX5_ask_10, bX5_ask_11, bX5_ask_12, bX5_ask_100, bX5_ask_101, bX5_ask_102, bX5_ask_103, lX5_ask_0, lX5_ask_1, lX5_ask_2, lX5_ask_3, lX5_ask_4, lX5_ask_5, lX5_ask_6, lX5_ask_7, lX5_ask_8, lX5_ask_9, lX5_ask_10, lX5_ask_11, lX5_ask_12, lX5_ask_100, lX5_ask_101, lX5_ask_102, lX5_ask_103, qX5_ask, sh_b]
  exact m_ask_w (s := (-9, wcn (mSo h) 40)) hv hh q 2 0 _ _ _ _ (by omega)
