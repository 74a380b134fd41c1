/-! The class: sums, orders, odds. -/
theorem cl_mm (x : Int) : min (max x 0) 8 = cl x := by
  unfold cl
  repeat' split
  all_goals omega
theorem c_snowy_lp {d : Nat} {t u e : Int} {h : ms_H} {Q : ms_Q} (hv : CV t u h) (he : -100 ≤ e ∧ e ≤ 100) (q : Q (some (mI (sn (h (t + 1)) (h t 0).toNat (cW t h + e)))) SH h) : ∀ (j k : Nat) (x : ms_V), k + j = (h t 0).toNat → ms_at (ms_Ok ms_P (d + 2)) ms_X1 MX4_snowyFields Q 100 [mR 0, mI e, mI (sn (h (t + 1)) k (cW t h + e)), mI k, x] [] (SH, 0, 0) (h) := by
  have hR := hv.2.1
  have hb := hv.2.2.1.1
  have hT := CV_T hv
  unfold RC at hR
  intro j
  induction j with
  | zero =>
    intro k x hk
    refine sq_at (ms_Ok_m ms_P _) 30 100 ?_
    simp only [sq_c, jp_s, jp_c, rc_0, rc_s, ms_ex, o_iload, o_aload, o_istore, o_astore, o_iinc, o_bin, o_div, o_rem, o_neg, o_and, o_shl, o_shr, o_dup, o_pop, o_dup2, o_if, o_icmp, o_switch, o_sw, o_get, o_put, o_iald, o_iast, o_zald, o_zast, o_aald, o_aast, o_len, ob_s, ob_n, o_call, o_max, o_min, o_copy, o_obj, o_lpush, o_ladd, o_lcmp, o_iret, o_lret, o_vret, i1_c, l1_c, r1_c, st_g0, st_g1, st_g2, st_g3, st_g4, st_g5, st_g6, st_g7, st_g8, st_g9, st_s0, st_s1, st_s2, st_s3, st_s4, st_s5, st_s6, st_s7, st_s8, st_s9, List.length_cons, List.length_nil, List.take_succ_cons, List.take_zero, List.drop_succ_cons, List.drop_zero, List.reverse_cons, List.reverse_nil, List.nil_append, List.cons_append, List.all_cons, List.all_nil, ms_nl, Bool.and_true, Nat.reduceLeDiff, Nat.reduceAdd, Nat.reduceLT, Nat.reduceEqDiff, if_true, if_false, true_and, and_true, ms_rt, List.cons.injEq, exists_eq_left, exists_eq_right, exists_and_left, exists_and_right, ms_one, ite_true, ite_false, reduceIte, imp_self, Nat.zero_add, Nat.add_zero, zero_le_any, Nat.le_refl, Int.zero_add, true_or, or_true, false_implies, Int.reduceLE, Int.reduceLT, Int.reduceNeg, Int.reduceAdd, Int.reduceSub, Int.reduceMul, Int.reduceEq, not_true, not_false_iff, and_self, implies_true, false_and, and_false, or_false, false_or, bX4_snowyFields_0, bX4_snowyFields_1, bX4_snowyFields_100, lX4_snowyFields_0, lX4_snowyFields_1, lX4_snowyFields_100, qX4_snowyFields, sh_b, hR, tok hv.1, tok0 hv.1]
    refine ⟨fun _ => ?_, fun h1 => by omega⟩
    rw [show k = (h t 0).toNat by omega]
    exact q
  | succ j ih =>
    intro k x hk
    have hl := CV_low hv (c := k) (by omega) (by omega)
    have hsb := sm_b (g := fun c => 8 - cl (cW t h + e - h (t + 1) c)) (lo := 0) (hi := 8) k (fun i h0 h1 => by have := cl_b (cW t h + e - h (t + 1) i); omega)
    have hsb2 : sn (h (t + 1)) k (cW t h + e) = sm (fun c => 8 - cl (cW t h + e - h (t + 1) c)) k := rfl
    have hcb := cl_b (cW t h + e - h (t + 1) k)
    have ih' := ih (k + 1) (mI (cW t h + e - h (t + 1) k)) (by omega)
    refine sq_at (ms_Ok_m ms_P _) 30 100 ?_
    simp only [sq_c, jp_s, jp_c, rc_0, rc_s, ms_ex, o_iload, o_aload, o_istore, o_astore, o_iinc, o_bin, o_div, o_rem, o_neg, o_and, o_shl, o_shr, o_dup, o_pop, o_dup2, o_if, o_icmp, o_switch, o_sw, o_get, o_put, o_iald, o_iast, o_zald, o_zast, o_aald, o_aast, o_len, ob_s, ob_n, o_call, o_max, o_min, o_copy, o_obj, o_lpush, o_ladd, o_lcmp, o_iret, o_lret, o_vret, i1_c, l1_c, r1_c, st_g0, st_g1, st_g2, st_g3, st_g4, st_g5, st_g6, st_g7, st_g8, st_g9, st_s0, st_s1, st_s2, st_s3, st_s4, st_s5, st_s6, st_s7, st_s8, st_s9, List.length_cons, List.length_nil, List.take_succ_cons, List.take_zero, List.drop_succ_cons, List.drop_zero, List.reverse_cons, List.reverse_nil, List.nil_append, List.cons_append, List.all_cons, List.all_nil, ms_nl, Bool.and_true, Nat.reduceLeDiff, Nat.reduceAdd, Nat.reduceLT, Nat.reduceEqDiff, if_true, if_false, true_and, and_true, ms_rt, List.cons.injEq, exists_eq_left, exists_eq_right, exists_and_left, exists_and_right, ms_one, ite_true, ite_false, reduceIte, imp_self, Nat.zero_add, Nat.add_zero, zero_le_any, Nat.le_refl, Int.zero_add, true_or, or_true, false_implies, Int.reduceLE, Int.reduceLT, Int.reduceNeg, Int.reduceAdd, Int.reduceSub, Int.reduceMul, Int.reduceEq, not_true, not_false_iff, and_self, implies_true, false_and, and_false, or_false, false_or, bX4_snowyFields_0, bX4_snowyFields_1, bX4_snowyFields_100, lX4_snowyFields_0, lX4_snowyFields_1, lX4_snowyFields_100, qX4_snowyFields, sh_b, hR, tok hv.1, tok0 hv.1]
    refine ⟨fun h1 => by omega, fun h1 => ?_⟩
    refine c_warmToday hv ?_
    simp only [sq_c, jp_s, jp_c, rc_0, rc_s, ms_ex, o_iload, o_aload, o_istore, o_astore, o_iinc, o_bin, o_div, o_rem, o_neg, o_and, o_shl, o_shr, o_dup, o_pop, o_dup2, o_if, o_icmp, o_switch, o_sw, o_get, o_put, o_iald, o_iast, o_zald, o_zast, o_aald, o_aast, o_len, ob_s, ob_n, o_call, o_max, o_min, o_copy, o_obj, o_lpush, o_ladd, o_lcmp, o_iret, o_lret, o_vret, i1_c, l1_c, r1_c, st_g0, st_g1, st_g2, st_g3, st_g4, st_g5, st_g6, st_g7, st_g8, st_g9, st_s0, st_s1, st_s2, st_s3, st_s4, st_s5, st_s6, st_s7, st_s8, st_s9, List.length_cons, List.length_nil, List.take_succ_cons, List.take_zero, List.drop_succ_cons, List.drop_zero, List.reverse_cons, List.reverse_nil, List.nil_append, List.cons_append, List.all_cons, List.all_nil, ms_nl, Bool.and_true, Nat.reduceLeDiff, Nat.reduceAdd, Nat.reduceLT, Nat.reduceEqDiff, if_true, if_false, true_and, and_true, ms_rt, List.cons.injEq, exists_eq_left, exists_eq_right, exists_and_left, exists_and_right, ms_one, ite_true, ite_false, reduceIte, imp_self, Nat.zero_add, Nat.add_zero, zero_le_any, Nat.le_refl, Int.zero_add, true_or, or_true, false_implies, Int.reduceLE, Int.reduceLT, Int.reduceNeg, Int.reduceAdd, Int.reduceSub, Int.reduceMul, Int.reduceEq, not_true, not_false_iff, and_self, implies_true, false_and, and_false, or_false, false_or, bX4_snowyFields_0, bX4_snowyFields_1, bX4_snowyFields_100, lX4_snowyFields_0, lX4_snowyFields_1, lX4_snowyFields_100, qX4_snowyFields, sh_b, hR, tok hv.1, tok0 hv.1]
    rw [cl_mm]
    exact ⟨rg_of (by omega) (by omega), by omega, by omega, rg_of (by omega) (by omega), rg_of (by omega) (by omega), rg_of (by omega) (by omega), rg_of (by omega) (by omega), ih'⟩
theorem c_snowy {d : Nat} {t u e : Int} {h : ms_H} {Q : ms_Q} (hv : CV t u h) (he : -100 ≤ e ∧ e ≤ 100) (q : Q (some (mI (sn (h (t + 1)) (h t 0).toNat (cW t h + e)))) SH h) : ms_Ok ms_P (d + 3) 73 [mR 0, mI e] SH (h) Q := by
  refine ok_in (k := 30) MX4_snowyFields rfl rfl ?_
  show sq (ms_Ok ms_P (d + 2)) ms_X1 MX4_snowyFields Q 30 (M_bl MX4_snowyFields 0) [mR 0, mI e, mL 0, mL 0, mL 0] [] (SH, 0, 0) (h)
  have hb := hv.2.2.1.1
  simp only [sq_c, jp_s, jp_c, rc_0, rc_s, ms_ex, o_iload, o_aload, o_istore, o_astore, o_iinc, o_bin, o_div, o_rem, o_neg, o_and, o_shl, o_shr, o_dup, o_pop, o_dup2, o_if, o_icmp, o_switch, o_sw, o_get, o_put, o_iald, o_iast, o_zald, o_zast, o_aald, o_aast, o_len, ob_s, ob_n, o_call, o_max, o_min, o_copy, o_obj, o_lpush, o_ladd, o_lcmp, o_iret, o_lret, o_vret, i1_c, l1_c, r1_c, st_g0, st_g1, st_g2, st_g3, st_g4, st_g5, st_g6, st_g7, st_g8, st_g9, st_s0, st_s1, st_s2, st_s3, st_s4, st_s5, st_s6, st_s7, st_s8, st_s9, List.length_cons, List.length_nil, List.take_succ_cons, List.take_zero, List.drop_succ_cons, List.drop_zero, List.reverse_cons, List.reverse_nil, List.nil_append, List.cons_append, List.all_cons, List.all_nil, ms_nl, Bool.and_true, Nat.reduceLeDiff, Nat.reduceAdd, Nat.reduceLT, Nat.reduceEqDiff, if_true, if_false, true_and, and_true, ms_rt, List.cons.injEq, exists_eq_left, exists_eq_right, exists_and_left, exists_and_right, ms_one, ite_true, ite_false, reduceIte, imp_self, Nat.zero_add, Nat.add_zero, zero_le_any, Nat.le_refl, Int.zero_add, true_or, or_true, false_implies, Int.reduceLE, Int.reduceLT, Int.reduceNeg, Int.reduceAdd, Int.reduceSub, Int.reduceMul, Int.reduceEq, not_true, not_false_iff, and_self, implies_true, false_and, and_false, or_false, false_or, bX4_snowyFields_0, bX4_snowyFields_1, bX4_snowyFields_100, lX4_snowyFields_0, lX4_snowyFields_1, lX4_snowyFields_100, qX4_snowyFields, sh_b]
  exact c_snowy_lp hv he q (h t 0).toNat 0 _ (by omega)
theorem c_rainy_lp {d : Nat} {t u : Int} {h : ms_H} {Q : ms_Q} (hv : CV t u h) (q : Q (some (mI (sm (fun c => cl (cT t h - h (t + 1) c - h t 4)) (h t 0).toNat))) SH h) : ∀ (j k : Nat), k + j = (h t 0).toNat → ms_at (ms_Ok ms_P (d + 5)) ms_X1 MX4_rainyFields Q 100 [mR 0, mI (sm (fun c => cl (cT t h - h (t + 1) c - h t 4)) k), mI k] [] (SH, 0, 0) (h) := by
  have hR := hv.2.1
  have hb := hv.2.2.1.1
  unfold RC at hR
  intro j
  induction j with
  | zero =>
    intro k hk
    refine sq_at (ms_Ok_m ms_P _) 30 100 ?_
    simp only [sq_c, jp_s, jp_c, rc_0, rc_s, ms_ex, o_iload, o_aload, o_istore, o_astore, o_iinc, o_bin, o_div, o_rem, o_neg, o_and, o_shl, o_shr, o_dup, o_pop, o_dup2, o_if, o_icmp, o_switch, o_sw, o_get, o_put, o_iald, o_iast, o_zald, o_zast, o_aald, o_aast, o_len, ob_s, ob_n, o_call, o_max, o_min, o_copy, o_obj, o_lpush, o_ladd, o_lcmp, o_iret, o_lret, o_vret, i1_c, l1_c, r1_c, st_g0, st_g1, st_g2, st_g3, st_g4, st_g5, st_g6, st_g7, st_g8, st_g9, st_s0, st_s1, st_s2, st_s3, st_s4, st_s5, st_s6, st_s7, st_s8, st_s9, List.length_cons, List.length_nil, List.take_succ_cons, List.take_zero, List.drop_succ_cons, List.drop_zero, List.reverse_cons, List.reverse_nil, List.nil_append, List.cons_append, List.all_cons, List.all_nil, ms_nl, Bool.and_true, Nat.reduceLeDiff, Nat.reduceAdd, Nat.reduceLT, Nat.reduceEqDiff, if_true, if_false, true_and, and_true, ms_rt, List.cons.injEq, exists_eq_left, exists_eq_right, exists_and_left, exists_and_right, ms_one, ite_true, ite_false, reduceIte, imp_self, Nat.zero_add, Nat.add_zero, zero_le_any, Nat.le_refl, Int.zero_add, true_or, or_true, false_implies, Int.reduceLE, Int.reduceLT, Int.reduceNeg, Int.reduceAdd, Int.reduceSub, Int.reduceMul, Int.reduceEq, not_true, not_false_iff, and_self, implies_true, false_and, and_false, or_false, false_or, bX4_rainyFields_0, bX4_rainyFields_1, bX4_rainyFields_100, lX4_rainyFields_0, lX4_rainyFields_1, lX4_rainyFields_100, qX4_rainyFields, sh_b, hR, tok hv.1, tok0 hv.1]
    refine ⟨fun _ => ?_, fun h1 => by omega⟩
    rw [show k = (h t 0).toNat by omega]
    exact q
  | succ j ih =>
    intro k hk
    have hsb := sm_b (g := fun c => cl (cT t h - h (t + 1) c - h t 4)) (lo := 0) (hi := 8) k (fun i h0 h1 => cl_b _)
    have hcb := cl_b (cT t h - h (t + 1) k - h t 4)
    have ih' := ih (k + 1) (by omega)
    refine sq_at (ms_Ok_m ms_P _) 30 100 ?_
    simp only [sq_c, jp_s, jp_c, rc_0, rc_s, ms_ex, o_iload, o_aload, o_istore, o_astore, o_iinc, o_bin, o_div, o_rem, o_neg, o_and, o_shl, o_shr, o_dup, o_pop, o_dup2, o_if, o_icmp, o_switch, o_sw, o_get, o_put, o_iald, o_iast, o_zald, o_zast, o_aald, o_aast, o_len, ob_s, ob_n, o_call, o_max, o_min, o_copy, o_obj, o_lpush, o_ladd, o_lcmp, o_iret, o_lret, o_vret, i1_c, l1_c, r1_c, st_g0, st_g1, st_g2, st_g3, st_g4, st_g5, st_g6, st_g7, st_g8, st_g9, st_s0, st_s1, st_s2, st_s3, st_s4, st_s5, st_s6, st_s7, st_s8, st_s9, List.length_cons, List.length_nil, List.take_succ_cons, List.take_zero, List.drop_succ_cons, List.drop_zero, List.reverse_cons, List.reverse_nil, List.nil_append, List.cons_append, List.all_cons, List.all_nil, ms_nl, Bool.and_true, Nat.reduceLeDiff, Nat.reduceAdd, Nat.reduceLT, Nat.reduceEqDiff, if_true, if_false, true_and, and_true, ms_rt, List.cons.injEq, exists_eq_left, exists_eq_right, exists_and_left, exists_and_right, ms_one, ite_true, ite_false, reduceIte, imp_self, Nat.zero_add, Nat.add_zero, zero_le_any, Nat.le_refl, Int.zero_add, true_or, or_true, false_implies, Int.reduceLE, Int.reduceLT, Int.reduceNeg, Int.reduceAdd, Int.reduceSub, Int.reduceMul, Int.reduceEq, not_true, not_false_iff, and_self, implies_true, false_and, and_false, or_false, false_or, bX4_rainyFields_0, bX4_rainyFields_1, bX4_rainyFields_100, lX4_rainyFields_0, lX4_rainyFields_1, lX4_rainyFields_100, qX4_rainyFields, sh_b, hR, tok hv.1, tok0 hv.1]
    refine ⟨fun h1 => by omega, fun h1 => ?_⟩
    refine c_wet hv (by omega) ?_
    simp only [sq_c, jp_s, jp_c, rc_0, rc_s, ms_ex, o_iload, o_aload, o_istore, o_astore, o_iinc, o_bin, o_div, o_rem, o_neg, o_and, o_shl, o_shr, o_dup, o_pop, o_dup2, o_if, o_icmp, o_switch, o_sw, o_get, o_put, o_iald, o_iast, o_zald, o_zast, o_aald, o_aast, o_len, ob_s, ob_n, o_call, o_max, o_min, o_copy, o_obj, o_lpush, o_ladd, o_lcmp, o_iret, o_lret, o_vret, i1_c, l1_c, r1_c, st_g0, st_g1, st_g2, st_g3, st_g4, st_g5, st_g6, st_g7, st_g8, st_g9, st_s0, st_s1, st_s2, st_s3, st_s4, st_s5, st_s6, st_s7, st_s8, st_s9, List.length_cons, List.length_nil, List.take_succ_cons, List.take_zero, List.drop_succ_cons, List.drop_zero, List.reverse_cons, List.reverse_nil, List.nil_append, List.cons_append, List.all_cons, List.all_nil, ms_nl, Bool.and_true, Nat.reduceLeDiff, Nat.reduceAdd, Nat.reduceLT, Nat.reduceEqDiff, if_true, if_false, true_and, and_true, ms_rt, List.cons.injEq, exists_eq_left, exists_eq_right, exists_and_left, exists_and_right, ms_one, ite_true, ite_false, reduceIte, imp_self, Nat.zero_add, Nat.add_zero, zero_le_any, Nat.le_refl, Int.zero_add, true_or, or_true, false_implies, Int.reduceLE, Int.reduceLT, Int.reduceNeg, Int.reduceAdd, Int.reduceSub, Int.reduceMul, Int.reduceEq, not_true, not_false_iff, and_self, implies_true, false_and, and_false, or_false, false_or, bX4_rainyFields_0, bX4_rainyFields_1, bX4_rainyFields_100, lX4_rainyFields_0, lX4_rainyFields_1, lX4_rainyFields_100, qX4_rainyFields, sh_b, hR, tok hv.1, tok0 hv.1]
    exact ⟨rg_of (by omega) (by omega), rg_of (by omega) (by omega), ih'⟩
theorem c_rainy {d : Nat} {t u : Int} {h : ms_H} {Q : ms_Q} (hv : CV t u h) (q : Q (some (mI (sm (fun c => cl (cT t h - h (t + 1) c - h t 4)) (h t 0).toNat))) SH h) : ms_Ok ms_P (d + 6) 74 [mR 0] SH (h) Q := by
  refine ok_in (k := 30) MX4_rainyFields rfl rfl ?_
  show sq (ms_Ok ms_P (d + 5)) ms_X1 MX4_rainyFields Q 30 (M_bl MX4_rainyFields 0) [mR 0, mL 0, mL 0] [] (SH, 0, 0) (h)
  have hb := hv.2.2.1.1
  simp only [sq_c, jp_s, jp_c, rc_0, rc_s, ms_ex, o_iload, o_aload, o_istore, o_astore, o_iinc, o_bin, o_div, o_rem, o_neg, o_and, o_shl, o_shr, o_dup, o_pop, o_dup2, o_if, o_icmp, o_switch, o_sw, o_get, o_put, o_iald, o_iast, o_zald, o_zast, o_aald, o_aast, o_len, ob_s, ob_n, o_call, o_max, o_min, o_copy, o_obj, o_lpush, o_ladd, o_lcmp, o_iret, o_lret, o_vret, i1_c, l1_c, r1_c, st_g0, st_g1, st_g2, st_g3, st_g4, st_g5, st_g6, st_g7, st_g8, st_g9, st_s0, st_s1, st_s2, st_s3, st_s4, st_s5, st_s6, st_s7, st_s8, st_s9, List.length_cons, List.length_nil, List.take_succ_cons, List.take_zero, List.drop_succ_cons, List.drop_zero, List.reverse_cons, List.reverse_nil, List.nil_append, List.cons_append, List.all_cons, List.all_nil, ms_nl, Bool.and_true, Nat.reduceLeDiff, Nat.reduceAdd, Nat.reduceLT, Nat.reduceEqDiff, if_true, if_false, true_and, and_true, ms_rt, List.cons.injEq, exists_eq_left, exists_eq_right, exists_and_left, exists_and_right, ms_one, ite_true, ite_false, reduceIte, imp_self, Nat.zero_add, Nat.add_zero, zero_le_any, Nat.le_refl, Int.zero_add, true_or, or_true, false_implies, Int.reduceLE, Int.reduceLT, Int.reduceNeg, Int.reduceAdd, Int.reduceSub, Int.reduceMul, Int.reduceEq, not_true, not_false_iff, and_self, implies_true, false_and, and_false, or_false, false_or, bX4_rainyFields_0, bX4_rainyFields_1, bX4_rainyFields_100, lX4_rainyFields_0, lX4_rainyFields_1, lX4_rainyFields_100, qX4_rainyFields, sh_b]
  exact c_rainy_lp hv q (h t 0).toNat 0 (by omega)
def cWide (t : Int) (h : ms_H) : Int := mxm (fun c => cl (cT t h - h (t + 1) c) - cl (cT t h - h (t + 1) c - h t 4)) (h t 0).toNat
theorem c_widest_lp {d : Nat} {t u : Int} {h : ms_H} {Q : ms_Q} (hv : CV t u h) (q : Q (some (mI (cWide t h))) SH h) : ∀ (j k : Nat), k + j = (h t 0).toNat → ms_at (ms_Ok ms_P (d + 5)) ms_X1 MX4_widest Q 100 [mR 0, mI (mxm (fun c => cl (cT t h - h (t + 1) c) - cl (cT t h - h (t + 1) c - h t 4)) k), mI k] [] (SH, 0, 0) (h) := by
  have hR := hv.2.1
  have hb := hv.2.2.1.1
  unfold RC at hR
  intro j
  induction j with
  | zero =>
    intro k hk
    refine sq_at (ms_Ok_m ms_P _) 30 100 ?_
    simp only [sq_c, jp_s, jp_c, rc_0, rc_s, ms_ex, o_iload, o_aload, o_istore, o_astore, o_iinc, o_bin, o_div, o_rem, o_neg, o_and, o_shl, o_shr, o_dup, o_pop, o_dup2, o_if, o_icmp, o_switch, o_sw, o_get, o_put, o_iald, o_iast, o_zald, o_zast, o_aald, o_aast, o_len, ob_s, ob_n, o_call, o_max, o_min, o_copy, o_obj, o_lpush, o_ladd, o_lcmp, o_iret, o_lret, o_vret, i1_c, l1_c, r1_c, st_g0, st_g1, st_g2, st_g3, st_g4, st_g5, st_g6, st_g7, st_g8, st_g9, st_s0, st_s1, st_s2, st_s3, st_s4, st_s5, st_s6, st_s7, st_s8, st_s9, List.length_cons, List.length_nil, List.take_succ_cons, List.take_zero, List.drop_succ_cons, List.drop_zero, List.reverse_cons, List.reverse_nil, List.nil_append, List.cons_append, List.all_cons, List.all_nil, ms_nl, Bool.and_true, Nat.reduceLeDiff, Nat.reduceAdd, Nat.reduceLT, Nat.reduceEqDiff, if_true, if_false, true_and, and_true, ms_rt, List.cons.injEq, exists_eq_left, exists_eq_right, exists_and_left, exists_and_right, ms_one, ite_true, ite_false, reduceIte, imp_self, Nat.zero_add, Nat.add_zero, zero_le_any, Nat.le_refl, Int.zero_add, true_or, or_true, false_implies, Int.reduceLE, Int.reduceLT, Int.reduceNeg, Int.reduceAdd, Int.reduceSub, Int.reduceMul, Int.reduceEq, not_true, not_false_iff, and_self, implies_true, false_and, and_false, or_false, false_or, bX4_widest_0, bX4_widest_1, bX4_widest_100, lX4_widest_0, lX4_widest_1, lX4_widest_100, qX4_widest, sh_b, hR, tok hv.1, tok0 hv.1]
    refine ⟨fun _ => ?_, fun h1 => by omega⟩
    rw [show k = (h t 0).toNat by omega]
    exact q
  | succ j ih =>
    intro k hk
    have b1 := cl_b (cT t h - h (t + 1) k)
    have b2 := cl_b (cT t h - h (t + 1) k - h t 4)
    have ih' := ih (k + 1) (by omega)
    refine sq_at (ms_Ok_m ms_P _) 30 100 ?_
    simp only [sq_c, jp_s, jp_c, rc_0, rc_s, ms_ex, o_iload, o_aload, o_istore, o_astore, o_iinc, o_bin, o_div, o_rem, o_neg, o_and, o_shl, o_shr, o_dup, o_pop, o_dup2, o_if, o_icmp, o_switch, o_sw, o_get, o_put, o_iald, o_iast, o_zald, o_zast, o_aald, o_aast, o_len, ob_s, ob_n, o_call, o_max, o_min, o_copy, o_obj, o_lpush, o_ladd, o_lcmp, o_iret, o_lret, o_vret, i1_c, l1_c, r1_c, st_g0, st_g1, st_g2, st_g3, st_g4, st_g5, st_g6, st_g7, st_g8, st_g9, st_s0, st_s1, st_s2, st_s3, st_s4, st_s5, st_s6, st_s7, st_s8, st_s9, List.length_cons, List.length_nil, List.take_succ_cons, List.take_zero, List.drop_succ_cons, List.drop_zero, List.reverse_cons, List.reverse_nil, List.nil_append, List.cons_append, List.all_cons, List.all_nil, ms_nl, Bool.and_true, Nat.reduceLeDiff, Nat.reduceAdd, Nat.reduceLT, Nat.reduceEqDiff, if_true, if_false, true_and, and_true, ms_rt, List.cons.injEq, exists_eq_left, exists_eq_right, exists_and_left, exists_and_right, ms_one, ite_true, ite_false, reduceIte, imp_self, Nat.zero_add, Nat.add_zero, zero_le_any, Nat.le_refl, Int.zero_add, true_or, or_true, false_implies, Int.reduceLE, Int.reduceLT, Int.reduceNeg, Int.reduceAdd, Int.reduceSub, Int.reduceMul, Int.reduceEq, not_true, not_false_iff, and_self, implies_true, false_and, and_false, or_false, false_or, bX4_widest_0, bX4_widest_1, bX4_widest_100, lX4_widest_0, lX4_widest_1, lX4_widest_100, qX4_widest, sh_b, hR, tok hv.1, tok0 hv.1]
    refine ⟨fun h1 => by omega, fun h1 => ?_⟩
    refine c_edge hv (by omega) ?_
    simp only [sq_c, jp_s, jp_c, rc_0, rc_s, ms_ex, o_iload, o_aload, o_istore, o_astore, o_iinc, o_bin, o_div, o_rem, o_neg, o_and, o_shl, o_shr, o_dup, o_pop, o_dup2, o_if, o_icmp, o_switch, o_sw, o_get, o_put, o_iald, o_iast, o_zald, o_zast, o_aald, o_aast, o_len, ob_s, ob_n, o_call, o_max, o_min, o_copy, o_obj, o_lpush, o_ladd, o_lcmp, o_iret, o_lret, o_vret, i1_c, l1_c, r1_c, st_g0, st_g1, st_g2, st_g3, st_g4, st_g5, st_g6, st_g7, st_g8, st_g9, st_s0, st_s1, st_s2, st_s3, st_s4, st_s5, st_s6, st_s7, st_s8, st_s9, List.length_cons, List.length_nil, List.take_succ_cons, List.take_zero, List.drop_succ_cons, List.drop_zero, List.reverse_cons, List.reverse_nil, List.nil_append, List.cons_append, List.all_cons, List.all_nil, ms_nl, Bool.and_true, Nat.reduceLeDiff, Nat.reduceAdd, Nat.reduceLT, Nat.reduceEqDiff, if_true, if_false, true_and, and_true, ms_rt, List.cons.injEq, exists_eq_left, exists_eq_right, exists_and_left, exists_and_right, ms_one, ite_true, ite_false, reduceIte, imp_self, Nat.zero_add, Nat.add_zero, zero_le_any, Nat.le_refl, Int.zero_add, true_or, or_true, false_implies, Int.reduceLE, Int.reduceLT, Int.reduceNeg, Int.reduceAdd, Int.reduceSub, Int.reduceMul, Int.reduceEq, not_true, not_false_iff, and_self, implies_true, false_and, and_false, or_false, false_or, bX4_widest_0, bX4_widest_1, bX4_widest_100, lX4_widest_0, lX4_widest_1, lX4_widest_100, qX4_widest, sh_b, hR, tok hv.1, tok0 hv.1]
    refine c_wet hv (by omega) ?_
    simp only [sq_c, jp_s, jp_c, rc_0, rc_s, ms_ex, o_iload, o_aload, o_istore, o_astore, o_iinc, o_bin, o_div, o_rem, o_neg, o_and, o_shl, o_shr, o_dup, o_pop, o_dup2, o_if, o_icmp, o_switch, o_sw, o_get, o_put, o_iald, o_iast, o_zald, o_zast, o_aald, o_aast, o_len, ob_s, ob_n, o_call, o_max, o_min, o_copy, o_obj, o_lpush, o_ladd, o_lcmp, o_iret, o_lret, o_vret, i1_c, l1_c, r1_c, st_g0, st_g1, st_g2, st_g3, st_g4, st_g5, st_g6, st_g7, st_g8, st_g9, st_s0, st_s1, st_s2, st_s3, st_s4, st_s5, st_s6, st_s7, st_s8, st_s9, List.length_cons, List.length_nil, List.take_succ_cons, List.take_zero, List.drop_succ_cons, List.drop_zero, List.reverse_cons, List.reverse_nil, List.nil_append, List.cons_append, List.all_cons, List.all_nil, ms_nl, Bool.and_true, Nat.reduceLeDiff, Nat.reduceAdd, Nat.reduceLT, Nat.reduceEqDiff, if_true, if_false, true_and, and_true, ms_rt, List.cons.injEq, exists_eq_left, exists_eq_right, exists_and_left, exists_and_right, ms_one, ite_true, ite_false, reduceIte, imp_self, Nat.zero_add, Nat.add_zero, zero_le_any, Nat.le_refl, Int.zero_add, true_or, or_true, false_implies, Int.reduceLE, Int.reduceLT, Int.reduceNeg, Int.reduceAdd, Int.reduceSub, Int.reduceMul, Int.reduceEq, not_true, not_false_iff, and_self, implies_true, false_and, and_false, or_false, false_or, bX4_widest_0, bX4_widest_1, bX4_widest_100, lX4_widest_0, lX4_widest_1, lX4_widest_100, qX4_widest, sh_b, hR, tok hv.1, tok0 hv.1]
    refine ⟨rg_of (by omega) (by omega), rg_of (by omega) (by omega), ?_⟩
    unfold mxm at ih'
    have em : ∀ a b : Int, max a b = if a < b then b else a := fun a b => by split <;> omega
    rw [em]
    exact ih'
theorem c_widest {d : Nat} {t u : Int} {h : ms_H} {Q : ms_Q} (hv : CV t u h) (q : Q (some (mI (cWide t h))) SH h) : ms_Ok ms_P (d + 6) 75 [mR 0] SH (h) Q := by
  refine ok_in (k := 30) MX4_widest rfl rfl ?_
  show sq (ms_Ok ms_P (d + 5)) ms_X1 MX4_widest Q 30 (M_bl MX4_widest 0) [mR 0, mL 0, mL 0] [] (SH, 0, 0) (h)
  have hb := hv.2.2.1.1
  simp only [sq_c, jp_s, jp_c, rc_0, rc_s, ms_ex, o_iload, o_aload, o_istore, o_astore, o_iinc, o_bin, o_div, o_rem, o_neg, o_and, o_shl, o_shr, o_dup, o_pop, o_dup2, o_if, o_icmp, o_switch, o_sw, o_get, o_put, o_iald, o_iast, o_zald, o_zast, o_aald, o_aast, o_len, ob_s, ob_n, o_call, o_max, o_min, o_copy, o_obj, o_lpush, o_ladd, o_lcmp, o_iret, o_lret, o_vret, i1_c, l1_c, r1_c, st_g0, st_g1, st_g2, st_g3, st_g4, st_g5, st_g6, st_g7, st_g8, st_g9, st_s0, st_s1, st_s2, st_s3, st_s4, st_s5, st_s6, st_s7, st_s8, st_s9, List.length_cons, List.length_nil, List.take_succ_cons, List.take_zero, List.drop_succ_cons, List.drop_zero, List.reverse_cons, List.reverse_nil, List.nil_append, List.cons_append, List.all_cons, List.all_nil, ms_nl, Bool.and_true, Nat.reduceLeDiff, Nat.reduceAdd, Nat.reduceLT, Nat.reduceEqDiff, if_true, if_false, true_and, and_true, ms_rt, List.cons.injEq, exists_eq_left, exists_eq_right, exists_and_left, exists_and_right, ms_one, ite_true, ite_false, reduceIte, imp_self, Nat.zero_add, Nat.add_zero, zero_le_any, Nat.le_refl, Int.zero_add, true_or, or_true, false_implies, Int.reduceLE, Int.reduceLT, Int.reduceNeg, Int.reduceAdd, Int.reduceSub, Int.reduceMul, Int.reduceEq, not_true, not_false_iff, and_self, implies_true, false_and, and_false, or_false, false_or, bX4_widest_0, bX4_widest_1, bX4_widest_100, lX4_widest_0, lX4_widest_1, lX4_widest_100, qX4_widest, sh_b]
  exact c_widest_lp hv q (h t 0).toNat 0 (by omega)
theorem c_vote_lp {d : Nat} {t u : Int} {h : ms_H} {Q : ms_Q} (hv : CV t u h) (q : Q (some (mI (vt (h (t + 5)) (h (t + 6)) (h t 6).toNat))) SH h) : ∀ (j k : Nat), k + j = (h t 6).toNat → ms_at (ms_Ok ms_P (d)) ms_X1 MX4_vote Q 100 [mR 0, mI (vt (h (t + 5)) (h (t + 6)) k), mI k] [] (SH, 0, 0) (h) := by
  have hb := hv.2.2.1.2.1
  have hw := hv.2.2.2.2.2.1
  have hR := hv.2.1
  unfold RC at hR
  intro j
  induction j with
  | zero =>
    intro k hk
    refine sq_at (ms_Ok_m ms_P _) 30 100 ?_
    simp only [sq_c, jp_s, jp_c, rc_0, rc_s, ms_ex, o_iload, o_aload, o_istore, o_astore, o_iinc, o_bin, o_div, o_rem, o_neg, o_and, o_shl, o_shr, o_dup, o_pop, o_dup2, o_if, o_icmp, o_switch, o_sw, o_get, o_put, o_iald, o_iast, o_zald, o_zast, o_aald, o_aast, o_len, ob_s, ob_n, o_call, o_max, o_min, o_copy, o_obj, o_lpush, o_ladd, o_lcmp, o_iret, o_lret, o_vret, i1_c, l1_c, r1_c, st_g0, st_g1, st_g2, st_g3, st_g4, st_g5, st_g6, st_g7, st_g8, st_g9, st_s0, st_s1, st_s2, st_s3, st_s4, st_s5, st_s6, st_s7, st_s8, st_s9, List.length_cons, List.length_nil, List.take_succ_cons, List.take_zero, List.drop_succ_cons, List.drop_zero, List.reverse_cons, List.reverse_nil, List.nil_append, List.cons_append, List.all_cons, List.all_nil, ms_nl, Bool.and_true, Nat.reduceLeDiff, Nat.reduceAdd, Nat.reduceLT, Nat.reduceEqDiff, if_true, if_false, true_and, and_true, ms_rt, List.cons.injEq, exists_eq_left, exists_eq_right, exists_and_left, exists_and_right, ms_one, ite_true, ite_false, reduceIte, imp_self, Nat.zero_add, Nat.add_zero, zero_le_any, Nat.le_refl, Int.zero_add, true_or, or_true, false_implies, Int.reduceLE, Int.reduceLT, Int.reduceNeg, Int.reduceAdd, Int.reduceSub, Int.reduceMul, Int.reduceEq, not_true, not_false_iff, and_self, implies_true, false_and, and_false, or_false, false_or, bX4_vote_0, bX4_vote_1, bX4_vote_2, bX4_vote_3, bX4_vote_100, lX4_vote_0, lX4_vote_1, lX4_vote_2, lX4_vote_3, lX4_vote_100, qX4_vote, sh_b, hR, tok hv.1, tok0 hv.1]
    refine ⟨fun _ => ?_, fun h1 => by omega⟩
    rw [show k = (h t 6).toNat by omega]
    exact q
  | succ j ih =>
    intro k hk
    have ih' := ih (k + 1) (by omega)
    have hwk := hw k (by omega) (by omega)
    have hsb := sm_b (g := fun v => if h (t + 6) v = 1 then h (t + 5) v else -h (t + 5) v) (lo := -9) (hi := 9) k (fun i h0 h1 => by
      have := hw i h0 (by omega)
      split <;> omega)
    have e0 : vt (h (t + 5)) (h (t + 6)) k = sm (fun v => if h (t + 6) v = 1 then h (t + 5) v else -h (t + 5) v) k := rfl
    have e : vt (h (t + 5)) (h (t + 6)) (k + 1) = vt (h (t + 5)) (h (t + 6)) k + (if h (t + 6) k = 1 then h (t + 5) k else -h (t + 5) k) := rfl
    refine sq_at (ms_Ok_m ms_P _) 30 100 ?_
    simp only [sq_c, jp_s, jp_c, rc_0, rc_s, ms_ex, o_iload, o_aload, o_istore, o_astore, o_iinc, o_bin, o_div, o_rem, o_neg, o_and, o_shl, o_shr, o_dup, o_pop, o_dup2, o_if, o_icmp, o_switch, o_sw, o_get, o_put, o_iald, o_iast, o_zald, o_zast, o_aald, o_aast, o_len, ob_s, ob_n, o_call, o_max, o_min, o_copy, o_obj, o_lpush, o_ladd, o_lcmp, o_iret, o_lret, o_vret, i1_c, l1_c, r1_c, st_g0, st_g1, st_g2, st_g3, st_g4, st_g5, st_g6, st_g7, st_g8, st_g9, st_s0, st_s1, st_s2, st_s3, st_s4, st_s5, st_s6, st_s7, st_s8, st_s9, List.length_cons, List.length_nil, List.take_succ_cons, List.take_zero, List.drop_succ_cons, List.drop_zero, List.reverse_cons, List.reverse_nil, List.nil_append, List.cons_append, List.all_cons, List.all_nil, ms_nl, Bool.and_true, Nat.reduceLeDiff, Nat.reduceAdd, Nat.reduceLT, Nat.reduceEqDiff, if_true, if_false, true_and, and_true, ms_rt, List.cons.injEq, exists_eq_left, exists_eq_right, exists_and_left, exists_and_right, ms_one, ite_true, ite_false, reduceIte, imp_self, Nat.zero_add, Nat.add_zero, zero_le_any, Nat.le_refl, Int.zero_add, true_or, or_true, false_implies, Int.reduceLE, Int.reduceLT, Int.reduceNeg, Int.reduceAdd, Int.reduceSub, Int.reduceMul, Int.reduceEq, not_true, not_false_iff, and_self, implies_true, false_and, and_false, or_false, false_or, bX4_vote_0, bX4_vote_1, bX4_vote_2, bX4_vote_3, bX4_vote_100, lX4_vote_0, lX4_vote_1, lX4_vote_2, lX4_vote_3, lX4_vote_100, qX4_vote, sh_b, hR, tok hv.1, tok0 hv.1]
    repeat' first | refine And.intro ?_ ?_ | refine fun (_ : (_ : Int) ≤ _) => ?_ | refine fun (_ : (_ : Int) < _) => ?_ | refine fun (_ : ¬ (_ : Int) = _) => ?_ | refine fun (_ : (_ : Int) = _) => ?_
    all_goals first | omega | exact rg_of (by omega) (by omega) | skip
    · rw [e, if_neg (by omega)] at ih'
      exact ih'
    · rw [e, if_pos (by omega)] at ih'
      exact ih'
theorem c_vote {d : Nat} {t u : Int} {h : ms_H} {Q : ms_Q} (hv : CV t u h) (q : Q (some (mI (vt (h (t + 5)) (h (t + 6)) (h t 6).toNat))) SH h) : ms_Ok ms_P (d + 1) 76 [mR 0] SH (h) Q := by
  refine ok_in (k := 30) MX4_vote rfl rfl ?_
  show sq (ms_Ok ms_P (d)) ms_X1 MX4_vote Q 30 (M_bl MX4_vote 0) [mR 0, mL 0, mL 0] [] (SH, 0, 0) (h)
  have hb := hv.2.2.1.2.1
  simp only [sq_c, jp_s, jp_c, rc_0, rc_s, ms_ex, o_iload, o_aload, o_istore, o_astore, o_iinc, o_bin, o_div, o_rem, o_neg, o_and, o_shl, o_shr, o_dup, o_pop, o_dup2, o_if, o_icmp, o_switch, o_sw, o_get, o_put, o_iald, o_iast, o_zald, o_zast, o_aald, o_aast, o_len, ob_s, ob_n, o_call, o_max, o_min, o_copy, o_obj, o_lpush, o_ladd, o_lcmp, o_iret, o_lret, o_vret, i1_c, l1_c, r1_c, st_g0, st_g1, st_g2, st_g3, st_g4, st_g5, st_g6, st_g7, st_g8, st_g9, st_s0, st_s1, st_s2, st_s3, st_s4, st_s5, st_s6, st_s7, st_s8, st_s9, List.length_cons, List.length_nil, List.take_succ_cons, List.take_zero, List.drop_succ_cons, List.drop_zero, List.reverse_cons, List.reverse_nil, List.nil_append, List.cons_append, List.all_cons, List.all_nil, ms_nl, Bool.and_true, Nat.reduceLeDiff, Nat.reduceAdd, Nat.reduceLT, Nat.reduceEqDiff, if_true, if_false, true_and, and_true, ms_rt, List.cons.injEq, exists_eq_left, exists_eq_right, exists_and_left, exists_and_right, ms_one, ite_true, ite_false, reduceIte, imp_self, Nat.zero_add, Nat.add_zero, zero_le_any, Nat.le_refl, Int.zero_add, true_or, or_true, false_implies, Int.reduceLE, Int.reduceLT, Int.reduceNeg, Int.reduceAdd, Int.reduceSub, Int.reduceMul, Int.reduceEq, not_true, not_false_iff, and_self, implies_true, false_and, and_false, or_false, false_or, bX4_vote_0, bX4_vote_1, bX4_vote_2, bX4_vote_3, bX4_vote_100, lX4_vote_0, lX4_vote_1, lX4_vote_2, lX4_vote_3, lX4_vote_100, qX4_vote, sh_b]
  exact c_vote_lp hv q (h t 6).toNat 0 (by omega)
theorem c_weightOf_lp {d : Nat} {t u set : Int} {h : ms_H} {Q : ms_Q} (hv : CV t u h) (hs : 0 ≤ set ∧ set < 64) (q : Q (some (mI (wt (h (t + 5)) set (h t 6).toNat))) SH h) : ∀ (n : Nat) (k : Nat), k + n = (h t 6).toNat → ms_at (ms_Ok ms_P (d)) ms_X1 MX4_weightOf Q 100 [mR 0, mI set, mI (wt (h (t + 5)) set k), mI k] [] (SH, 0, 0) (h) := by
  have hR := hv.2.1
  have hb := hv.2.2.1.2.1
  have hw := hv.2.2.2.2.2.1
  unfold RC at hR
  intro n
  induction n with
  | zero =>
    intro k hk
    refine sq_at (ms_Ok_m ms_P _) 30 100 ?_
    simp only [sq_c, jp_s, jp_c, rc_0, rc_s, ms_ex, o_iload, o_aload, o_istore, o_astore, o_iinc, o_bin, o_div, o_rem, o_neg, o_and, o_shl, o_shr, o_dup, o_pop, o_dup2, o_if, o_icmp, o_switch, o_sw, o_get, o_put, o_iald, o_iast, o_zald, o_zast, o_aald, o_aast, o_len, ob_s, ob_n, o_call, o_max, o_min, o_copy, o_obj, o_lpush, o_ladd, o_lcmp, o_iret, o_lret, o_vret, i1_c, l1_c, r1_c, st_g0, st_g1, st_g2, st_g3, st_g4, st_g5, st_g6, st_g7, st_g8, st_g9, st_s0, st_s1, st_s2, st_s3, st_s4, st_s5, st_s6, st_s7, st_s8, st_s9, List.length_cons, List.length_nil, List.take_succ_cons, List.take_zero, List.drop_succ_cons, List.drop_zero, List.reverse_cons, List.reverse_nil, List.nil_append, List.cons_append, List.all_cons, List.all_nil, ms_nl, Bool.and_true, Nat.reduceLeDiff, Nat.reduceAdd, Nat.reduceLT, Nat.reduceEqDiff, if_true, if_false, true_and, and_true, ms_rt, List.cons.injEq, exists_eq_left, exists_eq_right, exists_and_left, exists_and_right, ms_one, ite_true, ite_false, reduceIte, imp_self, Nat.zero_add, Nat.add_zero, zero_le_any, Nat.le_refl, Int.zero_add, true_or, or_true, false_implies, Int.reduceLE, Int.reduceLT, Int.reduceNeg, Int.reduceAdd, Int.reduceSub, Int.reduceMul, Int.reduceEq, not_true, not_false_iff, and_self, implies_true, false_and, and_false, or_false, false_or, bX4_weightOf_0, bX4_weightOf_1, bX4_weightOf_2, bX4_weightOf_100, lX4_weightOf_0, lX4_weightOf_1, lX4_weightOf_2, lX4_weightOf_100, qX4_weightOf, sh_b, hR, tok hv.1, tok0 hv.1]
    refine ⟨fun _ => ?_, fun h1 => by omega⟩
    rw [show k = (h t 6).toNat by omega]
    exact q
  | succ n ih =>
    intro k hk
    have hwk := hw k (by omega) (by omega)
    have hwb := wt_b (w := h (t + 5)) (set := set) (n := k) (fun i h0 h1 => (hw i h0 (by omega)).1)
    have ih' := ih (k + 1) (by omega)
    have e : wt (h (t + 5)) set (k + 1) = wt (h (t + 5)) set k + (if set / 2 ^ (k : Int).toNat % 2 = 1 then h (t + 5) k else 0) := rfl
    refine sq_at (ms_Ok_m ms_P _) 30 100 ?_
    simp only [sq_c, jp_s, jp_c, rc_0, rc_s, ms_ex, o_iload, o_aload, o_istore, o_astore, o_iinc, o_bin, o_div, o_rem, o_neg, o_and, o_shl, o_shr, o_dup, o_pop, o_dup2, o_if, o_icmp, o_switch, o_sw, o_get, o_put, o_iald, o_iast, o_zald, o_zast, o_aald, o_aast, o_len, ob_s, ob_n, o_call, o_max, o_min, o_copy, o_obj, o_lpush, o_ladd, o_lcmp, o_iret, o_lret, o_vret, i1_c, l1_c, r1_c, st_g0, st_g1, st_g2, st_g3, st_g4, st_g5, st_g6, st_g7, st_g8, st_g9, st_s0, st_s1, st_s2, st_s3, st_s4, st_s5, st_s6, st_s7, st_s8, st_s9, List.length_cons, List.length_nil, List.take_succ_cons, List.take_zero, List.drop_succ_cons, List.drop_zero, List.reverse_cons, List.reverse_nil, List.nil_append, List.cons_append, List.all_cons, List.all_nil, ms_nl, Bool.and_true, Nat.reduceLeDiff, Nat.reduceAdd, Nat.reduceLT, Nat.reduceEqDiff, if_true, if_false, true_and, and_true, ms_rt, List.cons.injEq, exists_eq_left, exists_eq_right, exists_and_left, exists_and_right, ms_one, ite_true, ite_false, reduceIte, imp_self, Nat.zero_add, Nat.add_zero, zero_le_any, Nat.le_refl, Int.zero_add, true_or, or_true, false_implies, Int.reduceLE, Int.reduceLT, Int.reduceNeg, Int.reduceAdd, Int.reduceSub, Int.reduceMul, Int.reduceEq, not_true, not_false_iff, and_self, implies_true, false_and, and_false, or_false, false_or, bX4_weightOf_0, bX4_weightOf_1, bX4_weightOf_2, bX4_weightOf_100, lX4_weightOf_0, lX4_weightOf_1, lX4_weightOf_2, lX4_weightOf_100, qX4_weightOf, sh_b, hR, tok hv.1, tok0 hv.1]
    repeat' first | refine And.intro ?_ ?_ | refine fun (_ : (_ : Int) ≤ _) => ?_ | refine fun (_ : (_ : Int) < _) => ?_ | refine fun (_ : ¬ (_ : Int) = _) => ?_ | refine fun (_ : (_ : Int) = _) => ?_
    all_goals first | omega | exact rg_of (by omega) (by omega) | skip
    · rw [e, if_neg ‹_›, Int.add_zero] at ih'
      exact ih'
    · rw [e, if_pos ‹_›] at ih'
      exact ih'
theorem c_weightOf {d : Nat} {t u set : Int} {h : ms_H} {Q : ms_Q} (hv : CV t u h) (hs : 0 ≤ set ∧ set < 64) (q : Q (some (mI (wt (h (t + 5)) set (h t 6).toNat))) SH h) : ms_Ok ms_P (d + 1) 78 [mR 0, mI set] SH (h) Q := by
  refine ok_in (k := 30) MX4_weightOf rfl rfl ?_
  show sq (ms_Ok ms_P (d)) ms_X1 MX4_weightOf Q 30 (M_bl MX4_weightOf 0) [mR 0, mI set, mL 0, mL 0] [] (SH, 0, 0) (h)
  have hb := hv.2.2.1.2.1
  simp only [sq_c, jp_s, jp_c, rc_0, rc_s, ms_ex, o_iload, o_aload, o_istore, o_astore, o_iinc, o_bin, o_div, o_rem, o_neg, o_and, o_shl, o_shr, o_dup, o_pop, o_dup2, o_if, o_icmp, o_switch, o_sw, o_get, o_put, o_iald, o_iast, o_zald, o_zast, o_aald, o_aast, o_len, ob_s, ob_n, o_call, o_max, o_min, o_copy, o_obj, o_lpush, o_ladd, o_lcmp, o_iret, o_lret, o_vret, i1_c, l1_c, r1_c, st_g0, st_g1, st_g2, st_g3, st_g4, st_g5, st_g6, st_g7, st_g8, st_g9, st_s0, st_s1, st_s2, st_s3, st_s4, st_s5, st_s6, st_s7, st_s8, st_s9, List.length_cons, List.length_nil, List.take_succ_cons, List.take_zero, List.drop_succ_cons, List.drop_zero, List.reverse_cons, List.reverse_nil, List.nil_append, List.cons_append, List.all_cons, List.all_nil, ms_nl, Bool.and_true, Nat.reduceLeDiff, Nat.reduceAdd, Nat.reduceLT, Nat.reduceEqDiff, if_true, if_false, true_and, and_true, ms_rt, List.cons.injEq, exists_eq_left, exists_eq_right, exists_and_left, exists_and_right, ms_one, ite_true, ite_false, reduceIte, imp_self, Nat.zero_add, Nat.add_zero, zero_le_any, Nat.le_refl, Int.zero_add, true_or, or_true, false_implies, Int.reduceLE, Int.reduceLT, Int.reduceNeg, Int.reduceAdd, Int.reduceSub, Int.reduceMul, Int.reduceEq, not_true, not_false_iff, and_self, implies_true, false_and, and_false, or_false, false_or, bX4_weightOf_0, bX4_weightOf_1, bX4_weightOf_2, bX4_weightOf_100, lX4_weightOf_0, lX4_weightOf_1, lX4_weightOf_2, lX4_weightOf_100, qX4_weightOf, sh_b]
  exact c_weightOf_lp hv hs q (h t 6).toNat 0 (by omega)
theorem c_shared_lp {d : Nat} {h : ms_H} {Q : ms_Q} {g v0 v1 : Int} (q : Q (some (mI g)) SH h) : ∀ (k : Nat) (x y i : Int) (rv : ms_V), 0 ≤ x → 0 ≤ y → y ≤ hb k → x ≤ 2000000000 → y ≤ 2000000000 → gc x y = g → 0 ≤ i → i + 2 * k ≤ 98 → ms_at (ms_Ok ms_P (d)) ms_X1 MX4_greatestShared Q 100 [mI v0, mI v1, mI x, mI y, mI i, rv] [] (SH, 0, 0) (h) := by
  intro k
  induction k with
  | zero =>
    intro x y i rv hx hy hk hx2 hy2 hg hi hi2
    rw [show hb 0 = 0 from rfl] at hk
    have : y = 0 := by omega
    subst this
    rw [gc_0 hx] at hg
    subst hg
    refine sq_at (ms_Ok_m ms_P _) 30 100 ?_
    simp only [sq_c, jp_s, jp_c, rc_0, rc_s, ms_ex, o_iload, o_aload, o_istore, o_astore, o_iinc, o_bin, o_div, o_rem, o_neg, o_and, o_shl, o_shr, o_dup, o_pop, o_dup2, o_if, o_icmp, o_switch, o_sw, o_get, o_put, o_iald, o_iast, o_zald, o_zast, o_aald, o_aast, o_len, ob_s, ob_n, o_call, o_max, o_min, o_copy, o_obj, o_lpush, o_ladd, o_lcmp, o_iret, o_lret, o_vret, i1_c, l1_c, r1_c, st_g0, st_g1, st_g2, st_g3, st_g4, st_g5, st_g6, st_g7, st_g8, st_g9, st_s0, st_s1, st_s2, st_s3, st_s4, st_s5, st_s6, st_s7, st_s8, st_s9, List.length_cons, List.length_nil, List.take_succ_cons, List.take_zero, List.drop_succ_cons, List.drop_zero, List.reverse_cons, List.reverse_nil, List.nil_append, List.cons_append, List.all_cons, List.all_nil, ms_nl, Bool.and_true, Nat.reduceLeDiff, Nat.reduceAdd, Nat.reduceLT, Nat.reduceEqDiff, if_true, if_false, true_and, and_true, ms_rt, List.cons.injEq, exists_eq_left, exists_eq_right, exists_and_left, exists_and_right, ms_one, ite_true, ite_false, reduceIte, imp_self, Nat.zero_add, Nat.add_zero, zero_le_any, Nat.le_refl, Int.zero_add, true_or, or_true, false_implies, Int.reduceLE, Int.reduceLT, Int.reduceNeg, Int.reduceAdd, Int.reduceSub, Int.reduceMul, Int.reduceEq, not_true, not_false_iff, and_self, implies_true, false_and, and_false, or_false, false_or, bX4_greatestShared_0, bX4_greatestShared_1, bX4_greatestShared_100, lX4_greatestShared_0, lX4_greatestShared_1, lX4_greatestShared_100, qX4_greatestShared, sh_b]
    repeat' first | refine And.intro ?_ ?_ | refine fun (_ : (_ : Int) ≤ _) => ?_ | refine fun (_ : (_ : Int) < _) => ?_ | refine fun (_ : ¬ (_ : Int) = _) => ?_ | refine fun (_ : (_ : Int) = _) => ?_
    all_goals first | omega | exact rg_of (by omega) (by omega) | skip
    all_goals exact q
  | succ k ih =>
    intro x y i rv hx hy hk hx2 hy2 hg hi hi2
    rw [show hb (k + 1) = 2 * hb k + 1 from rfl] at hk
    refine sq_at (ms_Ok_m ms_P _) 30 100 ?_
    simp only [sq_c, jp_s, jp_c, rc_0, rc_s, ms_ex, o_iload, o_aload, o_istore, o_astore, o_iinc, o_bin, o_div, o_rem, o_neg, o_and, o_shl, o_shr, o_dup, o_pop, o_dup2, o_if, o_icmp, o_switch, o_sw, o_get, o_put, o_iald, o_iast, o_zald, o_zast, o_aald, o_aast, o_len, ob_s, ob_n, o_call, o_max, o_min, o_copy, o_obj, o_lpush, o_ladd, o_lcmp, o_iret, o_lret, o_vret, i1_c, l1_c, r1_c, st_g0, st_g1, st_g2, st_g3, st_g4, st_g5, st_g6, st_g7, st_g8, st_g9, st_s0, st_s1, st_s2, st_s3, st_s4, st_s5, st_s6, st_s7, st_s8, st_s9, List.length_cons, List.length_nil, List.take_succ_cons, List.take_zero, List.drop_succ_cons, List.drop_zero, List.reverse_cons, List.reverse_nil, List.nil_append, List.cons_append, List.all_cons, List.all_nil, ms_nl, Bool.and_true, Nat.reduceLeDiff, Nat.reduceAdd, Nat.reduceLT, Nat.reduceEqDiff, if_true, if_false, true_and, and_true, ms_rt, List.cons.injEq, exists_eq_left, exists_eq_right, exists_and_left, exists_and_right, ms_one, ite_true, ite_false, reduceIte, imp_self, Nat.zero_add, Nat.add_zero, zero_le_any, Nat.le_refl, Int.zero_add, true_or, or_true, false_implies, Int.reduceLE, Int.reduceLT, Int.reduceNeg, Int.reduceAdd, Int.reduceSub, Int.reduceMul, Int.reduceEq, not_true, not_false_iff, and_self, implies_true, false_and, and_false, or_false, false_or, bX4_greatestShared_0, bX4_greatestShared_1, bX4_greatestShared_100, lX4_greatestShared_0, lX4_greatestShared_1, lX4_greatestShared_100, qX4_greatestShared, sh_b]
    refine ⟨fun h1 => by omega, fun h1 => ⟨fun h2 => ?_, fun h2 => ?_⟩⟩
    · subst h2
      rw [gc_0 hx] at hg
      subst hg
      exact q
    · have hb1 := emod_b (a := x) (b := y) (by omega)
      rw [tmod_p hx]
      refine ⟨h2, rg_of (by omega) (by omega), ?_⟩
      refine sq_at (ms_Ok_m ms_P _) 30 100 ?_
      simp only [sq_c, jp_s, jp_c, rc_0, rc_s, ms_ex, o_iload, o_aload, o_istore, o_astore, o_iinc, o_bin, o_div, o_rem, o_neg, o_and, o_shl, o_shr, o_dup, o_pop, o_dup2, o_if, o_icmp, o_switch, o_sw, o_get, o_put, o_iald, o_iast, o_zald, o_zast, o_aald, o_aast, o_len, ob_s, ob_n, o_call, o_max, o_min, o_copy, o_obj, o_lpush, o_ladd, o_lcmp, o_iret, o_lret, o_vret, i1_c, l1_c, r1_c, st_g0, st_g1, st_g2, st_g3, st_g4, st_g5, st_g6, st_g7, st_g8, st_g9, st_s0, st_s1, st_s2, st_s3, st_s4, st_s5, st_s6, st_s7, st_s8, st_s9, List.length_cons, List.length_nil, List.take_succ_cons, List.take_zero, List.drop_succ_cons, List.drop_zero, List.reverse_cons, List.reverse_nil, List.nil_append, List.cons_append, List.all_cons, List.all_nil, ms_nl, Bool.and_true, Nat.reduceLeDiff, Nat.reduceAdd, Nat.reduceLT, Nat.reduceEqDiff, if_true, if_false, true_and, and_true, ms_rt, List.cons.injEq, exists_eq_left, exists_eq_right, exists_and_left, exists_and_right, ms_one, ite_true, ite_false, reduceIte, imp_self, Nat.zero_add, Nat.add_zero, zero_le_any, Nat.le_refl, Int.zero_add, true_or, or_true, false_implies, Int.reduceLE, Int.reduceLT, Int.reduceNeg, Int.reduceAdd, Int.reduceSub, Int.reduceMul, Int.reduceEq, not_true, not_false_iff, and_self, implies_true, false_and, and_false, or_false, false_or, bX4_greatestShared_0, bX4_greatestShared_1, bX4_greatestShared_100, lX4_greatestShared_0, lX4_greatestShared_1, lX4_greatestShared_100, qX4_greatestShared, sh_b]
      rw [gc_s hx (by omega)] at hg
      refine ⟨fun h3 => by omega, fun h3 => ⟨fun h4 => ?_, fun h4 => ?_⟩⟩
      · rw [h4, gc_0 hy] at hg
        subst hg
        exact q
      · have hb2 := emod_b (a := y) (b := x % y) (by omega)
        have hb3 : 2 * (y % (x % y)) < y := by
          have h5 := Int.emod_add_mul_ediv y (x % y)
          have h6 : 1 ≤ y / (x % y) := (Int.le_ediv_iff_mul_le (by omega)).mpr (by omega)
          have h7 := Int.mul_le_mul_of_nonneg_left h6 (show 0 ≤ x % y by omega)
          omega
        rw [tmod_p hy]
        rw [gc_s hy (by omega)] at hg
        exact ⟨h4, rg_of (by omega) (by omega), ih _ _ _ _ (by omega) (by omega) (by omega) (by omega) (by omega) hg (by omega) (by omega)⟩
theorem hb_b : hb 31 = 2147483647 := by decide
theorem c_shared {d : Nat} {a b : Int} {h : ms_H} {Q : ms_Q} (ha : 0 ≤ a ∧ a ≤ 2000000000) (hb1 : 0 ≤ b ∧ b ≤ 2000000000) (q : Q (some (mI (gc a b))) SH h) : ms_Ok ms_P (d + 1) 81 [mI a, mI b] SH (h) Q := by
  refine ok_in (k := 30) MX4_greatestShared rfl rfl ?_
  show sq (ms_Ok ms_P (d)) ms_X1 MX4_greatestShared Q 30 (M_bl MX4_greatestShared 0) [mI a, mI b, mL 0, mL 0, mL 0, mL 0] [] (SH, 0, 0) (h)
  simp only [sq_c, jp_s, jp_c, rc_0, rc_s, ms_ex, o_iload, o_aload, o_istore, o_astore, o_iinc, o_bin, o_div, o_rem, o_neg, o_and, o_shl, o_shr, o_dup, o_pop, o_dup2, o_if, o_icmp, o_switch, o_sw, o_get, o_put, o_iald, o_iast, o_zald, o_zast, o_aald, o_aast, o_len, ob_s, ob_n, o_call, o_max, o_min, o_copy, o_obj, o_lpush, o_ladd, o_lcmp, o_iret, o_lret, o_vret, i1_c, l1_c, r1_c, st_g0, st_g1, st_g2, st_g3, st_g4, st_g5, st_g6, st_g7, st_g8, st_g9, st_s0, st_s1, st_s2, st_s3, st_s4, st_s5, st_s6, st_s7, st_s8, st_s9, List.length_cons, List.length_nil, List.take_succ_cons, List.take_zero, List.drop_succ_cons, List.drop_zero, List.reverse_cons, List.reverse_nil, List.nil_append, List.cons_append, List.all_cons, List.all_nil, ms_nl, Bool.and_true, Nat.reduceLeDiff, Nat.reduceAdd, Nat.reduceLT, Nat.reduceEqDiff, if_true, if_false, true_and, and_true, ms_rt, List.cons.injEq, exists_eq_left, exists_eq_right, exists_and_left, exists_and_right, ms_one, ite_true, ite_false, reduceIte, imp_self, Nat.zero_add, Nat.add_zero, zero_le_any, Nat.le_refl, Int.zero_add, true_or, or_true, false_implies, Int.reduceLE, Int.reduceLT, Int.reduceNeg, Int.reduceAdd, Int.reduceSub, Int.reduceMul, Int.reduceEq, not_true, not_false_iff, and_self, implies_true, false_and, and_false, or_false, false_or, bX4_greatestShared_0, bX4_greatestShared_1, bX4_greatestShared_100, lX4_greatestShared_0, lX4_greatestShared_1, lX4_greatestShared_100, qX4_greatestShared, sh_b]
  exact c_shared_lp q 31 a b 0 _ ha.1 hb1.1 (by rw [hb_b]; omega) ha.2 hb1.2 rfl (by omega) (by omega)
theorem c_least {d : Nat} {a b w : Int} {h : ms_H} {Q : ms_Q} (ha : 0 ≤ a ∧ a ≤ 2000000000) (hb1 : 1 ≤ b ∧ b ≤ 2000000000) (q : Q (some (mI (frac w a b))) SH h) : ms_Ok ms_P (d + 2) 80 [mI a, mI b, mI w] SH (h) Q := by
  refine ok_in (k := 30) MX4_leastTerms rfl rfl ?_
  show sq (ms_Ok ms_P (d + 1)) ms_X1 MX4_leastTerms Q 30 (M_bl MX4_leastTerms 0) [mI a, mI b, mI w, mL 0] [] (SH, 0, 0) (h)
  simp only [sq_c, jp_s, jp_c, rc_0, rc_s, ms_ex, o_iload, o_aload, o_istore, o_astore, o_iinc, o_bin, o_div, o_rem, o_neg, o_and, o_shl, o_shr, o_dup, o_pop, o_dup2, o_if, o_icmp, o_switch, o_sw, o_get, o_put, o_iald, o_iast, o_zald, o_zast, o_aald, o_aast, o_len, ob_s, ob_n, o_call, o_max, o_min, o_copy, o_obj, o_lpush, o_ladd, o_lcmp, o_iret, o_lret, o_vret, i1_c, l1_c, r1_c, st_g0, st_g1, st_g2, st_g3, st_g4, st_g5, st_g6, st_g7, st_g8, st_g9, st_s0, st_s1, st_s2, st_s3, st_s4, st_s5, st_s6, st_s7, st_s8, st_s9, List.length_cons, List.length_nil, List.take_succ_cons, List.take_zero, List.drop_succ_cons, List.drop_zero, List.reverse_cons, List.reverse_nil, List.nil_append, List.cons_append, List.all_cons, List.all_nil, ms_nl, Bool.and_true, Nat.reduceLeDiff, Nat.reduceAdd, Nat.reduceLT, Nat.reduceEqDiff, if_true, if_false, true_and, and_true, ms_rt, List.cons.injEq, exists_eq_left, exists_eq_right, exists_and_left, exists_and_right, ms_one, ite_true, ite_false, reduceIte, imp_self, Nat.zero_add, Nat.add_zero, zero_le_any, Nat.le_refl, Int.zero_add, true_or, or_true, false_implies, Int.reduceLE, Int.reduceLT, Int.reduceNeg, Int.reduceAdd, Int.reduceSub, Int.reduceMul, Int.reduceEq, not_true, not_false_iff, and_self, implies_true, false_and, and_false, or_false, false_or, bX4_leastTerms_0, bX4_leastTerms_1, bX4_leastTerms_2, bX4_leastTerms_3, lX4_leastTerms_0, lX4_leastTerms_1, lX4_leastTerms_2, lX4_leastTerms_3, qX4_leastTerms, sh_b]
  refine c_shared (by omega) (by omega) ?_
  simp only [sq_c, jp_s, jp_c, rc_0, rc_s, ms_ex, o_iload, o_aload, o_istore, o_astore, o_iinc, o_bin, o_div, o_rem, o_neg, o_and, o_shl, o_shr, o_dup, o_pop, o_dup2, o_if, o_icmp, o_switch, o_sw, o_get, o_put, o_iald, o_iast, o_zald, o_zast, o_aald, o_aast, o_len, ob_s, ob_n, o_call, o_max, o_min, o_copy, o_obj, o_lpush, o_ladd, o_lcmp, o_iret, o_lret, o_vret, i1_c, l1_c, r1_c, st_g0, st_g1, st_g2, st_g3, st_g4, st_g5, st_g6, st_g7, st_g8, st_g9, st_s0, st_s1, st_s2, st_s3, st_s4, st_s5, st_s6, st_s7, st_s8, st_s9, List.length_cons, List.length_nil, List.take_succ_cons, List.take_zero, List.drop_succ_cons, List.drop_zero, List.reverse_cons, List.reverse_nil, List.nil_append, List.cons_append, List.all_cons, List.all_nil, ms_nl, Bool.and_true, Nat.reduceLeDiff, Nat.reduceAdd, Nat.reduceLT, Nat.reduceEqDiff, if_true, if_false, true_and, and_true, ms_rt, List.cons.injEq, exists_eq_left, exists_eq_right, exists_and_left, exists_and_right, ms_one, ite_true, ite_false, reduceIte, imp_self, Nat.zero_add, Nat.add_zero, zero_le_any, Nat.le_refl, Int.zero_add, true_or, or_true, false_implies, Int.reduceLE, Int.reduceLT, Int.reduceNeg, Int.reduceAdd, Int.reduceSub, Int.reduceMul, Int.reduceEq, not_true, not_false_iff, and_self, implies_true, false_and, and_false, or_false, false_or, bX4_leastTerms_0, bX4_leastTerms_1, bX4_leastTerms_2, bX4_leastTerms_3, lX4_leastTerms_0, lX4_leastTerms_1, lX4_leastTerms_2, lX4_leastTerms_3, qX4_leastTerms, sh_b]
  have hg := gc_b (a := a) hb1.1
  unfold frac at q
  have d1 := div_b (a := a) (b := gc a b) (by omega) hg
  have d2 := div_b (a := b) (b := gc a b) (by omega) hg
  refine ⟨fun h1 => ⟨fun h2 => ?_, fun h2 => ?_⟩, fun h1 => by omega⟩
  · rw [if_neg h2] at q
    rw [tdiv_p (by omega)]
    exact ⟨by omega, rg_of (by omega) (by omega), q⟩
  · rw [if_pos h2] at q
    rw [tdiv_p (by omega)]
    exact ⟨by omega, rg_of (by omega) (by omega), q⟩
/-- of 10 to the power of n ways, those that end with snow -/
def sww (x : Int) : Nat → Int → Int
  | 0, m => if m ≤ 0 then 1 else 0
  | n + 1, m => x * sww x n (m + 1) + (10 - x) * sww x n (m - 1)
theorem sww_b {x : Int} (hx : 0 ≤ x ∧ x ≤ 10) : ∀ (n : Nat) (m : Int), 0 ≤ sww x n m ∧ sww x n m ≤ p10 n ∧ (0 ≤ x * sww x n m ∧ x * sww x n m ≤ x * p10 n) ∧ (0 ≤ (10 - x) * sww x n m ∧ (10 - x) * sww x n m ≤ (10 - x) * p10 n) := by
  intro n
  induction n with
  | zero =>
    intro m
    unfold sww p10
    split <;> omega
  | succ n ih =>
    intro m
    have h1 := ih (m + 1)
    have h2 := ih (m - 1)
    have e : sww x (n + 1) m = x * sww x n (m + 1) + (10 - x) * sww x n (m - 1) := rfl
    have e2 : p10 (n + 1) = p10 n * 10 := rfl
    have e3 : x * p10 n + (10 - x) * p10 n = p10 n * 10 := by rw [← Int.add_mul, Int.mul_comm]; congr 1; omega
    have h3 : 0 ≤ sww x (n + 1) m := by omega
    have h4 : sww x (n + 1) m ≤ p10 (n + 1) := by omega
    exact ⟨h3, h4, ⟨Int.mul_nonneg hx.1 h3, Int.mul_le_mul_of_nonneg_left h4 hx.1⟩, ⟨Int.mul_nonneg (by omega) h3, Int.mul_le_mul_of_nonneg_left h4 (by omega)⟩⟩
theorem c_ways {h : ms_H} {x : Int} (hx : 0 ≤ x ∧ x ≤ 10) : ∀ (n : Nat) (d : Nat) (m : Int) (Q : ms_Q), n ≤ 6 → (-1000 + n ≤ m ∧ m ≤ 1000 - n) → Q (some (mI (sww x n m))) SH h → ms_Ok ms_P (d + n + 1) 79 [mI m, mI x, mI n] SH (h) Q := by
  intro n
  induction n with
  | zero =>
    intro d m Q hn hm q
    refine ok_in (k := 30) MX4_snowyWays rfl rfl ?_
    show sq (ms_Ok ms_P (d + 0)) ms_X1 MX4_snowyWays Q 30 (M_bl MX4_snowyWays 0) [mI m, mI x, mI ((0 : Nat) : Int)] [] (SH, 0, 0) (h)
    simp only [sq_c, jp_s, jp_c, rc_0, rc_s, ms_ex, o_iload, o_aload, o_istore, o_astore, o_iinc, o_bin, o_div, o_rem, o_neg, o_and, o_shl, o_shr, o_dup, o_pop, o_dup2, o_if, o_icmp, o_switch, o_sw, o_get, o_put, o_iald, o_iast, o_zald, o_zast, o_aald, o_aast, o_len, ob_s, ob_n, o_call, o_max, o_min, o_copy, o_obj, o_lpush, o_ladd, o_lcmp, o_iret, o_lret, o_vret, i1_c, l1_c, r1_c, st_g0, st_g1, st_g2, st_g3, st_g4, st_g5, st_g6, st_g7, st_g8, st_g9, st_s0, st_s1, st_s2, st_s3, st_s4, st_s5, st_s6, st_s7, st_s8, st_s9, List.length_cons, List.length_nil, List.take_succ_cons, List.take_zero, List.drop_succ_cons, List.drop_zero, List.reverse_cons, List.reverse_nil, List.nil_append, List.cons_append, List.all_cons, List.all_nil, ms_nl, Bool.and_true, Nat.reduceLeDiff, Nat.reduceAdd, Nat.reduceLT, Nat.reduceEqDiff, if_true, if_false, true_and, and_true, ms_rt, List.cons.injEq, exists_eq_left, exists_eq_right, exists_and_left, exists_and_right, ms_one, ite_true, ite_false, reduceIte, imp_self, Nat.zero_add, Nat.add_zero, zero_le_any, Nat.le_refl, Int.zero_add, true_or, or_true, false_implies, Int.reduceLE, Int.reduceLT, Int.reduceNeg, Int.reduceAdd, Int.reduceSub, Int.reduceMul, Int.reduceEq, not_true, not_false_iff, and_self, implies_true, false_and, and_false, or_false, false_or, bX4_snowyWays_0, bX4_snowyWays_1, bX4_snowyWays_2, bX4_snowyWays_3, lX4_snowyWays_0, lX4_snowyWays_1, lX4_snowyWays_2, lX4_snowyWays_3, qX4_snowyWays, sh_b]
    unfold sww at q
    refine ⟨fun h1 => by omega, fun h1 => ⟨fun h2 => ?_, fun h2 => ?_⟩⟩
    · rw [if_neg (by omega)] at q
      exact q
    · rw [if_pos (by omega)] at q
      exact q
  | succ n ih =>
    intro d m Q hn hm q
    have b1 := sww_b hx n (m + 1)
    have b2 := sww_b hx n (m - 1)
    have b3 := sww_b hx (n + 1) m
    have p1 := p10_b n (by omega)
    have p2 := p10_b (n + 1) (by omega)
    have p3 : x * p10 n ≤ 10 * p10 n := Int.mul_le_mul_of_nonneg_right hx.2 (by omega)
    have p4 : (10 - x) * p10 n ≤ 10 * p10 n := Int.mul_le_mul_of_nonneg_right (by omega) (by omega)
    have e : sww x (n + 1) m = x * sww x n (m + 1) + (10 - x) * sww x n (m - 1) := rfl
    refine ok_in (k := 30) MX4_snowyWays rfl rfl ?_
    show sq (ms_Ok ms_P (d + (n + 1))) ms_X1 MX4_snowyWays Q 30 (M_bl MX4_snowyWays 0) [mI m, mI x, mI ((n + 1 : Nat) : Int)] [] (SH, 0, 0) (h)
    simp only [sq_c, jp_s, jp_c, rc_0, rc_s, ms_ex, o_iload, o_aload, o_istore, o_astore, o_iinc, o_bin, o_div, o_rem, o_neg, o_and, o_shl, o_shr, o_dup, o_pop, o_dup2, o_if, o_icmp, o_switch, o_sw, o_get, o_put, o_iald, o_iast, o_zald, o_zast, o_aald, o_aast, o_len, ob_s, ob_n, o_call, o_max, o_min, o_copy, o_obj, o_lpush, o_ladd, o_lcmp, o_iret, o_lret, o_vret, i1_c, l1_c, r1_c, st_g0, st_g1, st_g2, st_g3, st_g4, st_g5, st_g6, st_g7, st_g8, st_g9, st_s0, st_s1, st_s2, st_s3, st_s4, st_s5, st_s6, st_s7, st_s8, st_s9, List.length_cons, List.length_nil, List.take_succ_cons, List.take_zero, List.drop_succ_cons, List.drop_zero, List.reverse_cons, List.reverse_nil, List.nil_append, List.cons_append, List.all_cons, List.all_nil, ms_nl, Bool.and_true, Nat.reduceLeDiff, Nat.reduceAdd, Nat.reduceLT, Nat.reduceEqDiff, if_true, if_false, true_and, and_true, ms_rt, List.cons.injEq, exists_eq_left, exists_eq_right, exists_and_left, exists_and_right, ms_one, ite_true, ite_false, reduceIte, imp_self, Nat.zero_add, Nat.add_zero, zero_le_any, Nat.le_refl, Int.zero_add, true_or, or_true, false_implies, Int.reduceLE, Int.reduceLT, Int.reduceNeg, Int.reduceAdd, Int.reduceSub, Int.reduceMul, Int.reduceEq, not_true, not_false_iff, and_self, implies_true, false_and, and_false, or_false, false_or, bX4_snowyWays_0, bX4_snowyWays_1, bX4_snowyWays_2, bX4_snowyWays_3, lX4_snowyWays_0, lX4_snowyWays_1, lX4_snowyWays_2, lX4_snowyWays_3, qX4_snowyWays, sh_b]
    refine ⟨fun h1 => ⟨rg_of (by omega) (by omega), rg_of (by omega) (by omega), ?_⟩, fun h1 => by omega⟩
    rw [show ((n + 1 : Nat) : Int) - 1 = n by omega]
    refine ih d _ _ (by omega) (by omega) ?_
    simp only [sq_c, jp_s, jp_c, rc_0, rc_s, ms_ex, o_iload, o_aload, o_istore, o_astore, o_iinc, o_bin, o_div, o_rem, o_neg, o_and, o_shl, o_shr, o_dup, o_pop, o_dup2, o_if, o_icmp, o_switch, o_sw, o_get, o_put, o_iald, o_iast, o_zald, o_zast, o_aald, o_aast, o_len, ob_s, ob_n, o_call, o_max, o_min, o_copy, o_obj, o_lpush, o_ladd, o_lcmp, o_iret, o_lret, o_vret, i1_c, l1_c, r1_c, st_g0, st_g1, st_g2, st_g3, st_g4, st_g5, st_g6, st_g7, st_g8, st_g9, st_s0, st_s1, st_s2, st_s3, st_s4, st_s5, st_s6, st_s7, st_s8, st_s9, List.length_cons, List.length_nil, List.take_succ_cons, List.take_zero, List.drop_succ_cons, List.drop_zero, List.reverse_cons, List.reverse_nil, List.nil_append, List.cons_append, List.all_cons, List.all_nil, ms_nl, Bool.and_true, Nat.reduceLeDiff, Nat.reduceAdd, Nat.reduceLT, Nat.reduceEqDiff, if_true, if_false, true_and, and_true, ms_rt, List.cons.injEq, exists_eq_left, exists_eq_right, exists_and_left, exists_and_right, ms_one, ite_true, ite_false, reduceIte, imp_self, Nat.zero_add, Nat.add_zero, zero_le_any, Nat.le_refl, Int.zero_add, true_or, or_true, false_implies, Int.reduceLE, Int.reduceLT, Int.reduceNeg, Int.reduceAdd, Int.reduceSub, Int.reduceMul, Int.reduceEq, not_true, not_false_iff, and_self, implies_true, false_and, and_false, or_false, false_or, bX4_snowyWays_0, bX4_snowyWays_1, bX4_snowyWays_2, bX4_snowyWays_3, lX4_snowyWays_0, lX4_snowyWays_1, lX4_snowyWays_2, lX4_snowyWays_3, qX4_snowyWays, sh_b]
    rw [show ((n + 1 : Nat) : Int) - 1 = n by omega]
    refine ⟨rg_of (by omega) (by omega), rg_of (by omega) (by omega), rg_of (by omega) (by omega), rg_of (by omega) (by omega), ?_⟩
    refine ih d _ _ (by omega) (by omega) ?_
    simp only [sq_c, jp_s, jp_c, rc_0, rc_s, ms_ex, o_iload, o_aload, o_istore, o_astore, o_iinc, o_bin, o_div, o_rem, o_neg, o_and, o_shl, o_shr, o_dup, o_pop, o_dup2, o_if, o_icmp, o_switch, o_sw, o_get, o_put, o_iald, o_iast, o_zald, o_zast, o_aald, o_aast, o_len, ob_s, ob_n, o_call, o_max, o_min, o_copy, o_obj, o_lpush, o_ladd, o_lcmp, o_iret, o_lret, o_vret, i1_c, l1_c, r1_c, st_g0, st_g1, st_g2, st_g3, st_g4, st_g5, st_g6, st_g7, st_g8, st_g9, st_s0, st_s1, st_s2, st_s3, st_s4, st_s5, st_s6, st_s7, st_s8, st_s9, List.length_cons, List.length_nil, List.take_succ_cons, List.take_zero, List.drop_succ_cons, List.drop_zero, List.reverse_cons, List.reverse_nil, List.nil_append, List.cons_append, List.all_cons, List.all_nil, ms_nl, Bool.and_true, Nat.reduceLeDiff, Nat.reduceAdd, Nat.reduceLT, Nat.reduceEqDiff, if_true, if_false, true_and, and_true, ms_rt, List.cons.injEq, exists_eq_left, exists_eq_right, exists_and_left, exists_and_right, ms_one, ite_true, ite_false, reduceIte, imp_self, Nat.zero_add, Nat.add_zero, zero_le_any, Nat.le_refl, Int.zero_add, true_or, or_true, false_implies, Int.reduceLE, Int.reduceLT, Int.reduceNeg, Int.reduceAdd, Int.reduceSub, Int.reduceMul, Int.reduceEq, not_true, not_false_iff, and_self, implies_true, false_and, and_false, or_false, false_or, bX4_snowyWays_0, bX4_snowyWays_1, bX4_snowyWays_2, bX4_snowyWays_3, lX4_snowyWays_0, lX4_snowyWays_1, lX4_snowyWays_2, lX4_snowyWays_3, qX4_snowyWays, sh_b]
    exact ⟨rg_of (by omega) (by omega), rg_of (by omega) (by omega), q⟩
