/-! The model: halves, columns, fields, what is now. -/
/-- the greater half of what is between -/
def gh (d : Int) : Int := if 0 ≤ d then (d + 1) / 2 else -((1 - d) / 2)
def hv : Nat → Int → Int → Int → Int × Int
  | 0, a, _, k => (a, k)
  | n + 1, a, b, k => if a = b then (a, k) else if k % 2 = 0 then hv n (a + gh (b - a)) b (k + 1) else hv n a (b + gh (a - b)) (k + 1)
def hb : Nat → Int
  | 0 => 0
  | n + 1 => 2 * hb n + 1
theorem hv_eq (n : Nat) (a k : Int) : hv n a a k = (a, k) := by
  cases n with
  | zero => rfl
  | succ n => unfold hv; rw [if_pos rfl]
theorem m_halves_lp {d : Nat} {h : ms_H} {Q : ms_Q} {c : Int} {P : Int × Int} (hR : RM h) (q : Q (some (mI P.1)) SH (hs h 38 30 P.2)) : ∀ (n : Nat) (a b k : Int) (u v : ms_V), (0 ≤ a ∧ a ≤ 8) → (0 ≤ b ∧ b ≤ 8) → (a - b ≤ hb n ∧ b - a ≤ hb n) → (0 ≤ k ∧ k ≤ 1000 - n) → hv n a b k = P → ms_at (ms_Ok ms_P (d)) ms_X1 MX5_halves Q 100 [mR 38, mI c, mI a, mI b, u, v] [] (SH, 0, 0) (hs h 38 30 k) := by
  unfold RM at hR
  intro n
  induction n with
  | zero =>
    intro a b k u v ha hbb hab hk hp
    refine sq_at (ms_Ok_m ms_P _) 30 100 ?_
    simp only [sq_c, jp_s, jp_c, rc_0, rc_s, ms_ex, o_iload, o_aload, o_istore, o_astore, o_iinc, o_bin, o_div, o_rem, o_neg, o_and, o_shl, o_shr, o_dup, o_pop, o_dup2, o_if, o_icmp, o_switch, o_sw, o_get, o_put, o_iald, o_iast, o_zald, o_zast, o_aald, o_aast, o_len, ob_s, ob_n, o_call, o_max, o_min, o_copy, o_obj, o_lpush, o_ladd, o_lcmp, o_iret, o_lret, o_vret, i1_c, l1_c, r1_c, st_g0, st_g1, st_g2, st_g3, st_g4, st_g5, st_g6, st_g7, st_g8, st_g9, st_s0, st_s1, st_s2, st_s3, st_s4, st_s5, st_s6, st_s7, st_s8, st_s9, List.length_cons, List.length_nil, List.take_succ_cons, List.take_zero, List.drop_succ_cons, List.drop_zero, List.reverse_cons, List.reverse_nil, List.nil_append, List.cons_append, List.all_cons, List.all_nil, ms_nl, Bool.and_true, Nat.reduceLeDiff, Nat.reduceAdd, Nat.reduceLT, Nat.reduceEqDiff, if_true, if_false, true_and, and_true, ms_rt, List.cons.injEq, exists_eq_left, exists_eq_right, exists_and_left, exists_and_right, ms_one, ite_true, ite_false, reduceIte, imp_self, Nat.zero_add, Nat.add_zero, zero_le_any, Nat.le_refl, Int.zero_add, true_or, or_true, false_implies, Int.reduceLE, Int.reduceLT, Int.reduceNeg, Int.reduceAdd, Int.reduceSub, Int.reduceMul, Int.reduceEq, not_true, not_false_iff, and_self, implies_true, false_and, and_false, or_false, false_or, bX5_halves_0, bX5_halves_1, bX5_halves_2, bX5_halves_3, bX5_halves_4, bX5_halves_5, bX5_halves_6, bX5_halves_7, bX5_halves_8, bX5_halves_9, bX5_halves_100, lX5_halves_0, lX5_halves_1, lX5_halves_2, lX5_halves_3, lX5_halves_4, lX5_halves_5, lX5_halves_6, lX5_halves_7, lX5_halves_8, lX5_halves_9, lX5_halves_100, qX5_halves, sh_b, hR, hs_v, hs_hs]
    refine ⟨fun h1 => ?_, fun h1 => ?_⟩
    · subst h1
      rw [hv_eq] at hp
      subst hp
      exact q
    · rw [show hb 0 = 0 from rfl] at hab; omega
  | succ n ih =>
    intro a b k u v ha hbb hab hk hp
    refine sq_at (ms_Ok_m ms_P _) 30 100 ?_
    simp only [sq_c, jp_s, jp_c, rc_0, rc_s, ms_ex, o_iload, o_aload, o_istore, o_astore, o_iinc, o_bin, o_div, o_rem, o_neg, o_and, o_shl, o_shr, o_dup, o_pop, o_dup2, o_if, o_icmp, o_switch, o_sw, o_get, o_put, o_iald, o_iast, o_zald, o_zast, o_aald, o_aast, o_len, ob_s, ob_n, o_call, o_max, o_min, o_copy, o_obj, o_lpush, o_ladd, o_lcmp, o_iret, o_lret, o_vret, i1_c, l1_c, r1_c, st_g0, st_g1, st_g2, st_g3, st_g4, st_g5, st_g6, st_g7, st_g8, st_g9, st_s0, st_s1, st_s2, st_s3, st_s4, st_s5, st_s6, st_s7, st_s8, st_s9, List.length_cons, List.length_nil, List.take_succ_cons, List.take_zero, List.drop_succ_cons, List.drop_zero, List.reverse_cons, List.reverse_nil, List.nil_append, List.cons_append, List.all_cons, List.all_nil, ms_nl, Bool.and_true, Nat.reduceLeDiff, Nat.reduceAdd, Nat.reduceLT, Nat.reduceEqDiff, if_true, if_false, true_and, and_true, ms_rt, List.cons.injEq, exists_eq_left, exists_eq_right, exists_and_left, exists_and_right, ms_one, ite_true, ite_false, reduceIte, imp_self, Nat.zero_add, Nat.add_zero, zero_le_any, Nat.le_refl, Int.zero_add, true_or, or_true, false_implies, Int.reduceLE, Int.reduceLT, Int.reduceNeg, Int.reduceAdd, Int.reduceSub, Int.reduceMul, Int.reduceEq, not_true, not_false_iff, and_self, implies_true, false_and, and_false, or_false, false_or, bX5_halves_0, bX5_halves_1, bX5_halves_2, bX5_halves_3, bX5_halves_4, bX5_halves_5, bX5_halves_6, bX5_halves_7, bX5_halves_8, bX5_halves_9, bX5_halves_100, lX5_halves_0, lX5_halves_1, lX5_halves_2, lX5_halves_3, lX5_halves_4, lX5_halves_5, lX5_halves_6, lX5_halves_7, lX5_halves_8, lX5_halves_9, lX5_halves_100, qX5_halves, sh_b, hR, hs_v, hs_hs]
    rw [show hb (n + 1) = 2 * hb n + 1 from rfl] at hab
    refine ⟨fun h1 => ?_, fun h1 => ?_⟩
    · subst h1
      rw [hv_eq] at hp
      subst hp
      exact q
    · unfold hv at hp
      rw [if_neg h1] at hp
      rw [tmod_p hk.1]
      repeat' first | refine ⟨?_, ?_⟩ | refine fun (_ : (_ : Int) ≤ _) => ?_ | refine fun (_ : (_ : Int) < _) => ?_ | refine fun (_ : ¬ (_ : Int) = _) => ?_ | refine fun (_ : (_ : Int) = _) => ?_
      all_goals try rw [tdiv_p (by omega)]
      all_goals first | omega | exact rg_of (by omega) (by omega) | skip
      all_goals
        refine ih _ _ _ _ _ (by omega) (by omega) (by omega) (by omega) ?_
        rw [← hp]
        split
        all_goals first | omega | (congr 1; unfold gh; split <;> omega)
def mH (h : ms_H) (c : Int) : Int × Int := hv 4 (cl (mT h - h 40 c - h 39 0)) (cl (mT h - h 40 c - h 39 1)) 0
theorem MV_hand {h : ms_H} (hv : MV h) {i : Int} (h0 : 0 ≤ i) (h1 : i < 2) : 0 ≤ h 39 i ∧ h 39 i ≤ 9 := hv.2.2.1 i h0 h1
theorem m_halves {d : Nat} {c : Int} {h : ms_H} {Q : ms_Q} (hv : MV h) (hc : 0 ≤ c ∧ c < h 38 0) (q : Q (some (mI (mH h c).1)) SH (hs h 38 30 (mH h c).2)) : ms_Ok ms_P (d + 5) 117 [mR 38, mI c] SH (h) Q := by
  refine ok_in (k := 30) MX5_halves rfl rfl ?_
  show sq (ms_Ok ms_P (d + 4)) ms_X1 MX5_halves Q 30 (M_bl MX5_halves 0) [mR 38, mI c, mL 0, mL 0, mL 0, mL 0] [] (SH, 0, 0) (h)
  have hR := hv.1
  have h0 := MV_hand hv (i := 0) (by omega) (by omega)
  have h1 := MV_hand hv (i := 1) (by omega) (by omega)
  have hR2 := hR
  unfold RM at hR2
  simp only [sq_c, jp_s, jp_c, rc_0, rc_s, ms_ex, o_iload, o_aload, o_istore, o_astore, o_iinc, o_bin, o_div, o_rem, o_neg, o_and, o_shl, o_shr, o_dup, o_pop, o_dup2, o_if, o_icmp, o_switch, o_sw, o_get, o_put, o_iald, o_iast, o_zald, o_zast, o_aald, o_aast, o_len, ob_s, ob_n, o_call, o_max, o_min, o_copy, o_obj, o_lpush, o_ladd, o_lcmp, o_iret, o_lret, o_vret, i1_c, l1_c, r1_c, st_g0, st_g1, st_g2, st_g3, st_g4, st_g5, st_g6, st_g7, st_g8, st_g9, st_s0, st_s1, st_s2, st_s3, st_s4, st_s5, st_s6, st_s7, st_s8, st_s9, List.length_cons, List.length_nil, List.take_succ_cons, List.take_zero, List.drop_succ_cons, List.drop_zero, List.reverse_cons, List.reverse_nil, List.nil_append, List.cons_append, List.all_cons, List.all_nil, ms_nl, Bool.and_true, Nat.reduceLeDiff, Nat.reduceAdd, Nat.reduceLT, Nat.reduceEqDiff, if_true, if_false, true_and, and_true, ms_rt, List.cons.injEq, exists_eq_left, exists_eq_right, exists_and_left, exists_and_right, ms_one, ite_true, ite_false, reduceIte, imp_self, Nat.zero_add, Nat.add_zero, zero_le_any, Nat.le_refl, Int.zero_add, true_or, or_true, false_implies, Int.reduceLE, Int.reduceLT, Int.reduceNeg, Int.reduceAdd, Int.reduceSub, Int.reduceMul, Int.reduceEq, not_true, not_false_iff, and_self, implies_true, false_and, and_false, or_false, false_or, bX5_halves_0, bX5_halves_1, bX5_halves_2, bX5_halves_3, bX5_halves_4, bX5_halves_5, bX5_halves_6, bX5_halves_7, bX5_halves_8, bX5_halves_9, bX5_halves_100, lX5_halves_0, lX5_halves_1, lX5_halves_2, lX5_halves_3, lX5_halves_4, lX5_halves_5, lX5_halves_6, lX5_halves_7, lX5_halves_8, lX5_halves_9, lX5_halves_100, qX5_halves, sh_b, hR2, ar_39]
  refine m_lowestBy hv hc (by omega) ?_
  simp only [sq_c, jp_s, jp_c, rc_0, rc_s, ms_ex, o_iload, o_aload, o_istore, o_astore, o_iinc, o_bin, o_div, o_rem, o_neg, o_and, o_shl, o_shr, o_dup, o_pop, o_dup2, o_if, o_icmp, o_switch, o_sw, o_get, o_put, o_iald, o_iast, o_zald, o_zast, o_aald, o_aast, o_len, ob_s, ob_n, o_call, o_max, o_min, o_copy, o_obj, o_lpush, o_ladd, o_lcmp, o_iret, o_lret, o_vret, i1_c, l1_c, r1_c, st_g0, st_g1, st_g2, st_g3, st_g4, st_g5, st_g6, st_g7, st_g8, st_g9, st_s0, st_s1, st_s2, st_s3, st_s4, st_s5, st_s6, st_s7, st_s8, st_s9, List.length_cons, List.length_nil, List.take_succ_cons, List.take_zero, List.drop_succ_cons, List.drop_zero, List.reverse_cons, List.reverse_nil, List.nil_append, List.cons_append, List.all_cons, List.all_nil, ms_nl, Bool.and_true, Nat.reduceLeDiff, Nat.reduceAdd, Nat.reduceLT, Nat.reduceEqDiff, if_true, if_false, true_and, and_true, ms_rt, List.cons.injEq, exists_eq_left, exists_eq_right, exists_and_left, exists_and_right, ms_one, ite_true, ite_false, reduceIte, imp_self, Nat.zero_add, Nat.add_zero, zero_le_any, Nat.le_refl, Int.zero_add, true_or, or_true, false_implies, Int.reduceLE, Int.reduceLT, Int.reduceNeg, Int.reduceAdd, Int.reduceSub, Int.reduceMul, Int.reduceEq, not_true, not_false_iff, and_self, implies_true, false_and, and_false, or_false, false_or, bX5_halves_0, bX5_halves_1, bX5_halves_2, bX5_halves_3, bX5_halves_4, bX5_halves_5, bX5_halves_6, bX5_halves_7, bX5_halves_8, bX5_halves_9, bX5_halves_100, lX5_halves_0, lX5_halves_1, lX5_halves_2, lX5_halves_3, lX5_halves_4, lX5_halves_5, lX5_halves_6, lX5_halves_7, lX5_halves_8, lX5_halves_9, lX5_halves_100, qX5_halves, sh_b, hR2, ar_39]
  refine m_lowestBy hv hc (by omega) ?_
  simp only [sq_c, jp_s, jp_c, rc_0, rc_s, ms_ex, o_iload, o_aload, o_istore, o_astore, o_iinc, o_bin, o_div, o_rem, o_neg, o_and, o_shl, o_shr, o_dup, o_pop, o_dup2, o_if, o_icmp, o_switch, o_sw, o_get, o_put, o_iald, o_iast, o_zald, o_zast, o_aald, o_aast, o_len, ob_s, ob_n, o_call, o_max, o_min, o_copy, o_obj, o_lpush, o_ladd, o_lcmp, o_iret, o_lret, o_vret, i1_c, l1_c, r1_c, st_g0, st_g1, st_g2, st_g3, st_g4, st_g5, st_g6, st_g7, st_g8, st_g9, st_s0, st_s1, st_s2, st_s3, st_s4, st_s5, st_s6, st_s7, st_s8, st_s9, List.length_cons, List.length_nil, List.take_succ_cons, List.take_zero, List.drop_succ_cons, List.drop_zero, List.reverse_cons, List.reverse_nil, List.nil_append, List.cons_append, List.all_cons, List.all_nil, ms_nl, Bool.and_true, Nat.reduceLeDiff, Nat.reduceAdd, Nat.reduceLT, Nat.reduceEqDiff, if_true, if_false, true_and, and_true, ms_rt, List.cons.injEq, exists_eq_left, exists_eq_right, exists_and_left, exists_and_right, ms_one, ite_true, ite_false, reduceIte, imp_self, Nat.zero_add, Nat.add_zero, zero_le_any, Nat.le_refl, Int.zero_add, true_or, or_true, false_implies, Int.reduceLE, Int.reduceLT, Int.reduceNeg, Int.reduceAdd, Int.reduceSub, Int.reduceMul, Int.reduceEq, not_true, not_false_iff, and_self, implies_true, false_and, and_false, or_false, false_or, bX5_halves_0, bX5_halves_1, bX5_halves_2, bX5_halves_3, bX5_halves_4, bX5_halves_5, bX5_halves_6, bX5_halves_7, bX5_halves_8, bX5_halves_9, bX5_halves_100, lX5_halves_0, lX5_halves_1, lX5_halves_2, lX5_halves_3, lX5_halves_4, lX5_halves_5, lX5_halves_6, lX5_halves_7, lX5_halves_8, lX5_halves_9, lX5_halves_100, qX5_halves, sh_b, hR2, ar_39]
  have b0 := cl_b (mT h - h 40 c - h 39 0)
  have b1 := cl_b (mT h - h 40 c - h 39 1)
  exact m_halves_lp hR (P := mH h c) q 4 _ _ 0 _ _ b0 b1 (by show _ ≤ (15 : Int) ∧ _ ≤ (15 : Int); omega) (by omega) rfl
/-- what a column answers -/
def mCol (h : ms_H) (c w : Int) : Int :=
  if w = 0 then h 40 c else if w = 1 then h 41 c else if w = 2 then h 42 c else if w = 3 then cl (mT h - h 40 c) else if w = 4 then cl (mT h - h 40 c - h 38 3) else if w = 5 then (if h 46 c = 0 then -9 else h 46 c - 1) else if w = 8 then (mH h c).1 else if w = 9 then (mH h c).2 else cl (mT h - h 40 c - h 39 (w - 6))
def mColH (h : ms_H) (c w : Int) : ms_H := if w = 8 ∨ w = 9 then hs h 38 30 (mH h c).2 else h
theorem m_column {d : Nat} {c w : Int} {h : ms_H} {Q : ms_Q} (hv : MV h) (hst : ∀ i, 0 ≤ i → i < 8 → 0 ≤ h 46 i ∧ h 46 i ≤ 9) (hw : rg w) (q1 : ¬ ((0 ≤ c ∧ c < h 38 0) ∧ 0 ≤ w ∧ w ≤ 9) → Q (some (mI (-1))) SH h) (q2 : (0 ≤ c ∧ c < h 38 0) → 0 ≤ w → w ≤ 9 → Q (some (mI (mCol h c w))) SH (mColH h c w)) : ms_Ok ms_P (d + 6) 118 [mR 38, mI c, mI w] SH (h) Q := by
  refine ok_in (k := 30) MX5_column rfl rfl ?_
  show sq (ms_Ok ms_P (d + 5)) ms_X1 MX5_column Q 30 (M_bl MX5_column 0) [mR 38, mI c, mI w] [] (SH, 0, 0) (h)
  have hR := hv.1
  have hb := hv.2.1.1
  have hg := hv.2.1.2.2.2.1
  unfold RM at hR
  simp only [sq_c, jp_s, jp_c, rc_0, rc_s, ms_ex, o_iload, o_aload, o_istore, o_astore, o_iinc, o_bin, o_div, o_rem, o_neg, o_and, o_shl, o_shr, o_dup, o_pop, o_dup2, o_if, o_icmp, o_switch, o_sw, o_get, o_put, o_iald, o_iast, o_zald, o_zast, o_aald, o_aast, o_len, ob_s, ob_n, o_call, o_max, o_min, o_copy, o_obj, o_lpush, o_ladd, o_lcmp, o_iret, o_lret, o_vret, i1_c, l1_c, r1_c, st_g0, st_g1, st_g2, st_g3, st_g4, st_g5, st_g6, st_g7, st_g8, st_g9, st_s0, st_s1, st_s2, st_s3, st_s4, st_s5, st_s6, st_s7, st_s8, st_s9, List.length_cons, List.length_nil, List.take_succ_cons, List.take_zero, List.drop_succ_cons, List.drop_zero, List.reverse_cons, List.reverse_nil, List.nil_append, List.cons_append, List.all_cons, List.all_nil, ms_nl, Bool.and_true, Nat.reduceLeDiff, Nat.reduceAdd, Nat.reduceLT, Nat.reduceEqDiff, if_true, if_false, true_and, and_true, ms_rt, List.cons.injEq, exists_eq_left, exists_eq_right, exists_and_left, exists_and_right, ms_one, ite_true, ite_false, reduceIte, imp_self, Nat.zero_add, Nat.add_zero, zero_le_any, Nat.le_refl, Int.zero_add, true_or, or_true, false_implies, Int.reduceLE, Int.reduceLT, Int.reduceNeg, Int.reduceAdd, Int.reduceSub, Int.reduceMul, Int.reduceEq, not_true, not_false_iff, and_self, implies_true, false_and, and_false, or_false, false_or, bX5_column_0, bX5_column_1, bX5_column_2, bX5_column_3, bX5_column_4, bX5_column_5, bX5_column_6, bX5_column_7, bX5_column_8, bX5_column_9, bX5_column_10, bX5_column_11, bX5_column_12, bX5_column_13, lX5_column_0, lX5_column_1, lX5_column_2, lX5_column_3, lX5_column_4, lX5_column_5, lX5_column_6, lX5_column_7, lX5_column_8, lX5_column_9, lX5_column_10, lX5_column_11, lX5_column_12, lX5_column_13, qX5_column, sh_b, hR]
  refine m_isColumn hv (fun r hr => ?_)
  simp only [sq_c, jp_s, jp_c, rc_0, rc_s, ms_ex, o_iload, o_aload, o_istore, o_astore, o_iinc, o_bin, o_div, o_rem, o_neg, o_and, o_shl, o_shr, o_dup, o_pop, o_dup2, o_if, o_icmp, o_switch, o_sw, o_get, o_put, o_iald, o_iast, o_zald, o_zast, o_aald, o_aast, o_len, ob_s, ob_n, o_call, o_max, o_min, o_copy, o_obj, o_lpush, o_ladd, o_lcmp, o_iret, o_lret, o_vret, i1_c, l1_c, r1_c, st_g0, st_g1, st_g2, st_g3, st_g4, st_g5, st_g6, st_g7, st_g8, st_g9, st_s0, st_s1, st_s2, st_s3, st_s4, st_s5, st_s6, st_s7, st_s8, st_s9, List.length_cons, List.length_nil, List.take_succ_cons, List.take_zero, List.drop_succ_cons, List.drop_zero, List.reverse_cons, List.reverse_nil, List.nil_append, List.cons_append, List.all_cons, List.all_nil, ms_nl, Bool.and_true, Nat.reduceLeDiff, Nat.reduceAdd, Nat.reduceLT, Nat.reduceEqDiff, if_true, if_false, true_and, and_true, ms_rt, List.cons.injEq, exists_eq_left, exists_eq_right, exists_and_left, exists_and_right, ms_one, ite_true, ite_false, reduceIte, imp_self, Nat.zero_add, Nat.add_zero, zero_le_any, Nat.le_refl, Int.zero_add, true_or, or_true, false_implies, Int.reduceLE, Int.reduceLT, Int.reduceNeg, Int.reduceAdd, Int.reduceSub, Int.reduceMul, Int.reduceEq, not_true, not_false_iff, and_self, implies_true, false_and, and_false, or_false, false_or, bX5_column_0, bX5_column_1, bX5_column_2, bX5_column_3, bX5_column_4, bX5_column_5, bX5_column_6, bX5_column_7, bX5_column_8, bX5_column_9, bX5_column_10, bX5_column_11, bX5_column_12, bX5_column_13, lX5_column_0, lX5_column_1, lX5_column_2, lX5_column_3, lX5_column_4, lX5_column_5, lX5_column_6, lX5_column_7, lX5_column_8, lX5_column_9, lX5_column_10, lX5_column_11, lX5_column_12, lX5_column_13, qX5_column, sh_b, hR]
  refine ⟨fun h1 => ?_, fun h1 => ?_⟩
  · refine q1 (fun z => ?_)
    rw [if_pos z.1] at hr
    omega
  · have hc : 0 ≤ c ∧ c < h 38 0 := by
      by_cases z : 0 ≤ c ∧ c < h 38 0
      · exact z
      · rw [if_neg z] at hr; exact absurd hr h1
    refine m_in (fun r2 hr2 => ?_)
    simp only [sq_c, jp_s, jp_c, rc_0, rc_s, ms_ex, o_iload, o_aload, o_istore, o_astore, o_iinc, o_bin, o_div, o_rem, o_neg, o_and, o_shl, o_shr, o_dup, o_pop, o_dup2, o_if, o_icmp, o_switch, o_sw, o_get, o_put, o_iald, o_iast, o_zald, o_zast, o_aald, o_aast, o_len, ob_s, ob_n, o_call, o_max, o_min, o_copy, o_obj, o_lpush, o_ladd, o_lcmp, o_iret, o_lret, o_vret, i1_c, l1_c, r1_c, st_g0, st_g1, st_g2, st_g3, st_g4, st_g5, st_g6, st_g7, st_g8, st_g9, st_s0, st_s1, st_s2, st_s3, st_s4, st_s5, st_s6, st_s7, st_s8, st_s9, List.length_cons, List.length_nil, List.take_succ_cons, List.take_zero, List.drop_succ_cons, List.drop_zero, List.reverse_cons, List.reverse_nil, List.nil_append, List.cons_append, List.all_cons, List.all_nil, ms_nl, Bool.and_true, Nat.reduceLeDiff, Nat.reduceAdd, Nat.reduceLT, Nat.reduceEqDiff, if_true, if_false, true_and, and_true, ms_rt, List.cons.injEq, exists_eq_left, exists_eq_right, exists_and_left, exists_and_right, ms_one, ite_true, ite_false, reduceIte, imp_self, Nat.zero_add, Nat.add_zero, zero_le_any, Nat.le_refl, Int.zero_add, true_or, or_true, false_implies, Int.reduceLE, Int.reduceLT, Int.reduceNeg, Int.reduceAdd, Int.reduceSub, Int.reduceMul, Int.reduceEq, not_true, not_false_iff, and_self, implies_true, false_and, and_false, or_false, false_or, bX5_column_0, bX5_column_1, bX5_column_2, bX5_column_3, bX5_column_4, bX5_column_5, bX5_column_6, bX5_column_7, bX5_column_8, bX5_column_9, bX5_column_10, bX5_column_11, bX5_column_12, bX5_column_13, lX5_column_0, lX5_column_1, lX5_column_2, lX5_column_3, lX5_column_4, lX5_column_5, lX5_column_6, lX5_column_7, lX5_column_8, lX5_column_9, lX5_column_10, lX5_column_11, lX5_column_12, lX5_column_13, qX5_column, sh_b, hR, ar_40, ar_41, ar_42, ar_46, ar_39]
    refine ⟨fun h2 => ?_, fun h2 => ?_⟩
    · have hw2 : 0 ≤ w ∧ w ≤ 9 := by
        by_cases z : 0 ≤ w ∧ w ≤ 9
        · exact z
        · rw [if_neg z] at hr2; exact absurd hr2 h2
      have q2 := q2 hc hw2.1 hw2.2
      unfold mCol mColH at q2
      have hs0 := hst c hc.1 (by omega)
      refine ⟨fun e => ?_, fun e0 => ⟨fun e => ?_, fun e1 => ⟨fun e => ?_, fun e2 => ⟨fun e => ?_, fun e3 => ⟨fun e => ?_, fun e4 => ⟨fun e => ?_, fun e5 => ⟨fun e => ?_, fun e6 => ⟨fun e => ?_, fun e7 => ⟨fun e => ?_, fun e8 => ⟨fun e => ?_, fun e9 => ?_⟩⟩⟩⟩⟩⟩⟩⟩⟩⟩
      · subst e; exact ⟨by omega, by omega, q2⟩
      · subst e; exact ⟨by omega, by omega, q2⟩
      · subst e; exact ⟨by omega, by omega, q2⟩
      · subst e
        refine m_edge hv hc ?_
        simp only [sq_c, jp_s, jp_c, rc_0, rc_s, ms_ex, o_iload, o_aload, o_istore, o_astore, o_iinc, o_bin, o_div, o_rem, o_neg, o_and, o_shl, o_shr, o_dup, o_pop, o_dup2, o_if, o_icmp, o_switch, o_sw, o_get, o_put, o_iald, o_iast, o_zald, o_zast, o_aald, o_aast, o_len, ob_s, ob_n, o_call, o_max, o_min, o_copy, o_obj, o_lpush, o_ladd, o_lcmp, o_iret, o_lret, o_vret, i1_c, l1_c, r1_c, st_g0, st_g1, st_g2, st_g3, st_g4, st_g5, st_g6, st_g7, st_g8, st_g9, st_s0, st_s1, st_s2, st_s3, st_s4, st_s5, st_s6, st_s7, st_s8, st_s9, List.length_cons, List.length_nil, List.take_succ_cons, List.take_zero, List.drop_succ_cons, List.drop_zero, List.reverse_cons, List.reverse_nil, List.nil_append, List.cons_append, List.all_cons, List.all_nil, ms_nl, Bool.and_true, Nat.reduceLeDiff, Nat.reduceAdd, Nat.reduceLT, Nat.reduceEqDiff, if_true, if_false, true_and, and_true, ms_rt, List.cons.injEq, exists_eq_left, exists_eq_right, exists_and_left, exists_and_right, ms_one, ite_true, ite_false, reduceIte, imp_self, Nat.zero_add, Nat.add_zero, zero_le_any, Nat.le_refl, Int.zero_add, true_or, or_true, false_implies, Int.reduceLE, Int.reduceLT, Int.reduceNeg, Int.reduceAdd, Int.reduceSub, Int.reduceMul, Int.reduceEq, not_true, not_false_iff, and_self, implies_true, false_and, and_false, or_false, false_or, bX5_column_0, bX5_column_1, bX5_column_2, bX5_column_3, bX5_column_4, bX5_column_5, bX5_column_6, bX5_column_7, bX5_column_8, bX5_column_9, bX5_column_10, bX5_column_11, bX5_column_12, bX5_column_13, lX5_column_0, lX5_column_1, lX5_column_2, lX5_column_3, lX5_column_4, lX5_column_5, lX5_column_6, lX5_column_7, lX5_column_8, lX5_column_9, lX5_column_10, lX5_column_11, lX5_column_12, lX5_column_13, qX5_column, sh_b, hR]
        exact q2
      · subst e
        refine m_wet hv hc ?_
        simp only [sq_c, jp_s, jp_c, rc_0, rc_s, ms_ex, o_iload, o_aload, o_istore, o_astore, o_iinc, o_bin, o_div, o_rem, o_neg, o_and, o_shl, o_shr, o_dup, o_pop, o_dup2, o_if, o_icmp, o_switch, o_sw, o_get, o_put, o_iald, o_iast, o_zald, o_zast, o_aald, o_aast, o_len, ob_s, ob_n, o_call, o_max, o_min, o_copy, o_obj, o_lpush, o_ladd, o_lcmp, o_iret, o_lret, o_vret, i1_c, l1_c, r1_c, st_g0, st_g1, st_g2, st_g3, st_g4, st_g5, st_g6, st_g7, st_g8, st_g9, st_s0, st_s1, st_s2, st_s3, st_s4, st_s5, st_s6, st_s7, st_s8, st_s9, List.length_cons, List.length_nil, List.take_succ_cons, List.take_zero, List.drop_succ_cons, List.drop_zero, List.reverse_cons, List.reverse_nil, List.nil_append, List.cons_append, List.all_cons, List.all_nil, ms_nl, Bool.and_true, Nat.reduceLeDiff, Nat.reduceAdd, Nat.reduceLT, Nat.reduceEqDiff, if_true, if_false, true_and, and_true, ms_rt, List.cons.injEq, exists_eq_left, exists_eq_right, exists_and_left, exists_and_right, ms_one, ite_true, ite_false, reduceIte, imp_self, Nat.zero_add, Nat.add_zero, zero_le_any, Nat.le_refl, Int.zero_add, true_or, or_true, false_implies, Int.reduceLE, Int.reduceLT, Int.reduceNeg, Int.reduceAdd, Int.reduceSub, Int.reduceMul, Int.reduceEq, not_true, not_false_iff, and_self, implies_true, false_and, and_false, or_false, false_or, bX5_column_0, bX5_column_1, bX5_column_2, bX5_column_3, bX5_column_4, bX5_column_5, bX5_column_6, bX5_column_7, bX5_column_8, bX5_column_9, bX5_column_10, bX5_column_11, bX5_column_12, bX5_column_13, lX5_column_0, lX5_column_1, lX5_column_2, lX5_column_3, lX5_column_4, lX5_column_5, lX5_column_6, lX5_column_7, lX5_column_8, lX5_column_9, lX5_column_10, lX5_column_11, lX5_column_12, lX5_column_13, qX5_column, sh_b, hR]
        exact q2
      · subst e
        refine ⟨by omega, by omega, fun h3 => ?_, fun h3 => ?_⟩
        · refine ⟨by omega, by omega, rg_of (by omega) (by omega), ?_⟩
          rw [if_neg (by decide), if_neg (by decide), if_neg (by decide), if_neg (by decide), if_neg (by decide), if_pos rfl, if_neg h3, if_neg (by decide)] at q2
          exact q2
        · rw [if_neg (by decide), if_neg (by decide), if_neg (by decide), if_neg (by decide), if_neg (by decide), if_pos rfl, if_pos h3, if_neg (by decide)] at q2
          exact q2
      all_goals sorry
    · refine q1 (fun z => ?_)
      rw [if_pos z.2] at hr2
      omega
