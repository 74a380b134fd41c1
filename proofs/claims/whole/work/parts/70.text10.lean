/-! The model: what was read comes to be. -/
theorem m_come0 {d : Nat} {h : ms_H} {Q : ms_Q} {n : Int} (hR : RM h) (hn : 0 ≤ n ∧ n ≤ 8) (h0 : h 38 0 = n) (K : ∀ g : ms_H, (∀ z, z < 40 ∨ 42 < z → g z = h z) → (∀ i, 0 ≤ i → i < n → g 40 i = h 49 (3 * i) ∧ g 41 i = h 49 (3 * i + 1) ∧ g 42 i = h 49 (3 * i + 2)) → ms_at (ms_Ok ms_P (d)) ms_X1 MX5_comesRead Q 101 [mR 38, mI 0] [] (SH, 0, 0) (g)) : ∀ (j : Nat) (c : Int) (g : ms_H), c + j = n → 0 ≤ c → (∀ z, z < 40 ∨ 42 < z → g z = h z) → (∀ i, 0 ≤ i → i < c → g 40 i = h 49 (3 * i) ∧ g 41 i = h 49 (3 * i + 1) ∧ g 42 i = h 49 (3 * i + 2)) → ms_at (ms_Ok ms_P (d)) ms_X1 MX5_comesRead Q 100 [mR 38, mI c] [] (SH, 0, 0) (g) := by
  unfold RM at hR
  intro j
  induction j with
  | zero =>
    intro c g hc c0 hf hv
    have e := hf 38 (by omega)
    refine sq_at (ms_Ok_m ms_P _) 30 100 ?_
    simp only [sq_c, jp_s, jp_c, rc_0, rc_s, ms_ex, o_iload, o_aload, o_istore, o_astore, o_iinc, o_bin, o_div, o_rem, o_neg, o_and, o_shl, o_shr, o_dup, o_pop, o_dup2, o_if, o_icmp, o_switch, o_sw, o_get, o_put, o_iald, o_iast, o_zald, o_zast, o_aald, o_aast, o_len, ob_s, ob_n, o_call, o_max, o_min, o_copy, o_obj, o_lpush, o_ladd, o_lcmp, o_iret, o_lret, o_vret, i1_c, l1_c, r1_c, st_g0, st_g1, st_g2, st_g3, st_g4, st_g5, st_g6, st_g7, st_g8, st_g9, st_s0, st_s1, st_s2, st_s3, st_s4, st_s5, st_s6, st_s7, st_s8, st_s9, List.length_cons, List.length_nil, List.take_succ_cons, List.take_zero, List.drop_succ_cons, List.drop_zero, List.reverse_cons, List.reverse_nil, List.nil_append, List.cons_append, List.all_cons, List.all_nil, ms_nl, Bool.and_true, Nat.reduceLeDiff, Nat.reduceAdd, Nat.reduceLT, Nat.reduceEqDiff, if_true, if_false, true_and, and_true, ms_rt, List.cons.injEq, exists_eq_left, exists_eq_right, exists_and_left, exists_and_right, ms_one, ite_true, ite_false, reduceIte, imp_self, Nat.zero_add, Nat.add_zero, zero_le_any, Nat.le_refl, Int.zero_add, true_or, or_true, false_implies, Int.reduceLE, Int.reduceLT, Int.reduceNeg, Int.reduceAdd, Int.reduceSub, Int.reduceMul, Int.reduceEq, not_true, not_false_iff, and_self, implies_true, false_and, and_false, or_false, false_or, bX5_comesRead_0, bX5_comesRead_1, bX5_comesRead_2, bX5_comesRead_3, bX5_comesRead_4, bX5_comesRead_5, bX5_comesRead_6, bX5_comesRead_7, bX5_comesRead_8, bX5_comesRead_9, bX5_comesRead_10, bX5_comesRead_100, bX5_comesRead_101, bX5_comesRead_102, bX5_comesRead_103, lX5_comesRead_0, lX5_comesRead_1, lX5_comesRead_2, lX5_comesRead_3, lX5_comesRead_4, lX5_comesRead_5, lX5_comesRead_6, lX5_comesRead_7, lX5_comesRead_8, lX5_comesRead_9, lX5_comesRead_10, lX5_comesRead_100, lX5_comesRead_101, lX5_comesRead_102, lX5_comesRead_103, qX5_comesRead, sh_b, e, h0]
    exact ⟨fun _ => K g hf (fun i i0 i1 => hv i i0 (by omega)), fun z => by omega⟩
  | succ j ih =>
    intro c g hc c0 hf hv
    have e := hf 38 (by omega)
    have e49 := hf 49 (by omega)
    refine sq_at (ms_Ok_m ms_P _) 30 100 ?_
    simp only [sq_c, jp_s, jp_c, rc_0, rc_s, ms_ex, o_iload, o_aload, o_istore, o_astore, o_iinc, o_bin, o_div, o_rem, o_neg, o_and, o_shl, o_shr, o_dup, o_pop, o_dup2, o_if, o_icmp, o_switch, o_sw, o_get, o_put, o_iald, o_iast, o_zald, o_zast, o_aald, o_aast, o_len, ob_s, ob_n, o_call, o_max, o_min, o_copy, o_obj, o_lpush, o_ladd, o_lcmp, o_iret, o_lret, o_vret, i1_c, l1_c, r1_c, st_g0, st_g1, st_g2, st_g3, st_g4, st_g5, st_g6, st_g7, st_g8, st_g9, st_s0, st_s1, st_s2, st_s3, st_s4, st_s5, st_s6, st_s7, st_s8, st_s9, List.length_cons, List.length_nil, List.take_succ_cons, List.take_zero, List.drop_succ_cons, List.drop_zero, List.reverse_cons, List.reverse_nil, List.nil_append, List.cons_append, List.all_cons, List.all_nil, ms_nl, Bool.and_true, Nat.reduceLeDiff, Nat.reduceAdd, Nat.reduceLT, Nat.reduceEqDiff, if_true, if_false, true_and, and_true, ms_rt, List.cons.injEq, exists_eq_left, exists_eq_right, exists_and_left, exists_and_right, ms_one, ite_true, ite_false, reduceIte, imp_self, Nat.zero_add, Nat.add_zero, zero_le_any, Nat.le_refl, Int.zero_add, true_or, or_true, false_implies, Int.reduceLE, Int.reduceLT, Int.reduceNeg, Int.reduceAdd, Int.reduceSub, Int.reduceMul, Int.reduceEq, not_true, not_false_iff, and_self, implies_true, false_and, and_false, or_false, false_or, bX5_comesRead_0, bX5_comesRead_1, bX5_comesRead_2, bX5_comesRead_3, bX5_comesRead_4, bX5_comesRead_5, bX5_comesRead_6, bX5_comesRead_7, bX5_comesRead_8, bX5_comesRead_9, bX5_comesRead_10, bX5_comesRead_100, bX5_comesRead_101, bX5_comesRead_102, bX5_comesRead_103, lX5_comesRead_0, lX5_comesRead_1, lX5_comesRead_2, lX5_comesRead_3, lX5_comesRead_4, lX5_comesRead_5, lX5_comesRead_6, lX5_comesRead_7, lX5_comesRead_8, lX5_comesRead_9, lX5_comesRead_10, lX5_comesRead_100, lX5_comesRead_101, lX5_comesRead_102, lX5_comesRead_103, qX5_comesRead, sh_b, e, h0, hR, ar_40, ar_41, ar_42, ar_49, e49, hs_v]
    refine ⟨fun z => by omega, fun z => ?_⟩
    repeat' first | refine And.intro ?_ ?_ | refine fun (_ : (_ : Int) ≤ _) => ?_ | refine fun (_ : (_ : Int) < _) => ?_ | refine fun (_ : ¬ (_ : Int) = _) => ?_ | refine fun (_ : (_ : Int) = _) => ?_
    all_goals first | omega | exact rg_of (by omega) (by omega) | skip
    refine ih (c + 1) _ (by omega) (by omega) (fun z hz => ?_) (fun i i0 i1 => ?_)
    · rw [← hf z hz]; funext k; rw [hs_v, if_neg (by omega), hs_v, if_neg (by omega), hs_v, if_neg (by omega)]
    · by_cases ic : i = c
      · subst ic
        refine ⟨?_, ?_, ?_⟩
        · rw [hs_v, if_neg (by omega), hs_v, if_neg (by omega), hs_v, if_pos ⟨rfl, rfl⟩]
        · rw [hs_v, if_neg (by omega), hs_v, if_pos ⟨rfl, rfl⟩]
        · rw [hs_v, if_pos ⟨rfl, rfl⟩]
      · have := hv i i0 (by omega)
        refine ⟨?_, ?_, ?_⟩
        · rw [hs_v, if_neg (by omega), hs_v, if_neg (by omega), hs_v, if_neg (by omega)]; exact this.1
        · rw [hs_v, if_neg (by omega), hs_v, if_neg (by omega), hs_v, if_neg (by omega)]; exact this.2.1
        · rw [hs_v, if_neg (by omega), hs_v, if_neg (by omega), hs_v, if_neg (by omega)]; exact this.2.2
theorem m_come1 {d : Nat} {h : ms_H} {Q : ms_Q} {n : Int} (hR : RM h) (hn : 0 ≤ n ∧ n ≤ 6) (h0 : h 38 1 = n) (K : ∀ g : ms_H, (∀ z, z < 43 ∨ 44 < z → g z = h z) → (∀ i, 0 ≤ i → i < n → g 43 i = h 50 (2 * i) ∧ g 44 i = h 50 (2 * i + 1)) → ms_at (ms_Ok ms_P (d)) ms_X1 MX5_comesRead Q 102 [mR 38, mI 0] [] (SH, 0, 0) (g)) : ∀ (j : Nat) (c : Int) (g : ms_H), c + j = n → 0 ≤ c → (∀ z, z < 43 ∨ 44 < z → g z = h z) → (∀ i, 0 ≤ i → i < c → g 43 i = h 50 (2 * i) ∧ g 44 i = h 50 (2 * i + 1)) → ms_at (ms_Ok ms_P (d)) ms_X1 MX5_comesRead Q 101 [mR 38, mI c] [] (SH, 0, 0) (g) := by
  unfold RM at hR
  intro j
  induction j with
  | zero =>
    intro c g hc c0 hf hv
    have e := hf 38 (by omega)
    refine sq_at (ms_Ok_m ms_P _) 30 101 ?_
    simp only [sq_c, jp_s, jp_c, rc_0, rc_s, ms_ex, o_iload, o_aload, o_istore, o_astore, o_iinc, o_bin, o_div, o_rem, o_neg, o_and, o_shl, o_shr, o_dup, o_pop, o_dup2, o_if, o_icmp, o_switch, o_sw, o_get, o_put, o_iald, o_iast, o_zald, o_zast, o_aald, o_aast, o_len, ob_s, ob_n, o_call, o_max, o_min, o_copy, o_obj, o_lpush, o_ladd, o_lcmp, o_iret, o_lret, o_vret, i1_c, l1_c, r1_c, st_g0, st_g1, st_g2, st_g3, st_g4, st_g5, st_g6, st_g7, st_g8, st_g9, st_s0, st_s1, st_s2, st_s3, st_s4, st_s5, st_s6, st_s7, st_s8, st_s9, List.length_cons, List.length_nil, List.take_succ_cons, List.take_zero, List.drop_succ_cons, List.drop_zero, List.reverse_cons, List.reverse_nil, List.nil_append, List.cons_append, List.all_cons, List.all_nil, ms_nl, Bool.and_true, Nat.reduceLeDiff, Nat.reduceAdd, Nat.reduceLT, Nat.reduceEqDiff, if_true, if_false, true_and, and_true, ms_rt, List.cons.injEq, exists_eq_left, exists_eq_right, exists_and_left, exists_and_right, ms_one, ite_true, ite_false, reduceIte, imp_self, Nat.zero_add, Nat.add_zero, zero_le_any, Nat.le_refl, Int.zero_add, true_or, or_true, false_implies, Int.reduceLE, Int.reduceLT, Int.reduceNeg, Int.reduceAdd, Int.reduceSub, Int.reduceMul, Int.reduceEq, not_true, not_false_iff, and_self, implies_true, false_and, and_false, or_false, false_or, bX5_comesRead_0, bX5_comesRead_1, bX5_comesRead_2, bX5_comesRead_3, bX5_comesRead_4, bX5_comesRead_5, bX5_comesRead_6, bX5_comesRead_7, bX5_comesRead_8, bX5_comesRead_9, bX5_comesRead_10, bX5_comesRead_100, bX5_comesRead_101, bX5_comesRead_102, bX5_comesRead_103, lX5_comesRead_0, lX5_comesRead_1, lX5_comesRead_2, lX5_comesRead_3, lX5_comesRead_4, lX5_comesRead_5, lX5_comesRead_6, lX5_comesRead_7, lX5_comesRead_8, lX5_comesRead_9, lX5_comesRead_10, lX5_comesRead_100, lX5_comesRead_101, lX5_comesRead_102, lX5_comesRead_103, qX5_comesRead, sh_b, e, h0]
    exact ⟨fun _ => K g hf (fun i i0 i1 => hv i i0 (by omega)), fun z => by omega⟩
  | succ j ih =>
    intro c g hc c0 hf hv
    have e := hf 38 (by omega)
    have e50 := hf 50 (by omega)
    refine sq_at (ms_Ok_m ms_P _) 30 101 ?_
    simp only [sq_c, jp_s, jp_c, rc_0, rc_s, ms_ex, o_iload, o_aload, o_istore, o_astore, o_iinc, o_bin, o_div, o_rem, o_neg, o_and, o_shl, o_shr, o_dup, o_pop, o_dup2, o_if, o_icmp, o_switch, o_sw, o_get, o_put, o_iald, o_iast, o_zald, o_zast, o_aald, o_aast, o_len, ob_s, ob_n, o_call, o_max, o_min, o_copy, o_obj, o_lpush, o_ladd, o_lcmp, o_iret, o_lret, o_vret, i1_c, l1_c, r1_c, st_g0, st_g1, st_g2, st_g3, st_g4, st_g5, st_g6, st_g7, st_g8, st_g9, st_s0, st_s1, st_s2, st_s3, st_s4, st_s5, st_s6, st_s7, st_s8, st_s9, List.length_cons, List.length_nil, List.take_succ_cons, List.take_zero, List.drop_succ_cons, List.drop_zero, List.reverse_cons, List.reverse_nil, List.nil_append, List.cons_append, List.all_cons, List.all_nil, ms_nl, Bool.and_true, Nat.reduceLeDiff, Nat.reduceAdd, Nat.reduceLT, Nat.reduceEqDiff, if_true, if_false, true_and, and_true, ms_rt, List.cons.injEq, exists_eq_left, exists_eq_right, exists_and_left, exists_and_right, ms_one, ite_true, ite_false, reduceIte, imp_self, Nat.zero_add, Nat.add_zero, zero_le_any, Nat.le_refl, Int.zero_add, true_or, or_true, false_implies, Int.reduceLE, Int.reduceLT, Int.reduceNeg, Int.reduceAdd, Int.reduceSub, Int.reduceMul, Int.reduceEq, not_true, not_false_iff, and_self, implies_true, false_and, and_false, or_false, false_or, bX5_comesRead_0, bX5_comesRead_1, bX5_comesRead_2, bX5_comesRead_3, bX5_comesRead_4, bX5_comesRead_5, bX5_comesRead_6, bX5_comesRead_7, bX5_comesRead_8, bX5_comesRead_9, bX5_comesRead_10, bX5_comesRead_100, bX5_comesRead_101, bX5_comesRead_102, bX5_comesRead_103, lX5_comesRead_0, lX5_comesRead_1, lX5_comesRead_2, lX5_comesRead_3, lX5_comesRead_4, lX5_comesRead_5, lX5_comesRead_6, lX5_comesRead_7, lX5_comesRead_8, lX5_comesRead_9, lX5_comesRead_10, lX5_comesRead_100, lX5_comesRead_101, lX5_comesRead_102, lX5_comesRead_103, qX5_comesRead, sh_b, e, h0, hR, ar_43, ar_44, ar_50, e50, hs_v]
    refine ⟨fun z => by omega, fun z => ?_⟩
    repeat' first | refine And.intro ?_ ?_ | refine fun (_ : (_ : Int) ≤ _) => ?_ | refine fun (_ : (_ : Int) < _) => ?_ | refine fun (_ : ¬ (_ : Int) = _) => ?_ | refine fun (_ : (_ : Int) = _) => ?_
    all_goals first | omega | exact rg_of (by omega) (by omega) | skip
    refine ih (c + 1) _ (by omega) (by omega) (fun z hz => ?_) (fun i i0 i1 => ?_)
    · rw [← hf z hz]; funext k; rw [hs_v, if_neg (by omega), hs_v, if_neg (by omega)]
    · by_cases ic : i = c
      · subst ic
        refine ⟨?_, ?_⟩
        · rw [hs_v, if_neg (by omega), hs_v, if_pos ⟨rfl, rfl⟩]
        · rw [hs_v, if_pos ⟨rfl, rfl⟩]
      · have := hv i i0 (by omega)
        refine ⟨?_, ?_⟩
        · rw [hs_v, if_neg (by omega), hs_v, if_neg (by omega)]; exact this.1
        · rw [hs_v, if_neg (by omega), hs_v, if_neg (by omega)]; exact this.2
theorem m_come2 {d : Nat} {h : ms_H} {Q : ms_Q} {n : Int} (hR : RM h) (hn : 0 ≤ n ∧ n ≤ 8) (h0 : h 38 2 = n) (K : ∀ g : ms_H, (∀ z, z ≠ 45 → z ≠ 38 → g z = h z) → (∀ k, k ≠ 11 → k ≠ 12 → g 38 k = h 38 k) → g 38 11 = 0 → g 38 12 = 0 → (∀ i, 0 ≤ i → i < n → g 45 i = h 51 i) → ms_at (ms_Ok ms_P (d)) ms_X1 MX5_comesRead Q 103 [mR 38, mI 0] [] (SH, 0, 0) (g)) : ∀ (j : Nat) (c : Int) (g : ms_H), c + j = n → 0 ≤ c → (∀ z, z ≠ 45 → g z = h z) → (∀ i, 0 ≤ i → i < c → g 45 i = h 51 i) → ms_at (ms_Ok ms_P (d)) ms_X1 MX5_comesRead Q 102 [mR 38, mI c] [] (SH, 0, 0) (g) := by
  unfold RM at hR
  intro j
  induction j with
  | zero =>
    intro c g hc c0 hf hv
    have e := hf 38 (by omega)
    refine sq_at (ms_Ok_m ms_P _) 30 102 ?_
    simp only [sq_c, jp_s, jp_c, rc_0, rc_s, ms_ex, o_iload, o_aload, o_istore, o_astore, o_iinc, o_bin, o_div, o_rem, o_neg, o_and, o_shl, o_shr, o_dup, o_pop, o_dup2, o_if, o_icmp, o_switch, o_sw, o_get, o_put, o_iald, o_iast, o_zald, o_zast, o_aald, o_aast, o_len, ob_s, ob_n, o_call, o_max, o_min, o_copy, o_obj, o_lpush, o_ladd, o_lcmp, o_iret, o_lret, o_vret, i1_c, l1_c, r1_c, st_g0, st_g1, st_g2, st_g3, st_g4, st_g5, st_g6, st_g7, st_g8, st_g9, st_s0, st_s1, st_s2, st_s3, st_s4, st_s5, st_s6, st_s7, st_s8, st_s9, List.length_cons, List.length_nil, List.take_succ_cons, List.take_zero, List.drop_succ_cons, List.drop_zero, List.reverse_cons, List.reverse_nil, List.nil_append, List.cons_append, List.all_cons, List.all_nil, ms_nl, Bool.and_true, Nat.reduceLeDiff, Nat.reduceAdd, Nat.reduceLT, Nat.reduceEqDiff, if_true, if_false, true_and, and_true, ms_rt, List.cons.injEq, exists_eq_left, exists_eq_right, exists_and_left, exists_and_right, ms_one, ite_true, ite_false, reduceIte, imp_self, Nat.zero_add, Nat.add_zero, zero_le_any, Nat.le_refl, Int.zero_add, true_or, or_true, false_implies, Int.reduceLE, Int.reduceLT, Int.reduceNeg, Int.reduceAdd, Int.reduceSub, Int.reduceMul, Int.reduceEq, not_true, not_false_iff, and_self, implies_true, false_and, and_false, or_false, false_or, bX5_comesRead_0, bX5_comesRead_1, bX5_comesRead_2, bX5_comesRead_3, bX5_comesRead_4, bX5_comesRead_5, bX5_comesRead_6, bX5_comesRead_7, bX5_comesRead_8, bX5_comesRead_9, bX5_comesRead_10, bX5_comesRead_100, bX5_comesRead_101, bX5_comesRead_102, bX5_comesRead_103, lX5_comesRead_0, lX5_comesRead_1, lX5_comesRead_2, lX5_comesRead_3, lX5_comesRead_4, lX5_comesRead_5, lX5_comesRead_6, lX5_comesRead_7, lX5_comesRead_8, lX5_comesRead_9, lX5_comesRead_10, lX5_comesRead_100, lX5_comesRead_101, lX5_comesRead_102, lX5_comesRead_103, qX5_comesRead, sh_b, e, h0]
    refine ⟨fun _ => K _ (fun z z1 z2 => ?_) (fun k k1 k2 => ?_) ?_ ?_ (fun i i0 i1 => ?_), fun z => by omega⟩
    · rw [← hf z z1]; funext k; rw [hs_v, if_neg (by omega), hs_v, if_neg (by omega)]
    · rw [hs_v, if_neg (by omega), hs_v, if_neg (by omega), e]
    · rw [hs_v, if_neg (by omega), hs_v, if_pos ⟨rfl, rfl⟩]
    · rw [hs_v, if_pos ⟨rfl, rfl⟩]
    · rw [hs_v, if_neg (by omega), hs_v, if_neg (by omega)]; exact hv i i0 (by omega)
  | succ j ih =>
    intro c g hc c0 hf hv
    have e := hf 38 (by omega)
    have e51 := hf 51 (by omega)
    refine sq_at (ms_Ok_m ms_P _) 30 102 ?_
    simp only [sq_c, jp_s, jp_c, rc_0, rc_s, ms_ex, o_iload, o_aload, o_istore, o_astore, o_iinc, o_bin, o_div, o_rem, o_neg, o_and, o_shl, o_shr, o_dup, o_pop, o_dup2, o_if, o_icmp, o_switch, o_sw, o_get, o_put, o_iald, o_iast, o_zald, o_zast, o_aald, o_aast, o_len, ob_s, ob_n, o_call, o_max, o_min, o_copy, o_obj, o_lpush, o_ladd, o_lcmp, o_iret, o_lret, o_vret, i1_c, l1_c, r1_c, st_g0, st_g1, st_g2, st_g3, st_g4, st_g5, st_g6, st_g7, st_g8, st_g9, st_s0, st_s1, st_s2, st_s3, st_s4, st_s5, st_s6, st_s7, st_s8, st_s9, List.length_cons, List.length_nil, List.take_succ_cons, List.take_zero, List.drop_succ_cons, List.drop_zero, List.reverse_cons, List.reverse_nil, List.nil_append, List.cons_append, List.all_cons, List.all_nil, ms_nl, Bool.and_true, Nat.reduceLeDiff, Nat.reduceAdd, Nat.reduceLT, Nat.reduceEqDiff, if_true, if_false, true_and, and_true, ms_rt, List.cons.injEq, exists_eq_left, exists_eq_right, exists_and_left, exists_and_right, ms_one, ite_true, ite_false, reduceIte, imp_self, Nat.zero_add, Nat.add_zero, zero_le_any, Nat.le_refl, Int.zero_add, true_or, or_true, false_implies, Int.reduceLE, Int.reduceLT, Int.reduceNeg, Int.reduceAdd, Int.reduceSub, Int.reduceMul, Int.reduceEq, not_true, not_false_iff, and_self, implies_true, false_and, and_false, or_false, false_or, bX5_comesRead_0, bX5_comesRead_1, bX5_comesRead_2, bX5_comesRead_3, bX5_comesRead_4, bX5_comesRead_5, bX5_comesRead_6, bX5_comesRead_7, bX5_comesRead_8, bX5_comesRead_9, bX5_comesRead_10, bX5_comesRead_100, bX5_comesRead_101, bX5_comesRead_102, bX5_comesRead_103, lX5_comesRead_0, lX5_comesRead_1, lX5_comesRead_2, lX5_comesRead_3, lX5_comesRead_4, lX5_comesRead_5, lX5_comesRead_6, lX5_comesRead_7, lX5_comesRead_8, lX5_comesRead_9, lX5_comesRead_10, lX5_comesRead_100, lX5_comesRead_101, lX5_comesRead_102, lX5_comesRead_103, qX5_comesRead, sh_b, e, h0, hR, ar_45, ar_51, e51, hs_v]
    refine ⟨fun z => by omega, fun z => ?_⟩
    repeat' first | refine And.intro ?_ ?_ | refine fun (_ : (_ : Int) ≤ _) => ?_ | refine fun (_ : (_ : Int) < _) => ?_ | refine fun (_ : ¬ (_ : Int) = _) => ?_ | refine fun (_ : (_ : Int) = _) => ?_
    all_goals first | omega | exact rg_of (by omega) (by omega) | skip
    refine ih (c + 1) _ (by omega) (by omega) (fun z hz => ?_) (fun i i0 i1 => ?_)
    · rw [← hf z hz]; funext k; rw [hs_v, if_neg (by omega)]
    · rw [hs_v]
      split
      · rename_i ic; rw [ic.2]
      · exact hv i i0 (by omega)
theorem m_come3 {d : Nat} {h : ms_H} {Q : ms_Q} (hR : RM h) (K : ∀ g : ms_H, (∀ z, z ≠ 46 → z ≠ 38 → z ≠ 57 → g z = h z) → (∀ k, k ≠ 14 → k ≠ 32 → g 38 k = h 38 k) → g 38 14 = 0 → g 38 32 = 0 → g 57 0 = 0 → g 57 112 = 0 → (∀ i, 0 ≤ i → i < 8 → g 46 i = 0) → Q none SH g) : ∀ (j : Nat) (c : Int) (g : ms_H), c + j = 8 → 0 ≤ c → (∀ z, z ≠ 46 → g z = h z) → (∀ i, 0 ≤ i → i < c → g 46 i = 0) → ms_at (ms_Ok ms_P (d)) ms_X1 MX5_comesRead Q 103 [mR 38, mI c] [] (SH, 0, 0) (g) := by
  unfold RM at hR
  intro j
  induction j with
  | zero =>
    intro c g hc c0 hf hv
    have e := hf 38 (by omega)
    refine sq_at (ms_Ok_m ms_P _) 30 103 ?_
    simp only [sq_c, jp_s, jp_c, rc_0, rc_s, ms_ex, o_iload, o_aload, o_istore, o_astore, o_iinc, o_bin, o_div, o_rem, o_neg, o_and, o_shl, o_shr, o_dup, o_pop, o_dup2, o_if, o_icmp, o_switch, o_sw, o_get, o_put, o_iald, o_iast, o_zald, o_zast, o_aald, o_aast, o_len, ob_s, ob_n, o_call, o_max, o_min, o_copy, o_obj, o_lpush, o_ladd, o_lcmp, o_iret, o_lret, o_vret, i1_c, l1_c, r1_c, st_g0, st_g1, st_g2, st_g3, st_g4, st_g5, st_g6, st_g7, st_g8, st_g9, st_s0, st_s1, st_s2, st_s3, st_s4, st_s5, st_s6, st_s7, st_s8, st_s9, List.length_cons, List.length_nil, List.take_succ_cons, List.take_zero, List.drop_succ_cons, List.drop_zero, List.reverse_cons, List.reverse_nil, List.nil_append, List.cons_append, List.all_cons, List.all_nil, ms_nl, Bool.and_true, Nat.reduceLeDiff, Nat.reduceAdd, Nat.reduceLT, Nat.reduceEqDiff, if_true, if_false, true_and, and_true, ms_rt, List.cons.injEq, exists_eq_left, exists_eq_right, exists_and_left, exists_and_right, ms_one, ite_true, ite_false, reduceIte, imp_self, Nat.zero_add, Nat.add_zero, zero_le_any, Nat.le_refl, Int.zero_add, true_or, or_true, false_implies, Int.reduceLE, Int.reduceLT, Int.reduceNeg, Int.reduceAdd, Int.reduceSub, Int.reduceMul, Int.reduceEq, not_true, not_false_iff, and_self, implies_true, false_and, and_false, or_false, false_or, bX5_comesRead_0, bX5_comesRead_1, bX5_comesRead_2, bX5_comesRead_3, bX5_comesRead_4, bX5_comesRead_5, bX5_comesRead_6, bX5_comesRead_7, bX5_comesRead_8, bX5_comesRead_9, bX5_comesRead_10, bX5_comesRead_100, bX5_comesRead_101, bX5_comesRead_102, bX5_comesRead_103, lX5_comesRead_0, lX5_comesRead_1, lX5_comesRead_2, lX5_comesRead_3, lX5_comesRead_4, lX5_comesRead_5, lX5_comesRead_6, lX5_comesRead_7, lX5_comesRead_8, lX5_comesRead_9, lX5_comesRead_10, lX5_comesRead_100, lX5_comesRead_101, lX5_comesRead_102, lX5_comesRead_103, qX5_comesRead, sh_b, e, hR, ar_57, hs_v]
    refine ⟨fun _ => K _ (fun z z1 z2 z3 => ?_) (fun k k1 k2 => ?_) ?_ ?_ ?_ ?_ (fun i i0 i1 => ?_), fun z => by omega⟩
    · rw [← hf z z1]; funext k; rw [hs_v, if_neg (by omega), hs_v, if_neg (by omega), hs_v, if_neg (by omega), hs_v, if_neg (by omega)]
    · rw [hs_v, if_neg (by omega), hs_v, if_neg (by omega), hs_v, if_neg (by omega), hs_v, if_neg (by omega), e]
    · rw [hs_v, if_neg (by omega), hs_v, if_neg (by omega), hs_v, if_neg (by omega), hs_v, if_pos ⟨rfl, rfl⟩]
    · rw [hs_v, if_neg (by omega), hs_v, if_neg (by omega), hs_v, if_pos ⟨rfl, rfl⟩]
    · rw [hs_v, if_neg (by omega), hs_v, if_pos ⟨rfl, rfl⟩]
    · rw [hs_v, if_pos ⟨rfl, rfl⟩]
    · rw [hs_v, if_neg (by omega), hs_v, if_neg (by omega), hs_v, if_neg (by omega), hs_v, if_neg (by omega)]; exact hv i i0 (by omega)
  | succ j ih =>
    intro c g hc c0 hf hv
    have e := hf 38 (by omega)
    refine sq_at (ms_Ok_m ms_P _) 30 103 ?_
    simp only [sq_c, jp_s, jp_c, rc_0, rc_s, ms_ex, o_iload, o_aload, o_istore, o_astore, o_iinc, o_bin, o_div, o_rem, o_neg, o_and, o_shl, o_shr, o_dup, o_pop, o_dup2, o_if, o_icmp, o_switch, o_sw, o_get, o_put, o_iald, o_iast, o_zald, o_zast, o_aald, o_aast, o_len, ob_s, ob_n, o_call, o_max, o_min, o_copy, o_obj, o_lpush, o_ladd, o_lcmp, o_iret, o_lret, o_vret, i1_c, l1_c, r1_c, st_g0, st_g1, st_g2, st_g3, st_g4, st_g5, st_g6, st_g7, st_g8, st_g9, st_s0, st_s1, st_s2, st_s3, st_s4, st_s5, st_s6, st_s7, st_s8, st_s9, List.length_cons, List.length_nil, List.take_succ_cons, List.take_zero, List.drop_succ_cons, List.drop_zero, List.reverse_cons, List.reverse_nil, List.nil_append, List.cons_append, List.all_cons, List.all_nil, ms_nl, Bool.and_true, Nat.reduceLeDiff, Nat.reduceAdd, Nat.reduceLT, Nat.reduceEqDiff, if_true, if_false, true_and, and_true, ms_rt, List.cons.injEq, exists_eq_left, exists_eq_right, exists_and_left, exists_and_right, ms_one, ite_true, ite_false, reduceIte, imp_self, Nat.zero_add, Nat.add_zero, zero_le_any, Nat.le_refl, Int.zero_add, true_or, or_true, false_implies, Int.reduceLE, Int.reduceLT, Int.reduceNeg, Int.reduceAdd, Int.reduceSub, Int.reduceMul, Int.reduceEq, not_true, not_false_iff, and_self, implies_true, false_and, and_false, or_false, false_or, bX5_comesRead_0, bX5_comesRead_1, bX5_comesRead_2, bX5_comesRead_3, bX5_comesRead_4, bX5_comesRead_5, bX5_comesRead_6, bX5_comesRead_7, bX5_comesRead_8, bX5_comesRead_9, bX5_comesRead_10, bX5_comesRead_100, bX5_comesRead_101, bX5_comesRead_102, bX5_comesRead_103, lX5_comesRead_0, lX5_comesRead_1, lX5_comesRead_2, lX5_comesRead_3, lX5_comesRead_4, lX5_comesRead_5, lX5_comesRead_6, lX5_comesRead_7, lX5_comesRead_8, lX5_comesRead_9, lX5_comesRead_10, lX5_comesRead_100, lX5_comesRead_101, lX5_comesRead_102, lX5_comesRead_103, qX5_comesRead, sh_b, e, hR, ar_46]
    refine ⟨fun z => by omega, fun z => ?_⟩
    repeat' first | refine And.intro ?_ ?_ | refine fun (_ : (_ : Int) ≤ _) => ?_ | refine fun (_ : (_ : Int) < _) => ?_ | refine fun (_ : ¬ (_ : Int) = _) => ?_ | refine fun (_ : (_ : Int) = _) => ?_
    all_goals first | omega | exact rg_of (by omega) (by omega) | skip
    refine ih (c + 1) _ (by omega) (by omega) (fun z hz => ?_) (fun i i0 i1 => ?_)
    · rw [← hf z hz]; funext k; rw [hs_v, if_neg (by omega)]
    · rw [hs_v]
      split
      · rfl
      · exact hv i i0 (by omega)
/-- f: read; g: it has come to be -/
def MO (f g : ms_H) (S : S5) : Prop := (∀ z, z < 38 ∨ (47 ≤ z ∧ z ≠ 57) → g z = f z) ∧ (∀ k, 4 ≤ k → k ≠ 11 → k ≠ 12 → k ≠ 14 → k ≠ 32 → g 38 k = f 38 k) ∧ (g 38 0 = S.1.length ∧ g 38 1 = S.2.1.length ∧ g 38 2 = S.2.2.1.length ∧ g 38 3 = (if S.2.2.2.1 = 0 then 2 else S.2.2.2.1)) ∧ (g 39 0 = (S.2.2.2.2.getD (0, 3)).1 ∧ g 39 1 = (S.2.2.2.2.getD (0, 3)).2) ∧ (LC (g 40) (g 41) (g 42) S.1 ∧ LV (g 43) (g 44) S.2.1 ∧ LD (g 45) S.2.2.1) ∧ (g 38 11 = 0 ∧ g 38 12 = 0 ∧ g 38 14 = 0 ∧ g 38 32 = 0) ∧ (∀ i, 0 ≤ i → i < 8 → g 46 i = 0) ∧ g 57 0 = 0 ∧ g 57 112 = 0
theorem m_come_t {d : Nat} {h f : ms_H} {Q : ms_Q} {S : S5} (hR : RM h) (hw : MD f S) (hl : S.1.length ≤ 8 ∧ S.2.1.length ≤ 6 ∧ S.2.2.1.length ≤ 8) (e0 : ∀ z, z ≠ 38 → z ≠ 39 → h z = f z) (e1 : ∀ k, 4 ≤ k → h 38 k = f 38 k) (e2 : h 38 0 = S.1.length ∧ h 38 1 = S.2.1.length ∧ h 38 2 = S.2.2.1.length ∧ h 38 3 = (if S.2.2.2.1 = 0 then 2 else S.2.2.2.1)) (e3 : h 39 0 = (S.2.2.2.2.getD (0, 3)).1 ∧ h 39 1 = (S.2.2.2.2.getD (0, 3)).2) (q : ∀ g, MO f g S → Q none SH g) : ms_at (ms_Ok ms_P (d)) ms_X1 MX5_comesRead Q 100 [mR 38, mI 0] [] (SH, 0, 0) (h) := by
  have e49 := e0 49 (by omega) (by omega)
  have e50 := e0 50 (by omega) (by omega)
  have e51 := e0 51 (by omega) (by omega)
  refine m_come0 (n := S.1.length) hR (by omega) e2.1 (fun g1 a1 v1 => ?_) S.1.length 0 h (by omega) (by omega) (fun _ _ => rfl) (fun i i0 i1 => by omega)
  have a38 := a1 38 (by omega)
  refine m_come1 (n := S.2.1.length) (RM_e hR (fun k _ => by rw [a38])) (by omega) (by rw [a38]; exact e2.2.1) (fun g2 a2 v2 => ?_) S.2.1.length 0 g1 (by omega) (by omega) (fun _ _ => rfl) (fun i i0 i1 => by omega)
  have b38 : g2 38 = h 38 := by rw [a2 38 (by omega), a38]
  refine m_come2 (n := S.2.2.1.length) (RM_e hR (fun k _ => by rw [b38])) (by omega) (by rw [b38]; exact e2.2.2.1) (fun g3 a3 c3 z11 z12 v3 => ?_) S.2.2.1.length 0 g2 (by omega) (by omega) (fun _ _ => rfl) (fun i i0 i1 => by omega)
  have c38 : ∀ k, k ≠ 11 → k ≠ 12 → g3 38 k = h 38 k := fun k k1 k2 => by rw [c3 k k1 k2, b38]
  refine m_come3 (RM_e hR (fun k hk => c38 k (by omega) (by omega))) (fun g4 a4 c4 z14 z32 y0 y1 v4 => ?_) 8 0 g3 (by omega) (by omega) (fun _ _ => rfl) (fun i i0 i1 => by omega)
  have d38 : ∀ k, k ≠ 11 → k ≠ 12 → k ≠ 14 → k ≠ 32 → g4 38 k = h 38 k := fun k k1 k2 k3 k4 => by rw [c4 k k3 k4, c38 k k1 k2]
  obtain ⟨-, -, -, w7, w8, w9⟩ := hw
  refine q g4 ⟨fun z hz => ?_, fun k k0 k1 k2 k3 k4 => ?_, ⟨?_, ?_, ?_, ?_⟩, ⟨?_, ?_⟩, ⟨?_, ?_, ?_⟩, ⟨?_, ?_, z14, z32⟩, v4, y0, y1⟩
  · rw [a4 z (by omega) (by omega) (by omega), a3 z (by omega) (by omega), a2 z (by omega), a1 z (by omega), e0 z (by omega) (by omega)]
  · rw [d38 k k1 k2 k3 k4, e1 k k0]
  · rw [d38 0 (by omega) (by omega) (by omega) (by omega)]; exact e2.1
  · rw [d38 1 (by omega) (by omega) (by omega) (by omega)]; exact e2.2.1
  · rw [d38 2 (by omega) (by omega) (by omega) (by omega)]; exact e2.2.2.1
  · rw [d38 3 (by omega) (by omega) (by omega) (by omega)]; exact e2.2.2.2
  · rw [a4 39 (by omega) (by omega) (by omega), a3 39 (by omega) (by omega), a2 39 (by omega), a1 39 (by omega)]; exact e3.1
  · rw [a4 39 (by omega) (by omega) (by omega), a3 39 (by omega) (by omega), a2 39 (by omega), a1 39 (by omega)]; exact e3.2
  · refine LC_c S.1 (fun i i0 i1 => ?_) w7
    have := v1 i i0 i1
    rw [a4 40 (by omega) (by omega) (by omega), a3 40 (by omega) (by omega), a2 40 (by omega), a4 41 (by omega) (by omega) (by omega), a3 41 (by omega) (by omega), a2 41 (by omega), a4 42 (by omega) (by omega) (by omega), a3 42 (by omega) (by omega), a2 42 (by omega), ← e49]
    exact this
  · refine LV_c S.2.1 (fun i i0 i1 => ?_) w8
    have := v2 i i0 i1
    rw [a4 43 (by omega) (by omega) (by omega), a3 43 (by omega) (by omega), a4 44 (by omega) (by omega) (by omega), a3 44 (by omega) (by omega), ← e50, ← a1 50 (by omega)]
    exact this
  · refine LD_c S.2.2.1 (fun i i0 i1 => ?_) w9
    have := v3 i i0 i1
    rw [a4 45 (by omega) (by omega) (by omega), ← e51, ← a1 51 (by omega), ← a2 51 (by omega)]
    exact this
  · rw [c4 11 (by omega) (by omega)]; exact z11
  · rw [c4 12 (by omega) (by omega)]; exact z12
set_option maxRecDepth 50000 in
theorem m_comesRead {d : Nat} {f : ms_H} {Q : ms_Q} {S : S5} (hR : RM f) (hw : MD f S) (hl : S.1.length ≤ 8 ∧ S.2.1.length ≤ 6 ∧ S.2.2.1.length ≤ 8) (q : ∀ g, MO f g S → Q none SH g) : ms_Ok ms_P (d + 1) 109 [mR 38] SH (f) Q := by
  refine ok_in (k := 30) MX5_comesRead rfl rfl ?_
  show sq (ms_Ok ms_P (d)) ms_X1 MX5_comesRead Q 30 (M_bl MX5_comesRead 0) [mR 38, mL 0] [] (SH, 0, 0) (f)
  have hR' := hR
  unfold RM at hR'
  have fin : ∀ h : ms_H, (∀ z, z ≠ 38 → z ≠ 39 → h z = f z) → (∀ k, 4 ≤ k → h 38 k = f 38 k) → (h 38 0 = f 38 20 ∧ h 38 1 = f 38 21 ∧ h 38 2 = f 38 22 ∧ h 38 3 = (if S.2.2.2.1 = 0 then 2 else S.2.2.2.1)) → (h 39 0 = (S.2.2.2.2.getD (0, 3)).1 ∧ h 39 1 = (S.2.2.2.2.getD (0, 3)).2) → ms_at (ms_Ok ms_P (d)) ms_X1 MX5_comesRead Q 100 [mR 38, mI 0] [] (SH, 0, 0) (h) := fun h e0 e1 e2 e3 => by
    rw [hw.1.1, hw.1.2.1, hw.1.2.2] at e2
    exact m_come_t (RM_e hR (fun k hk => e1 k (by omega))) hw hl e0 e1 e2 e3 q
  have w23 := hw.2.1
  have w24 := hw.2.2.1.1
  have w52 := hw.2.2.1.2
  simp only [sq_c, jp_s, jp_c, rc_0, rc_s, ms_ex, o_iload, o_aload, o_istore, o_astore, o_iinc, o_bin, o_div, o_rem, o_neg, o_and, o_shl, o_shr, o_dup, o_pop, o_dup2, o_if, o_icmp, o_switch, o_sw, o_get, put_s, put_3, put_1, put_2, o_iald, iast_s, o_zald, o_zast, o_aald, o_aast, o_len, ob_s, ob_n, o_call, o_max, o_min, cpy_s, o_obj, o_lpush, o_ladd, o_lcmp, o_iret, o_lret, o_vret, i1_c, l1_c, r1_c, st_g0, st_g1, st_g2, st_g3, st_g4, st_g5, st_g6, st_g7, st_g8, st_g9, st_s0, st_s1, st_s2, st_s3, st_s4, st_s5, st_s6, st_s7, st_s8, st_s9, List.length_cons, List.length_nil, List.take_succ_cons, List.take_zero, List.drop_succ_cons, List.drop_zero, List.reverse_cons, List.reverse_nil, List.nil_append, List.cons_append, List.all_cons, List.all_nil, ms_nl, Bool.and_true, Nat.reduceLeDiff, Nat.reduceAdd, Nat.reduceLT, Nat.reduceEqDiff, if_true, if_false, true_and, and_true, ms_rt, List.cons.injEq, exists_eq_left, exists_eq_right, exists_and_left, exists_and_right, ms_one, ite_true, ite_false, reduceIte, imp_self, Nat.zero_add, Nat.add_zero, zero_le_any, Nat.le_refl, Int.zero_add, true_or, or_true, false_implies, Int.reduceLE, Int.reduceLT, Int.reduceNeg, Int.reduceAdd, Int.reduceSub, Int.reduceMul, Int.reduceEq, not_true, not_false_iff, and_self, implies_true, false_and, and_false, or_false, false_or, bX5_comesRead_0, bX5_comesRead_1, bX5_comesRead_2, bX5_comesRead_3, bX5_comesRead_4, bX5_comesRead_5, bX5_comesRead_6, bX5_comesRead_7, bX5_comesRead_8, bX5_comesRead_9, bX5_comesRead_10, bX5_comesRead_100, bX5_comesRead_101, bX5_comesRead_102, bX5_comesRead_103, lX5_comesRead_0, lX5_comesRead_1, lX5_comesRead_2, lX5_comesRead_3, lX5_comesRead_4, lX5_comesRead_5, lX5_comesRead_6, lX5_comesRead_7, lX5_comesRead_8, lX5_comesRead_9, lX5_comesRead_10, lX5_comesRead_100, lX5_comesRead_101, lX5_comesRead_102, lX5_comesRead_103, qX5_comesRead, sh_b]
  intro h1 e1 h2 e2 h3 e3
  have t38 : ∀ k, 3 ≤ k → h3 38 k = f 38 k := fun k hk => by rw [e3, hs_v, if_neg (by omega), e2, hs_v, if_neg (by omega), e1, hs_v, if_neg (by omega)]
  have tz : ∀ z, z ≠ 38 → h3 z = f z := fun z hz => by rw [e3, e2, e1]; funext k; rw [hs_v, if_neg (by omega), hs_v, if_neg (by omega), hs_v, if_neg (by omega)]
  have t2 : h3 38 2 = f 38 22 := by rw [e3, hs_v, if_pos ⟨rfl, rfl⟩, e2, hs_v, if_neg (by omega), e1, hs_v, if_neg (by omega)]
  have t1 : h3 38 1 = f 38 21 := by rw [e3, hs_v, if_neg (by omega), e2, hs_v, if_pos ⟨rfl, rfl⟩, e1, hs_v, if_neg (by omega)]
  have t0 : h3 38 0 = f 38 20 := by rw [e3, hs_v, if_neg (by omega), e2, hs_v, if_neg (by omega), e1, hs_v, if_pos ⟨rfl, rfl⟩]
  have r4 : f 38 4 = 39 := hR'.1
  have r29 : f 38 29 = 52 := by omega
  rw [t38 23 (by omega), w23]
  refine ⟨fun z3 h4 e4 => ?_, fun z3 h4 e4 => ?_⟩
  all_goals
    have v3 : h4 38 3 = (if S.2.2.2.1 = 0 then 2 else S.2.2.2.1) := by
      rw [e4, hs_v, if_pos ⟨rfl, rfl⟩]
      split
      · first | rfl | contradiction
      · first | rfl | contradiction
    have o38 : ∀ k, 4 ≤ k → h4 38 k = f 38 k := fun k hk => by rw [e4, hs_v, if_neg (by omega)]; exact t38 k (by omega)
    have oz : ∀ z, z ≠ 38 → h4 z = f z := fun z hz => by rw [← tz z hz, e4]; funext k; rw [hs_v, if_neg (by omega)]
    have u0 : h4 38 0 = f 38 20 ∧ h4 38 1 = f 38 21 ∧ h4 38 2 = f 38 22 ∧ h4 38 3 = (if S.2.2.2.1 = 0 then 2 else S.2.2.2.1) := by
      refine ⟨?_, ?_, ?_, v3⟩
      · rw [e4, hs_v, if_neg (by omega)]; exact t0
      · rw [e4, hs_v, if_neg (by omega)]; exact t1
      · rw [e4, hs_v, if_neg (by omega)]; exact t2
    by_cases ch : S.2.2.2.2 = none
    · rw [if_pos ch] at w24
      simp only [o38 4 (by decide), o38 24 (by decide), o38 29 (by decide), r4, r29, w24, not_true, not_false_eq_true, false_implies, true_implies, true_and, and_true, Int.reduceLE, Int.reduceLT, Int.reduceEq, ar_39, ar_52]
      intro h5 e5
      have p38 : ∀ k, h5 38 k = h4 38 k := fun k => by rw [e5, hs_v, if_neg (by omega)]
      simp only [p38, o38 4 (by decide), o38 24 (by decide), o38 29 (by decide), r4, r29, w24, not_true, not_false_eq_true, false_implies, true_implies, true_and, and_true, Int.reduceLE, Int.reduceLT, Int.reduceEq, ar_39, ar_52]
      intro h6 e6
      have q38 : ∀ k, h6 38 k = h4 38 k := fun k => by rw [e6, hs_v, if_neg (by omega)]; exact p38 k
      refine fin h6 (fun z z1 z2 => ?_) (fun k hk => by rw [q38, o38 k hk]) (by rw [q38, q38, q38, q38]; exact u0) ⟨?_, ?_⟩
      · rw [← oz z z1, e6, e5]; funext k; rw [hs_v, if_neg (by omega), hs_v, if_neg (by omega)]
      · rw [e6, hs_v, if_neg (by omega), e5, hs_v, if_pos ⟨rfl, rfl⟩, ch]; rfl
      · rw [e6, hs_v, if_pos ⟨rfl, rfl⟩, ch]; rfl
    · rw [if_neg ch] at w24
      obtain ⟨x, hx⟩ := Option.ne_none_iff_exists'.mp ch
      have w := w52 x hx
      simp only [o38 4 (by decide), o38 24 (by decide), o38 29 (by decide), r4, r29, w24, not_true, not_false_eq_true, false_implies, true_implies, true_and, and_true, Int.reduceLE, Int.reduceLT, Int.reduceEq, ar_39, ar_52]
      intro h5 e5
      have p38 : ∀ k, h5 38 k = h4 38 k := fun k => by rw [e5, hs_v, if_neg (by omega)]
      simp only [p38, o38 4 (by decide), o38 24 (by decide), o38 29 (by decide), r4, r29, w24, not_true, not_false_eq_true, false_implies, true_implies, true_and, and_true, Int.reduceLE, Int.reduceLT, Int.reduceEq, ar_39, ar_52]
      intro h6 e6
      have q38 : ∀ k, h6 38 k = h4 38 k := fun k => by rw [e6, hs_v, if_neg (by omega)]; exact p38 k
      refine fin h6 (fun z z1 z2 => ?_) (fun k hk => by rw [q38, o38 k hk]) (by rw [q38, q38, q38, q38]; exact u0) ⟨?_, ?_⟩
      · rw [← oz z z1, e6, e5]; funext k; rw [hs_v, if_neg (by omega), hs_v, if_neg (by omega)]
      · rw [e6, hs_v, if_neg (by omega), e5, hs_v, if_pos ⟨rfl, rfl⟩, oz 52 (by omega), w.1, hx]; rfl
      · rw [e6, hs_v, if_pos ⟨rfl, rfl⟩, e5, hs_v, if_neg (by omega), oz 52 (by omega), w.2, hx]; rfl
def okS (S : S5) : Prop := (S.1.length ≤ 8 ∧ S.2.1.length ≤ 6 ∧ S.2.2.1.length ≤ 8) ∧ (∀ x ∈ S.1, (0 ≤ x.1 ∧ x.1 ≤ 9) ∧ (0 ≤ x.2.1 ∧ x.2.1 ≤ 9) ∧ (0 ≤ x.2.2 ∧ x.2.2 ≤ 9)) ∧ (∀ x ∈ S.2.1, (1 ≤ x.1 ∧ x.1 ≤ 9) ∧ (0 ≤ x.2 ∧ x.2 ≤ 1)) ∧ (∀ x ∈ S.2.2.1, 0 ≤ x ∧ x ≤ 30) ∧ (0 ≤ S.2.2.2.1 ∧ S.2.2.2.1 ≤ 6) ∧ (∀ x, S.2.2.2.2 = some x → (0 ≤ x.1 ∧ x.1 ≤ 9) ∧ (0 ≤ x.2 ∧ x.2 ≤ 9))
theorem okS_0 : okS S0 := ⟨⟨Nat.zero_le _, Nat.zero_le _, Nat.zero_le _⟩, fun x hx => (by cases hx), fun x hx => (by cases hx), fun x hx => (by cases hx), ⟨Int.le_refl 0, by decide⟩, fun x hx => (by cases hx)⟩
theorem bnd_x {α β : Type} {x : Int × Option α} {f : Int → α → Int × Option β} {j : Int} {b : β} (h : bnd x f = (j, some b)) : ∃ i a, x = (i, some a) ∧ f i a = (j, some b) := by
  obtain ⟨i, a⟩ := x
  cases a with
  | none => cases h
  | some a => exact ⟨i, a, rfl, h⟩
theorem okS_I {g : Int → Int} {n j k : Int} {S S' : S5} (hs : okS S) (he : rI g n j S = (k, some S')) : okS S' := by
  obtain ⟨⟨l1, l2, l3⟩, o1, o2, o3, o4, o5⟩ := hs
  unfold rI at he
  split at he
  · cases he
  split at he
  · split at he
    · rename_i r
      obtain ⟨i1, a, e1, he⟩ := bnd_x he
      obtain ⟨i2, b, e2, he⟩ := bnd_x he
      obtain ⟨i3, c, e3, he⟩ := bnd_x he
      obtain ⟨i4, u, e4, he⟩ := bnd_x he
      cases he
      refine ⟨⟨by show S.1.length + 1 ≤ 8; omega, l2, l3⟩, fun x hx => ?_, o2, o3, o4, o5⟩
      rcases List.mem_cons.mp hx with rfl | hx
      · exact ⟨rN_v e1, rN_v e2, rN_v e3⟩
      · exact o1 x hx
    · cases he
  split at he
  · split at he
    · obtain ⟨i1, a, e1, he⟩ := bnd_x he
      obtain ⟨i4, u, e4, he⟩ := bnd_x he
      cases he
      have := rN_v e1
      exact ⟨⟨l1, l2, l3⟩, o1, o2, o3, ⟨by show 0 ≤ a; omega, this.2⟩, o5⟩
    · cases he
  split at he
  · split at he
    · obtain ⟨i1, a, e1, he⟩ := bnd_x he
      obtain ⟨i2, b, e2, he⟩ := bnd_x he
      obtain ⟨i4, u, e4, he⟩ := bnd_x he
      cases he
      refine ⟨⟨l1, l2, l3⟩, o1, o2, o3, o4, fun x hx => ?_⟩
      cases hx
      exact ⟨rN_v e1, rN_v e2⟩
    · cases he
  split at he
  · split at he
    · obtain ⟨i1, a, e1, he⟩ := bnd_x he
      obtain ⟨i2, b, e2, he⟩ := bnd_x he
      obtain ⟨i4, u, e4, he⟩ := bnd_x he
      cases he
      refine ⟨⟨l1, by show S.2.1.length + 1 ≤ 6; omega, l3⟩, o1, fun x hx => ?_, o3, o4, o5⟩
      rcases List.mem_cons.mp hx with rfl | hx
      · exact ⟨rN_v e1, rN_v e2⟩
      · exact o2 x hx
    · cases he
  split at he
  · split at he
    · obtain ⟨i1, a, e1, he⟩ := bnd_x he
      obtain ⟨i4, u, e4, he⟩ := bnd_x he
      cases he
      refine ⟨⟨l1, l2, by show S.2.2.1.length + 1 ≤ 8; omega⟩, o1, o2, fun x hx => ?_, o4, o5⟩
      rcases List.mem_cons.mp hx with rfl | hx
      · exact rN_v e1
      · exact o3 x hx
    · cases he
  · cases he
theorem m_wold_lp {d : Nat} {h : ms_H} {Q : ms_Q} {R : Int × Option S5} (hx : TM h)
  (q1 : ∀ g r, FM h g → R = (r, none) → Q (some (mI r)) SH g)
  (q2 : ∀ f g r S', FM h f → R = (r, some S') → okS S' → MO (hs f 38 18 0) g S' → Q (some (mI r)) SH g) : ∀ (f k : Nat) (i : Int) (S : S5) (g : ms_H), k + f = 141 → FM h g → g 38 19 = RU 32 32 (h 48) (h 38 18) i → (k : Int) ≤ i → i ≤ h 38 18 → MD g S → okS S → rW (h 48) (h 38 18) f i k S = R → ms_at (ms_Ok ms_P (d + 5)) ms_X1 MX5_wold Q 100 [mR 38, mI k] [] (SH, 0, 0) (g) := by
  have hb := hx.2.1
  intro f
  induction f with
  | zero => intro k i S g hk hf hi h1 h2 hw ho hR; omega
  | succ f ih =>
    intro k i S g hk hf hi h1 h2 hw ho hR
    have e1 := hf.2 18 (by omega)
    have eb := hf.1 48 (by omega) (by omega)
    have hjb := RU_b (lo := 32) (hi := 32) (g := h 48) h2
    rw [rW] at hR
    generalize RU 32 32 (h 48) (h 38 18) i = j at hR hjb hi
    refine sq_at (ms_Ok_m ms_P _) 30 100 ?_
    simp only [sq_c, jp_s, jp_c, rc_0, rc_s, ms_ex, o_iload, o_aload, o_istore, o_astore, o_iinc, o_bin, o_div, o_rem, o_neg, o_and, o_shl, o_shr, o_dup, o_pop, o_dup2, o_if, o_icmp, o_switch, o_sw, o_get, o_put, o_iald, o_iast, o_zald, o_zast, o_aald, o_aast, o_len, ob_s, ob_n, o_call, o_max, o_min, o_copy, o_obj, o_lpush, o_ladd, o_lcmp, o_iret, o_lret, o_vret, i1_c, l1_c, r1_c, st_g0, st_g1, st_g2, st_g3, st_g4, st_g5, st_g6, st_g7, st_g8, st_g9, st_s0, st_s1, st_s2, st_s3, st_s4, st_s5, st_s6, st_s7, st_s8, st_s9, List.length_cons, List.length_nil, List.take_succ_cons, List.take_zero, List.drop_succ_cons, List.drop_zero, List.reverse_cons, List.reverse_nil, List.nil_append, List.cons_append, List.all_cons, List.all_nil, ms_nl, Bool.and_true, Nat.reduceLeDiff, Nat.reduceAdd, Nat.reduceLT, Nat.reduceEqDiff, if_true, if_false, true_and, and_true, ms_rt, List.cons.injEq, exists_eq_left, exists_eq_right, exists_and_left, exists_and_right, ms_one, ite_true, ite_false, reduceIte, imp_self, Nat.zero_add, Nat.add_zero, zero_le_any, Nat.le_refl, Int.zero_add, true_or, or_true, false_implies, Int.reduceLE, Int.reduceLT, Int.reduceNeg, Int.reduceAdd, Int.reduceSub, Int.reduceMul, Int.reduceEq, not_true, not_false_iff, and_self, implies_true, false_and, and_false, or_false, false_or, bX5_wold_0, bX5_wold_1, bX5_wold_2, bX5_wold_100, lX5_wold_0, lX5_wold_1, lX5_wold_2, lX5_wold_100, qX5_wold, sh_b, e1, hi]
    refine ⟨fun z => ?_, fun z => ?_⟩
    · rw [if_neg (by omega)] at hR
      have hxf := TM_m hx hf
      refine m_comesRead (S := S) ?_ ?_ ho.1 (fun g' hm => ?_)
      · refine RM_e hxf.1 (fun k hk => ?_)
        rw [hs_v, if_neg (by omega)]
      · have o38 : ∀ b, b ≠ 18 → hs g 38 18 0 38 b = g 38 b := fun b b1 => by rw [hs_v, if_neg (by omega)]
        have oz : ∀ y, y ≠ 38 → hs g 38 18 0 y = g y := fun y y1 => by funext b; rw [hs_v, if_neg (by omega)]
        unfold MD at hw ⊢
        rw [o38 20 (by omega), o38 21 (by omega), o38 22 (by omega), o38 23 (by omega), o38 24 (by omega), oz 49 (by omega), oz 50 (by omega), oz 51 (by omega), oz 52 (by omega)]
        exact hw
      · simp only [sq_c, jp_s, jp_c, rc_0, rc_s, ms_ex, o_iload, o_aload, o_istore, o_astore, o_iinc, o_bin, o_div, o_rem, o_neg, o_and, o_shl, o_shr, o_dup, o_pop, o_dup2, o_if, o_icmp, o_switch, o_sw, o_get, o_put, o_iald, o_iast, o_zald, o_zast, o_aald, o_aast, o_len, ob_s, ob_n, o_call, o_max, o_min, o_copy, o_obj, o_lpush, o_ladd, o_lcmp, o_iret, o_lret, o_vret, i1_c, l1_c, r1_c, st_g0, st_g1, st_g2, st_g3, st_g4, st_g5, st_g6, st_g7, st_g8, st_g9, st_s0, st_s1, st_s2, st_s3, st_s4, st_s5, st_s6, st_s7, st_s8, st_s9, List.length_cons, List.length_nil, List.take_succ_cons, List.take_zero, List.drop_succ_cons, List.drop_zero, List.reverse_cons, List.reverse_nil, List.nil_append, List.cons_append, List.all_cons, List.all_nil, ms_nl, Bool.and_true, Nat.reduceLeDiff, Nat.reduceAdd, Nat.reduceLT, Nat.reduceEqDiff, if_true, if_false, true_and, and_true, ms_rt, List.cons.injEq, exists_eq_left, exists_eq_right, exists_and_left, exists_and_right, ms_one, ite_true, ite_false, reduceIte, imp_self, Nat.zero_add, Nat.add_zero, zero_le_any, Nat.le_refl, Int.zero_add, true_or, or_true, false_implies, Int.reduceLE, Int.reduceLT, Int.reduceNeg, Int.reduceAdd, Int.reduceSub, Int.reduceMul, Int.reduceEq, not_true, not_false_iff, and_self, implies_true, false_and, and_false, or_false, false_or, bX5_wold_0, bX5_wold_1, bX5_wold_2, bX5_wold_100, lX5_wold_0, lX5_wold_1, lX5_wold_2, lX5_wold_100, qX5_wold, sh_b]
        exact q2 g g' k S hf hR.symm ho hm
    · rw [if_pos z] at hR
      refine m_readsItem (j := j) (S := S) (TM_m hx hf) hw (by rw [e1]; omega) hi (fun g2 m hg2 he a4 => ?_) (fun g2 m S' hg2 he a2 hw2 => ?_)
      · rw [e1, eb] at he
        rw [he] at hR
        have hjm := rI_n (S := S) (by omega) z he
        simp only [sq_c, jp_s, jp_c, rc_0, rc_s, ms_ex, o_iload, o_aload, o_istore, o_astore, o_iinc, o_bin, o_div, o_rem, o_neg, o_and, o_shl, o_shr, o_dup, o_pop, o_dup2, o_if, o_icmp, o_switch, o_sw, o_get, o_put, o_iald, o_iast, o_zald, o_zast, o_aald, o_aast, o_len, ob_s, ob_n, o_call, o_max, o_min, o_copy, o_obj, o_lpush, o_ladd, o_lcmp, o_iret, o_lret, o_vret, i1_c, l1_c, r1_c, st_g0, st_g1, st_g2, st_g3, st_g4, st_g5, st_g6, st_g7, st_g8, st_g9, st_s0, st_s1, st_s2, st_s3, st_s4, st_s5, st_s6, st_s7, st_s8, st_s9, List.length_cons, List.length_nil, List.take_succ_cons, List.take_zero, List.drop_succ_cons, List.drop_zero, List.reverse_cons, List.reverse_nil, List.nil_append, List.cons_append, List.all_cons, List.all_nil, ms_nl, Bool.and_true, Nat.reduceLeDiff, Nat.reduceAdd, Nat.reduceLT, Nat.reduceEqDiff, if_true, if_false, true_and, and_true, ms_rt, List.cons.injEq, exists_eq_left, exists_eq_right, exists_and_left, exists_and_right, ms_one, ite_true, ite_false, reduceIte, imp_self, Nat.zero_add, Nat.add_zero, zero_le_any, Nat.le_refl, Int.zero_add, true_or, or_true, false_implies, Int.reduceLE, Int.reduceLT, Int.reduceNeg, Int.reduceAdd, Int.reduceSub, Int.reduceMul, Int.reduceEq, not_true, not_false_iff, and_self, implies_true, false_and, and_false, or_false, false_or, bX5_wold_0, bX5_wold_1, bX5_wold_2, bX5_wold_100, lX5_wold_0, lX5_wold_1, lX5_wold_2, lX5_wold_100, qX5_wold, sh_b, a4]
        exact ⟨rg_of (by omega) (by omega), q1 g2 (-10 - m) (FM_t hf hg2) hR.symm⟩
      · rw [e1, eb] at he
        rw [he] at hR
        have hm := rI_b z he
        have hf2 := FM_t hf hg2
        have e1' := hf2.2 18 (by omega)
        have eb' := hf2.1 48 (by omega) (by omega)
        simp only [sq_c, jp_s, jp_c, rc_0, rc_s, ms_ex, o_iload, o_aload, o_istore, o_astore, o_iinc, o_bin, o_div, o_rem, o_neg, o_and, o_shl, o_shr, o_dup, o_pop, o_dup2, o_if, o_icmp, o_switch, o_sw, o_get, o_put, o_iald, o_iast, o_zald, o_zast, o_aald, o_aast, o_len, ob_s, ob_n, o_call, o_max, o_min, o_copy, o_obj, o_lpush, o_ladd, o_lcmp, o_iret, o_lret, o_vret, i1_c, l1_c, r1_c, st_g0, st_g1, st_g2, st_g3, st_g4, st_g5, st_g6, st_g7, st_g8, st_g9, st_s0, st_s1, st_s2, st_s3, st_s4, st_s5, st_s6, st_s7, st_s8, st_s9, List.length_cons, List.length_nil, List.take_succ_cons, List.take_zero, List.drop_succ_cons, List.drop_zero, List.reverse_cons, List.reverse_nil, List.nil_append, List.cons_append, List.all_cons, List.all_nil, ms_nl, Bool.and_true, Nat.reduceLeDiff, Nat.reduceAdd, Nat.reduceLT, Nat.reduceEqDiff, if_true, if_false, true_and, and_true, ms_rt, List.cons.injEq, exists_eq_left, exists_eq_right, exists_and_left, exists_and_right, ms_one, ite_true, ite_false, reduceIte, imp_self, Nat.zero_add, Nat.add_zero, zero_le_any, Nat.le_refl, Int.zero_add, true_or, or_true, false_implies, Int.reduceLE, Int.reduceLT, Int.reduceNeg, Int.reduceAdd, Int.reduceSub, Int.reduceMul, Int.reduceEq, not_true, not_false_iff, and_self, implies_true, false_and, and_false, or_false, false_or, bX5_wold_0, bX5_wold_1, bX5_wold_2, bX5_wold_100, lX5_wold_0, lX5_wold_1, lX5_wold_2, lX5_wold_100, qX5_wold, sh_b]
        refine ⟨rg_of (by omega) (by omega), ?_⟩
        refine m_skip (TM_m hx hf2) a2 (by rw [e1']; omega) (fun g3 fa3 g3j => ?_)
        rw [e1', eb'] at g3j
        simp only [sq_c, jp_s, jp_c, rc_0, rc_s, ms_ex, o_iload, o_aload, o_istore, o_astore, o_iinc, o_bin, o_div, o_rem, o_neg, o_and, o_shl, o_shr, o_dup, o_pop, o_dup2, o_if, o_icmp, o_switch, o_sw, o_get, o_put, o_iald, o_iast, o_zald, o_zast, o_aald, o_aast, o_len, ob_s, ob_n, o_call, o_max, o_min, o_copy, o_obj, o_lpush, o_ladd, o_lcmp, o_iret, o_lret, o_vret, i1_c, l1_c, r1_c, st_g0, st_g1, st_g2, st_g3, st_g4, st_g5, st_g6, st_g7, st_g8, st_g9, st_s0, st_s1, st_s2, st_s3, st_s4, st_s5, st_s6, st_s7, st_s8, st_s9, List.length_cons, List.length_nil, List.take_succ_cons, List.take_zero, List.drop_succ_cons, List.drop_zero, List.reverse_cons, List.reverse_nil, List.nil_append, List.cons_append, List.all_cons, List.all_nil, ms_nl, Bool.and_true, Nat.reduceLeDiff, Nat.reduceAdd, Nat.reduceLT, Nat.reduceEqDiff, if_true, if_false, true_and, and_true, ms_rt, List.cons.injEq, exists_eq_left, exists_eq_right, exists_and_left, exists_and_right, ms_one, ite_true, ite_false, reduceIte, imp_self, Nat.zero_add, Nat.add_zero, zero_le_any, Nat.le_refl, Int.zero_add, true_or, or_true, false_implies, Int.reduceLE, Int.reduceLT, Int.reduceNeg, Int.reduceAdd, Int.reduceSub, Int.reduceMul, Int.reduceEq, not_true, not_false_iff, and_self, implies_true, false_and, and_false, or_false, false_or, bX5_wold_0, bX5_wold_1, bX5_wold_2, bX5_wold_100, lX5_wold_0, lX5_wold_1, lX5_wold_2, lX5_wold_100, qX5_wold, sh_b]
        exact ih (k + 1) m S' g3 (by omega) (FM_t hf2 (FM_a fa3)) g3j (by omega) (by omega) (MD_a hw2 fa3) (okS_I ho he) hR
theorem m_wold {d : Nat} {h : ms_H} {Q : ms_Q} (hx : TM h)
  (q1 : ∀ g r, FM h g → rW (h 48) (h 38 18) 141 0 0 S0 = (r, none) → Q (some (mI r)) SH g)
  (q2 : ∀ f g r S', FM h f → rW (h 48) (h 38 18) 141 0 0 S0 = (r, some S') → okS S' → MO (hs f 38 18 0) g S' → Q (some (mI r)) SH g) : ms_Ok ms_P (d + 6) 108 [mR 38] SH (h) Q := by
  refine ok_in (k := 30) MX5_wold rfl rfl ?_
  show sq (ms_Ok ms_P (d + 5)) ms_X1 MX5_wold Q 30 (M_bl MX5_wold 0) [mR 38, mL 0] [] (SH, 0, 0) (h)
  have hb := hx.2.1
  simp only [sq_c, jp_s, jp_c, rc_0, rc_s, ms_ex, o_iload, o_aload, o_istore, o_astore, o_iinc, o_bin, o_div, o_rem, o_neg, o_and, o_shl, o_shr, o_dup, o_pop, o_dup2, o_if, o_icmp, o_switch, o_sw, o_get, o_put, o_iald, o_iast, o_zald, o_zast, o_aald, o_aast, o_len, ob_s, ob_n, o_call, o_max, o_min, o_copy, o_obj, o_lpush, o_ladd, o_lcmp, o_iret, o_lret, o_vret, i1_c, l1_c, r1_c, st_g0, st_g1, st_g2, st_g3, st_g4, st_g5, st_g6, st_g7, st_g8, st_g9, st_s0, st_s1, st_s2, st_s3, st_s4, st_s5, st_s6, st_s7, st_s8, st_s9, List.length_cons, List.length_nil, List.take_succ_cons, List.take_zero, List.drop_succ_cons, List.drop_zero, List.reverse_cons, List.reverse_nil, List.nil_append, List.cons_append, List.all_cons, List.all_nil, ms_nl, Bool.and_true, Nat.reduceLeDiff, Nat.reduceAdd, Nat.reduceLT, Nat.reduceEqDiff, if_true, if_false, true_and, and_true, ms_rt, List.cons.injEq, exists_eq_left, exists_eq_right, exists_and_left, exists_and_right, ms_one, ite_true, ite_false, reduceIte, imp_self, Nat.zero_add, Nat.add_zero, zero_le_any, Nat.le_refl, Int.zero_add, true_or, or_true, false_implies, Int.reduceLE, Int.reduceLT, Int.reduceNeg, Int.reduceAdd, Int.reduceSub, Int.reduceMul, Int.reduceEq, not_true, not_false_iff, and_self, implies_true, false_and, and_false, or_false, false_or, bX5_wold_0, bX5_wold_1, bX5_wold_2, bX5_wold_100, lX5_wold_0, lX5_wold_1, lX5_wold_2, lX5_wold_100, qX5_wold, sh_b]
  have f0 : FM h (hs (hs (hs (hs (hs (hs h 38 19 0) 38 20 0) 38 21 0) 38 22 0) 38 23 0) 38 24 0) := FM_hs (FM_hs (FM_hs (FM_hs (FM_hs (FM_hs (FM_r h) _ (Or.inl (by omega))) _ (Or.inl (by omega))) _ (Or.inl (by omega))) _ (Or.inl (by omega))) _ (Or.inl (by omega))) _ (Or.inl (by omega))
  have w0 : MD (hs (hs (hs (hs (hs (hs h 38 19 0) 38 20 0) 38 21 0) 38 22 0) 38 23 0) 38 24 0) S0 := by
    unfold MD
    simp only [hs_v, Int.reduceEq, false_and, and_false, if_false, and_true, if_true]
    exact ⟨⟨rfl, rfl, rfl⟩, rfl, ⟨rfl, fun x hx => (by cases hx)⟩, trivial, trivial, trivial⟩
  have i0 : hs (hs (hs (hs (hs (hs h 38 19 0) 38 20 0) 38 21 0) 38 22 0) 38 23 0) 38 24 0 38 19 = 0 := by
    simp only [hs_v, Int.reduceEq, false_and, and_false, if_false, and_true, if_true]
  generalize hs (hs (hs (hs (hs (hs h 38 19 0) 38 20 0) 38 21 0) 38 22 0) 38 23 0) 38 24 0 = g0 at f0 w0 i0
  have e1 := f0.2 18 (by omega)
  have eb := f0.1 48 (by omega) (by omega)
  refine m_skip (TM_m hx f0) i0 (by rw [e1]; omega) (fun g fa gj => ?_)
  rw [e1, eb] at gj
  simp only [sq_c, jp_s, jp_c, rc_0, rc_s, ms_ex, o_iload, o_aload, o_istore, o_astore, o_iinc, o_bin, o_div, o_rem, o_neg, o_and, o_shl, o_shr, o_dup, o_pop, o_dup2, o_if, o_icmp, o_switch, o_sw, o_get, o_put, o_iald, o_iast, o_zald, o_zast, o_aald, o_aast, o_len, ob_s, ob_n, o_call, o_max, o_min, o_copy, o_obj, o_lpush, o_ladd, o_lcmp, o_iret, o_lret, o_vret, i1_c, l1_c, r1_c, st_g0, st_g1, st_g2, st_g3, st_g4, st_g5, st_g6, st_g7, st_g8, st_g9, st_s0, st_s1, st_s2, st_s3, st_s4, st_s5, st_s6, st_s7, st_s8, st_s9, List.length_cons, List.length_nil, List.take_succ_cons, List.take_zero, List.drop_succ_cons, List.drop_zero, List.reverse_cons, List.reverse_nil, List.nil_append, List.cons_append, List.all_cons, List.all_nil, ms_nl, Bool.and_true, Nat.reduceLeDiff, Nat.reduceAdd, Nat.reduceLT, Nat.reduceEqDiff, if_true, if_false, true_and, and_true, ms_rt, List.cons.injEq, exists_eq_left, exists_eq_right, exists_and_left, exists_and_right, ms_one, ite_true, ite_false, reduceIte, imp_self, Nat.zero_add, Nat.add_zero, zero_le_any, Nat.le_refl, Int.zero_add, true_or, or_true, false_implies, Int.reduceLE, Int.reduceLT, Int.reduceNeg, Int.reduceAdd, Int.reduceSub, Int.reduceMul, Int.reduceEq, not_true, not_false_iff, and_self, implies_true, false_and, and_false, or_false, false_or, bX5_wold_0, bX5_wold_1, bX5_wold_2, bX5_wold_100, lX5_wold_0, lX5_wold_1, lX5_wold_2, lX5_wold_100, qX5_wold, sh_b]
  exact m_wold_lp hx q1 q2 141 0 0 S0 g (by omega) (FM_t f0 (FM_a fa)) gj (by omega) (by omega) (MD_a w0 fa) okS_0 rfl
