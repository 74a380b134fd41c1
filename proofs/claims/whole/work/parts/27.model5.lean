/-! The model: notes, days, warmth, stakes, what is undone. -/
def snap (h : ms_H) (j : Int) : Int := if j = 0 then h 38 11 else if j = 1 then h 38 12 else h 46 (j - 2)
def wrP (h : ms_H) (z at_ m : Int) : ms_H := fun a b => if a = z ∧ at_ ≤ b ∧ b < at_ + m then snap h (b - at_) else h a b
def wrH (h : ms_H) (z at_ : Int) : ms_H := wrP h z at_ 10
theorem wrP_v (h : ms_H) (z at_ m a b : Int) : wrP h z at_ m a b = if a = z ∧ at_ ≤ b ∧ b < at_ + m then snap h (b - at_) else h a b := rfl
theorem wrH_v (h : ms_H) (z at_ a b : Int) : wrH h z at_ a b = if a = z ∧ at_ ≤ b ∧ b < at_ + 10 then snap h (b - at_) else h a b := rfl
theorem wrP_0 {h : ms_H} {z at_ : Int} : hs (hs h z at_ (h 38 11)) z (at_ + 1) (h 38 12) = wrP h z at_ 2 := by
  funext a b
  unfold hs wrP snap
  by_cases h1 : a = z
  · by_cases h2 : b = at_
    · rw [if_neg (by omega), if_pos ⟨h1, h2⟩, if_pos (by omega), if_pos (by omega)]
    · by_cases h3 : b = at_ + 1
      · rw [if_pos ⟨h1, h3⟩, if_pos (by omega), if_neg (by omega), if_pos (by omega)]
      · rw [if_neg (by omega), if_neg (by omega), if_neg (by omega)]
  · rw [if_neg (by omega), if_neg (by omega), if_neg (by omega)]
theorem wrP_s {h : ms_H} {z at_ c : Int} (h0 : 0 ≤ c) : hs (wrP h z at_ (2 + c)) z (at_ + 2 + c) (h 46 c) = wrP h z at_ (2 + (c + 1)) := by
  funext a b
  unfold hs wrP
  by_cases h1 : a = z
  · by_cases h2 : b = at_ + 2 + c
    · rw [if_pos ⟨h1, h2⟩, if_pos (by omega)]
      unfold snap
      rw [if_neg (by omega), if_neg (by omega)]
      congr 1
      omega
    · rw [if_neg (by omega)]
      by_cases h3 : at_ ≤ b ∧ b < at_ + (2 + c)
      · rw [if_pos ⟨h1, h3⟩, if_pos (by omega)]
      · rw [if_neg (fun q => h3 q.2), if_neg (by omega)]
  · rw [if_neg (by omega), if_neg (by omega), if_neg (by omega)]
theorem m_writes_lp {d : Nat} {h : ms_H} {Q : ms_Q} {z at_ N : Int} (hR : RM h) (har : ∀ i k, ms_ar SH z 10 i k = (0 ≤ i ∧ i < N ∧ k)) (hz : ¬ 38 = z ∧ ¬ 46 = z) (ha : 0 ≤ at_ ∧ at_ + 10 ≤ N ∧ N ≤ 1000) (q : Q none SH (wrH h z at_)) : ∀ (j : Nat) (c : Int), c + j = 8 → 0 ≤ c → ms_at (ms_Ok ms_P (d)) ms_X1 MX5_writes Q 100 [mR 38, mR z, mI at_, mI c] [] (SH, 0, 0) (wrP h z at_ (2 + c)) := by
  unfold RM at hR
  intro j
  induction j with
  | zero =>
    intro c hc h0
    have : c = 8 := by omega
    subst this
    refine sq_at (ms_Ok_m ms_P _) 30 100 ?_
    simp only [sq_c, jp_s, jp_c, rc_0, rc_s, ms_ex, o_iload, o_aload, o_istore, o_astore, o_iinc, o_bin, o_div, o_rem, o_neg, o_and, o_shl, o_shr, o_dup, o_pop, o_dup2, o_if, o_icmp, o_switch, o_sw, o_get, o_put, o_iald, o_iast, o_zald, o_zast, o_aald, o_aast, o_len, ob_s, ob_n, o_call, o_max, o_min, o_copy, o_obj, o_lpush, o_ladd, o_lcmp, o_iret, o_lret, o_vret, i1_c, l1_c, r1_c, st_g0, st_g1, st_g2, st_g3, st_g4, st_g5, st_g6, st_g7, st_g8, st_g9, st_s0, st_s1, st_s2, st_s3, st_s4, st_s5, st_s6, st_s7, st_s8, st_s9, List.length_cons, List.length_nil, List.take_succ_cons, List.take_zero, List.drop_succ_cons, List.drop_zero, List.reverse_cons, List.reverse_nil, List.nil_append, List.cons_append, List.all_cons, List.all_nil, ms_nl, Bool.and_true, Nat.reduceLeDiff, Nat.reduceAdd, Nat.reduceLT, Nat.reduceEqDiff, if_true, if_false, true_and, and_true, ms_rt, List.cons.injEq, exists_eq_left, exists_eq_right, exists_and_left, exists_and_right, ms_one, ite_true, ite_false, reduceIte, imp_self, Nat.zero_add, Nat.add_zero, zero_le_any, Nat.le_refl, Int.zero_add, true_or, or_true, false_implies, Int.reduceLE, Int.reduceLT, Int.reduceNeg, Int.reduceAdd, Int.reduceSub, Int.reduceMul, Int.reduceEq, not_true, not_false_iff, and_self, implies_true, false_and, and_false, or_false, false_or, bX5_writes_0, bX5_writes_1, bX5_writes_100, lX5_writes_0, lX5_writes_1, lX5_writes_100, qX5_writes, sh_b, hR, wrP_v, hz]
    exact q
  | succ j ih =>
    intro c hc h0
    have ih' := ih (c + 1) (by omega) (by omega)
    refine sq_at (ms_Ok_m ms_P _) 30 100 ?_
    simp only [sq_c, jp_s, jp_c, rc_0, rc_s, ms_ex, o_iload, o_aload, o_istore, o_astore, o_iinc, o_bin, o_div, o_rem, o_neg, o_and, o_shl, o_shr, o_dup, o_pop, o_dup2, o_if, o_icmp, o_switch, o_sw, o_get, o_put, o_iald, o_iast, o_zald, o_zast, o_aald, o_aast, o_len, ob_s, ob_n, o_call, o_max, o_min, o_copy, o_obj, o_lpush, o_ladd, o_lcmp, o_iret, o_lret, o_vret, i1_c, l1_c, r1_c, st_g0, st_g1, st_g2, st_g3, st_g4, st_g5, st_g6, st_g7, st_g8, st_g9, st_s0, st_s1, st_s2, st_s3, st_s4, st_s5, st_s6, st_s7, st_s8, st_s9, List.length_cons, List.length_nil, List.take_succ_cons, List.take_zero, List.drop_succ_cons, List.drop_zero, List.reverse_cons, List.reverse_nil, List.nil_append, List.cons_append, List.all_cons, List.all_nil, ms_nl, Bool.and_true, Nat.reduceLeDiff, Nat.reduceAdd, Nat.reduceLT, Nat.reduceEqDiff, if_true, if_false, true_and, and_true, ms_rt, List.cons.injEq, exists_eq_left, exists_eq_right, exists_and_left, exists_and_right, ms_one, ite_true, ite_false, reduceIte, imp_self, Nat.zero_add, Nat.add_zero, zero_le_any, Nat.le_refl, Int.zero_add, true_or, or_true, false_implies, Int.reduceLE, Int.reduceLT, Int.reduceNeg, Int.reduceAdd, Int.reduceSub, Int.reduceMul, Int.reduceEq, not_true, not_false_iff, and_self, implies_true, false_and, and_false, or_false, false_or, bX5_writes_0, bX5_writes_1, bX5_writes_100, lX5_writes_0, lX5_writes_1, lX5_writes_100, qX5_writes, sh_b, hR, wrP_v, hz, har, ar_46]
    refine ⟨fun h1 => by omega, fun h1 => ⟨rg_of (by omega) (by omega), rg_of (by omega) (by omega), by omega, by omega, by omega, by omega, rg_of (by omega) (by omega), ?_⟩⟩
    rw [wrP_s h0]
    exact ih'
theorem m_writes {d : Nat} {h : ms_H} {Q : ms_Q} {z at_ N : Int} (hR : RM h) (har : ∀ i k, ms_ar SH z 10 i k = (0 ≤ i ∧ i < N ∧ k)) (hz : ¬ 38 = z ∧ ¬ 46 = z) (ha : 0 ≤ at_ ∧ at_ + 10 ≤ N ∧ N ≤ 1000) (q : Q none SH (wrH h z at_)) : ms_Ok ms_P (d + 1) 123 [mR 38, mR z, mI at_] SH (h) Q := by
  refine ok_in (k := 30) MX5_writes rfl rfl ?_
  show sq (ms_Ok ms_P (d)) ms_X1 MX5_writes Q 30 (M_bl MX5_writes 0) [mR 38, mR z, mI at_, mL 0] [] (SH, 0, 0) (h)
  have hR2 := hR
  unfold RM at hR2
  simp only [sq_c, jp_s, jp_c, rc_0, rc_s, ms_ex, o_iload, o_aload, o_istore, o_astore, o_iinc, o_bin, o_div, o_rem, o_neg, o_and, o_shl, o_shr, o_dup, o_pop, o_dup2, o_if, o_icmp, o_switch, o_sw, o_get, o_put, o_iald, o_iast, o_zald, o_zast, o_aald, o_aast, o_len, ob_s, ob_n, o_call, o_max, o_min, o_copy, o_obj, o_lpush, o_ladd, o_lcmp, o_iret, o_lret, o_vret, i1_c, l1_c, r1_c, st_g0, st_g1, st_g2, st_g3, st_g4, st_g5, st_g6, st_g7, st_g8, st_g9, st_s0, st_s1, st_s2, st_s3, st_s4, st_s5, st_s6, st_s7, st_s8, st_s9, List.length_cons, List.length_nil, List.take_succ_cons, List.take_zero, List.drop_succ_cons, List.drop_zero, List.reverse_cons, List.reverse_nil, List.nil_append, List.cons_append, List.all_cons, List.all_nil, ms_nl, Bool.and_true, Nat.reduceLeDiff, Nat.reduceAdd, Nat.reduceLT, Nat.reduceEqDiff, if_true, if_false, true_and, and_true, ms_rt, List.cons.injEq, exists_eq_left, exists_eq_right, exists_and_left, exists_and_right, ms_one, ite_true, ite_false, reduceIte, imp_self, Nat.zero_add, Nat.add_zero, zero_le_any, Nat.le_refl, Int.zero_add, true_or, or_true, false_implies, Int.reduceLE, Int.reduceLT, Int.reduceNeg, Int.reduceAdd, Int.reduceSub, Int.reduceMul, Int.reduceEq, not_true, not_false_iff, and_self, implies_true, false_and, and_false, or_false, false_or, bX5_writes_0, bX5_writes_1, bX5_writes_100, lX5_writes_0, lX5_writes_1, lX5_writes_100, qX5_writes, sh_b, hR2, har, hs_v, hz]
  refine ⟨by omega, by omega, rg_of (by omega) (by omega), by omega, by omega, ?_⟩
  rw [wrP_0]
  exact m_writes_lp hR har hz ha q 8 0 (by omega) (by omega)
def rbP (h : ms_H) (z at_ m : Int) : ms_H := fun a b => if a = 38 ∧ b = 11 then h z at_ else if a = 38 ∧ b = 12 then h z (at_ + 1) else if a = 46 ∧ 0 ≤ b ∧ b < m then h z (at_ + 2 + b) else h a b
def rbH (h : ms_H) (z at_ : Int) : ms_H := rbP h z at_ 8
theorem rbP_v (h : ms_H) (z at_ m a b : Int) : rbP h z at_ m a b = if a = 38 ∧ b = 11 then h z at_ else if a = 38 ∧ b = 12 then h z (at_ + 1) else if a = 46 ∧ 0 ≤ b ∧ b < m then h z (at_ + 2 + b) else h a b := rfl
theorem rbH_v (h : ms_H) (z at_ a b : Int) : rbH h z at_ a b = if a = 38 ∧ b = 11 then h z at_ else if a = 38 ∧ b = 12 then h z (at_ + 1) else if a = 46 ∧ 0 ≤ b ∧ b < 8 then h z (at_ + 2 + b) else h a b := rfl
theorem rbP_0 {h : ms_H} {z at_ : Int} : hs (hs h 38 11 (h z at_)) 38 12 (h z (at_ + 1)) = rbP h z at_ 0 := by
  funext a b
  unfold hs rbP
  by_cases h1 : a = 38 ∧ b = 11
  · rw [if_neg (by omega), if_pos h1, if_pos h1]
  · rw [if_neg h1, if_neg h1]
    by_cases h2 : a = 38 ∧ b = 12
    · rw [if_pos h2, if_pos h2]
    · rw [if_neg h2, if_neg h2, if_neg (by omega)]
theorem rbP_s {h : ms_H} {z at_ c : Int} (h0 : 0 ≤ c) : hs (rbP h z at_ c) 46 c (h z (at_ + 2 + c)) = rbP h z at_ (c + 1) := by
  funext a b
  unfold hs rbP
  by_cases h1 : a = 46 ∧ b = c
  · rw [if_pos h1, if_neg (by omega), if_neg (by omega), if_pos (by omega), h1.2]
  · rw [if_neg h1]
    by_cases h2 : a = 46 ∧ 0 ≤ b ∧ b < c
    · rw [if_neg (by omega), if_neg (by omega), if_pos h2, if_neg (by omega), if_neg (by omega), if_pos (by omega)]
    · rw [if_neg h2, if_neg (show ¬ (a = 46 ∧ 0 ≤ b ∧ b < c + 1) by omega)]
theorem m_readsBack_lp {d : Nat} {h : ms_H} {Q : ms_Q} {z at_ N : Int} (hR : RM h) (har : ∀ i k, ms_ar SH z 10 i k = (0 ≤ i ∧ i < N ∧ k)) (hz : ¬ z = 38 ∧ ¬ z = 46) (ha : 0 ≤ at_ ∧ at_ + 10 ≤ N ∧ N ≤ 1000) (q : Q none SH (rbH h z at_)) : ∀ (j : Nat) (c : Int), c + j = 8 → 0 ≤ c → ms_at (ms_Ok ms_P (d)) ms_X1 MX5_readsBack Q 100 [mR 38, mR z, mI at_, mI c] [] (SH, 0, 0) (rbP h z at_ c) := by
  unfold RM at hR
  intro j
  induction j with
  | zero =>
    intro c hc h0
    have : c = 8 := by omega
    subst this
    refine sq_at (ms_Ok_m ms_P _) 30 100 ?_
    simp only [sq_c, jp_s, jp_c, rc_0, rc_s, ms_ex, o_iload, o_aload, o_istore, o_astore, o_iinc, o_bin, o_div, o_rem, o_neg, o_and, o_shl, o_shr, o_dup, o_pop, o_dup2, o_if, o_icmp, o_switch, o_sw, o_get, o_put, o_iald, o_iast, o_zald, o_zast, o_aald, o_aast, o_len, ob_s, ob_n, o_call, o_max, o_min, o_copy, o_obj, o_lpush, o_ladd, o_lcmp, o_iret, o_lret, o_vret, i1_c, l1_c, r1_c, st_g0, st_g1, st_g2, st_g3, st_g4, st_g5, st_g6, st_g7, st_g8, st_g9, st_s0, st_s1, st_s2, st_s3, st_s4, st_s5, st_s6, st_s7, st_s8, st_s9, List.length_cons, List.length_nil, List.take_succ_cons, List.take_zero, List.drop_succ_cons, List.drop_zero, List.reverse_cons, List.reverse_nil, List.nil_append, List.cons_append, List.all_cons, List.all_nil, ms_nl, Bool.and_true, Nat.reduceLeDiff, Nat.reduceAdd, Nat.reduceLT, Nat.reduceEqDiff, if_true, if_false, true_and, and_true, ms_rt, List.cons.injEq, exists_eq_left, exists_eq_right, exists_and_left, exists_and_right, ms_one, ite_true, ite_false, reduceIte, imp_self, Nat.zero_add, Nat.add_zero, zero_le_any, Nat.le_refl, Int.zero_add, true_or, or_true, false_implies, Int.reduceLE, Int.reduceLT, Int.reduceNeg, Int.reduceAdd, Int.reduceSub, Int.reduceMul, Int.reduceEq, not_true, not_false_iff, and_self, implies_true, false_and, and_false, or_false, false_or, bX5_readsBack_0, bX5_readsBack_1, bX5_readsBack_100, lX5_readsBack_0, lX5_readsBack_1, lX5_readsBack_100, qX5_readsBack, sh_b, hR, rbP_v, hz]
    exact q
  | succ j ih =>
    intro c hc h0
    have ih' := ih (c + 1) (by omega) (by omega)
    refine sq_at (ms_Ok_m ms_P _) 30 100 ?_
    simp only [sq_c, jp_s, jp_c, rc_0, rc_s, ms_ex, o_iload, o_aload, o_istore, o_astore, o_iinc, o_bin, o_div, o_rem, o_neg, o_and, o_shl, o_shr, o_dup, o_pop, o_dup2, o_if, o_icmp, o_switch, o_sw, o_get, o_put, o_iald, o_iast, o_zald, o_zast, o_aald, o_aast, o_len, ob_s, ob_n, o_call, o_max, o_min, o_copy, o_obj, o_lpush, o_ladd, o_lcmp, o_iret, o_lret, o_vret, i1_c, l1_c, r1_c, st_g0, st_g1, st_g2, st_g3, st_g4, st_g5, st_g6, st_g7, st_g8, st_g9, st_s0, st_s1, st_s2, st_s3, st_s4, st_s5, st_s6, st_s7, st_s8, st_s9, List.length_cons, List.length_nil, List.take_succ_cons, List.take_zero, List.drop_succ_cons, List.drop_zero, List.reverse_cons, List.reverse_nil, List.nil_append, List.cons_append, List.all_cons, List.all_nil, ms_nl, Bool.and_true, Nat.reduceLeDiff, Nat.reduceAdd, Nat.reduceLT, Nat.reduceEqDiff, if_true, if_false, true_and, and_true, ms_rt, List.cons.injEq, exists_eq_left, exists_eq_right, exists_and_left, exists_and_right, ms_one, ite_true, ite_false, reduceIte, imp_self, Nat.zero_add, Nat.add_zero, zero_le_any, Nat.le_refl, Int.zero_add, true_or, or_true, false_implies, Int.reduceLE, Int.reduceLT, Int.reduceNeg, Int.reduceAdd, Int.reduceSub, Int.reduceMul, Int.reduceEq, not_true, not_false_iff, and_self, implies_true, false_and, and_false, or_false, false_or, bX5_readsBack_0, bX5_readsBack_1, bX5_readsBack_100, lX5_readsBack_0, lX5_readsBack_1, lX5_readsBack_100, qX5_readsBack, sh_b, hR, rbP_v, hz, har, ar_46]
    refine ⟨fun h1 => by omega, fun h1 => ⟨rg_of (by omega) (by omega), rg_of (by omega) (by omega), by omega, by omega, by omega, by omega, rg_of (by omega) (by omega), ?_⟩⟩
    rw [rbP_s h0]
    exact ih'
theorem m_readsBack {d : Nat} {h : ms_H} {Q : ms_Q} {z at_ N : Int} (hR : RM h) (har : ∀ i k, ms_ar SH z 10 i k = (0 ≤ i ∧ i < N ∧ k)) (hz : ¬ z = 38 ∧ ¬ z = 46) (ha : 0 ≤ at_ ∧ at_ + 10 ≤ N ∧ N ≤ 1000) (q : Q none SH (rbH h z at_)) : ms_Ok ms_P (d + 1) 124 [mR 38, mR z, mI at_] SH (h) Q := by
  refine ok_in (k := 30) MX5_readsBack rfl rfl ?_
  show sq (ms_Ok ms_P (d)) ms_X1 MX5_readsBack Q 30 (M_bl MX5_readsBack 0) [mR 38, mR z, mI at_, mL 0] [] (SH, 0, 0) (h)
  have hR2 := hR
  unfold RM at hR2
  simp only [sq_c, jp_s, jp_c, rc_0, rc_s, ms_ex, o_iload, o_aload, o_istore, o_astore, o_iinc, o_bin, o_div, o_rem, o_neg, o_and, o_shl, o_shr, o_dup, o_pop, o_dup2, o_if, o_icmp, o_switch, o_sw, o_get, o_put, o_iald, o_iast, o_zald, o_zast, o_aald, o_aast, o_len, ob_s, ob_n, o_call, o_max, o_min, o_copy, o_obj, o_lpush, o_ladd, o_lcmp, o_iret, o_lret, o_vret, i1_c, l1_c, r1_c, st_g0, st_g1, st_g2, st_g3, st_g4, st_g5, st_g6, st_g7, st_g8, st_g9, st_s0, st_s1, st_s2, st_s3, st_s4, st_s5, st_s6, st_s7, st_s8, st_s9, List.length_cons, List.length_nil, List.take_succ_cons, List.take_zero, List.drop_succ_cons, List.drop_zero, List.reverse_cons, List.reverse_nil, List.nil_append, List.cons_append, List.all_cons, List.all_nil, ms_nl, Bool.and_true, Nat.reduceLeDiff, Nat.reduceAdd, Nat.reduceLT, Nat.reduceEqDiff, if_true, if_false, true_and, and_true, ms_rt, List.cons.injEq, exists_eq_left, exists_eq_right, exists_and_left, exists_and_right, ms_one, ite_true, ite_false, reduceIte, imp_self, Nat.zero_add, Nat.add_zero, zero_le_any, Nat.le_refl, Int.zero_add, true_or, or_true, false_implies, Int.reduceLE, Int.reduceLT, Int.reduceNeg, Int.reduceAdd, Int.reduceSub, Int.reduceMul, Int.reduceEq, not_true, not_false_iff, and_self, implies_true, false_and, and_false, or_false, false_or, bX5_readsBack_0, bX5_readsBack_1, bX5_readsBack_100, lX5_readsBack_0, lX5_readsBack_1, lX5_readsBack_100, qX5_readsBack, sh_b, hR2, har, hs_v, hz]
  refine ⟨by omega, by omega, rg_of (by omega) (by omega), by omega, by omega, ?_⟩
  rw [rbP_0]
  exact m_readsBack_lp hR har hz ha q 8 0 (by omega) (by omega)
def shH (h : ms_H) (m : Int) : ms_H := fun a b => if a = 53 ∧ 0 ≤ b ∧ b < m then h 53 (b + 10) else h a b
theorem shH_v (h : ms_H) (m a b : Int) : shH h m a b = if a = 53 ∧ 0 ≤ b ∧ b < m then h 53 (b + 10) else h a b := rfl
theorem shH_0 (h : ms_H) : shH h 0 = h := by
  funext a b
  unfold shH
  rw [if_neg (by omega)]
theorem shH_s {h : ms_H} {c : Int} (h0 : 0 ≤ c) : hs (shH h c) 53 c (h 53 (c + 10)) = shH h (c + 1) := by
  funext a b
  unfold hs shH
  by_cases h1 : a = 53 ∧ b = c
  · rw [if_pos h1, if_pos (by omega), h1.2]
  · rw [if_neg h1]
    by_cases h2 : a = 53 ∧ 0 ≤ b ∧ b < c
    · rw [if_pos h2, if_pos (by omega)]
    · rw [if_neg h2, if_neg (by omega)]
def ntH (h : ms_H) : ms_H := if h 38 32 = 10 then hs (wrH (hs (shH h 90) 38 32 9) 53 90) 38 32 10 else hs (wrH h 53 (10 * h 38 32)) 38 32 (h 38 32 + 1)
theorem m_notes_lp {d : Nat} {h : ms_H} {Q : ms_Q} (hR : RM h) (hu : h 38 32 = 10) (q : Q none SH (hs (wrH (hs (shH h 90) 38 32 9) 53 90) 38 32 10)) : ∀ (j : Nat) (k : Int), k + j = 90 → 0 ≤ k → ms_at (ms_Ok ms_P (d + 1)) ms_X1 MX5_notes Q 100 [mR 38, mI k] [] (SH, 0, 0) (shH h k) := by
  have hR0 := hR
  unfold RM at hR
  intro j
  induction j with
  | zero =>
    intro k hk h0
    have : k = 90 := by omega
    subst this
    refine sq_at (ms_Ok_m ms_P _) 30 100 ?_
    simp only [sq_c, jp_s, jp_c, rc_0, rc_s, ms_ex, o_iload, o_aload, o_istore, o_astore, o_iinc, o_bin, o_div, o_rem, o_neg, o_and, o_shl, o_shr, o_dup, o_pop, o_dup2, o_if, o_icmp, o_switch, o_sw, o_get, o_put, o_iald, o_iast, o_zald, o_zast, o_aald, o_aast, o_len, ob_s, ob_n, o_call, o_max, o_min, o_copy, o_obj, o_lpush, o_ladd, o_lcmp, o_iret, o_lret, o_vret, i1_c, l1_c, r1_c, st_g0, st_g1, st_g2, st_g3, st_g4, st_g5, st_g6, st_g7, st_g8, st_g9, st_s0, st_s1, st_s2, st_s3, st_s4, st_s5, st_s6, st_s7, st_s8, st_s9, List.length_cons, List.length_nil, List.take_succ_cons, List.take_zero, List.drop_succ_cons, List.drop_zero, List.reverse_cons, List.reverse_nil, List.nil_append, List.cons_append, List.all_cons, List.all_nil, ms_nl, Bool.and_true, Nat.reduceLeDiff, Nat.reduceAdd, Nat.reduceLT, Nat.reduceEqDiff, if_true, if_false, true_and, and_true, ms_rt, List.cons.injEq, exists_eq_left, exists_eq_right, exists_and_left, exists_and_right, ms_one, ite_true, ite_false, reduceIte, imp_self, Nat.zero_add, Nat.add_zero, zero_le_any, Nat.le_refl, Int.zero_add, true_or, or_true, false_implies, Int.reduceLE, Int.reduceLT, Int.reduceNeg, Int.reduceAdd, Int.reduceSub, Int.reduceMul, Int.reduceEq, not_true, not_false_iff, and_self, implies_true, false_and, and_false, or_false, false_or, bX5_notes_0, bX5_notes_1, bX5_notes_2, bX5_notes_100, lX5_notes_0, lX5_notes_1, lX5_notes_2, lX5_notes_100, qX5_notes, sh_b, hR, shH_v, hu, hs_v]
    refine ⟨rg_of (by omega) (by omega), rg_of (by omega) (by omega), ?_⟩
    refine m_writes (N := 100) ?_ ar_53 (by decide) (by omega) ?_
    · unfold RM
      simp only [hs_v, shH_v, hR, Int.reduceEq, false_and, and_false, if_false, and_self]
    · simp only [sq_c, jp_s, jp_c, rc_0, rc_s, ms_ex, o_iload, o_aload, o_istore, o_astore, o_iinc, o_bin, o_div, o_rem, o_neg, o_and, o_shl, o_shr, o_dup, o_pop, o_dup2, o_if, o_icmp, o_switch, o_sw, o_get, o_put, o_iald, o_iast, o_zald, o_zast, o_aald, o_aast, o_len, ob_s, ob_n, o_call, o_max, o_min, o_copy, o_obj, o_lpush, o_ladd, o_lcmp, o_iret, o_lret, o_vret, i1_c, l1_c, r1_c, st_g0, st_g1, st_g2, st_g3, st_g4, st_g5, st_g6, st_g7, st_g8, st_g9, st_s0, st_s1, st_s2, st_s3, st_s4, st_s5, st_s6, st_s7, st_s8, st_s9, List.length_cons, List.length_nil, List.take_succ_cons, List.take_zero, List.drop_succ_cons, List.drop_zero, List.reverse_cons, List.reverse_nil, List.nil_append, List.cons_append, List.all_cons, List.all_nil, ms_nl, Bool.and_true, Nat.reduceLeDiff, Nat.reduceAdd, Nat.reduceLT, Nat.reduceEqDiff, if_true, if_false, true_and, and_true, ms_rt, List.cons.injEq, exists_eq_left, exists_eq_right, exists_and_left, exists_and_right, ms_one, ite_true, ite_false, reduceIte, imp_self, Nat.zero_add, Nat.add_zero, zero_le_any, Nat.le_refl, Int.zero_add, true_or, or_true, false_implies, Int.reduceLE, Int.reduceLT, Int.reduceNeg, Int.reduceAdd, Int.reduceSub, Int.reduceMul, Int.reduceEq, not_true, not_false_iff, and_self, implies_true, false_and, and_false, or_false, false_or, bX5_notes_0, bX5_notes_1, bX5_notes_2, bX5_notes_100, lX5_notes_0, lX5_notes_1, lX5_notes_2, lX5_notes_100, qX5_notes, sh_b, hR, shH_v, hu, hs_v, wrH_v, hs_hs]
      exact ⟨rg_of (by omega) (by omega), q⟩
  | succ j ih =>
    intro k hk h0
    have ih' := ih (k + 1) (by omega) (by omega)
    refine sq_at (ms_Ok_m ms_P _) 30 100 ?_
    simp only [sq_c, jp_s, jp_c, rc_0, rc_s, ms_ex, o_iload, o_aload, o_istore, o_astore, o_iinc, o_bin, o_div, o_rem, o_neg, o_and, o_shl, o_shr, o_dup, o_pop, o_dup2, o_if, o_icmp, o_switch, o_sw, o_get, o_put, o_iald, o_iast, o_zald, o_zast, o_aald, o_aast, o_len, ob_s, ob_n, o_call, o_max, o_min, o_copy, o_obj, o_lpush, o_ladd, o_lcmp, o_iret, o_lret, o_vret, i1_c, l1_c, r1_c, st_g0, st_g1, st_g2, st_g3, st_g4, st_g5, st_g6, st_g7, st_g8, st_g9, st_s0, st_s1, st_s2, st_s3, st_s4, st_s5, st_s6, st_s7, st_s8, st_s9, List.length_cons, List.length_nil, List.take_succ_cons, List.take_zero, List.drop_succ_cons, List.drop_zero, List.reverse_cons, List.reverse_nil, List.nil_append, List.cons_append, List.all_cons, List.all_nil, ms_nl, Bool.and_true, Nat.reduceLeDiff, Nat.reduceAdd, Nat.reduceLT, Nat.reduceEqDiff, if_true, if_false, true_and, and_true, ms_rt, List.cons.injEq, exists_eq_left, exists_eq_right, exists_and_left, exists_and_right, ms_one, ite_true, ite_false, reduceIte, imp_self, Nat.zero_add, Nat.add_zero, zero_le_any, Nat.le_refl, Int.zero_add, true_or, or_true, false_implies, Int.reduceLE, Int.reduceLT, Int.reduceNeg, Int.reduceAdd, Int.reduceSub, Int.reduceMul, Int.reduceEq, not_true, not_false_iff, and_self, implies_true, false_and, and_false, or_false, false_or, bX5_notes_0, bX5_notes_1, bX5_notes_2, bX5_notes_100, lX5_notes_0, lX5_notes_1, lX5_notes_2, lX5_notes_100, qX5_notes, sh_b, hR, shH_v, ar_53]
    refine ⟨fun h1 => by omega, fun h1 => ⟨rg_of (by omega) (by omega), by omega, by omega, by omega, by omega, rg_of (by omega) (by omega), ?_⟩⟩
    rw [if_neg (by omega), shH_s h0]
    exact ih'
theorem m_notes {d : Nat} {h : ms_H} {Q : ms_Q} (hR : RM h) (hu : 0 ≤ h 38 32 ∧ h 38 32 ≤ 10) (q : Q none SH (ntH h)) : ms_Ok ms_P (d + 2) 125 [mR 38] SH (h) Q := by
  refine ok_in (k := 30) MX5_notes rfl rfl ?_
  show sq (ms_Ok ms_P (d + 1)) ms_X1 MX5_notes Q 30 (M_bl MX5_notes 0) [mR 38, mL 0] [] (SH, 0, 0) (h)
  have hR0 := hR
  unfold RM at hR
  unfold ntH at q
  simp only [sq_c, jp_s, jp_c, rc_0, rc_s, ms_ex, o_iload, o_aload, o_istore, o_astore, o_iinc, o_bin, o_div, o_rem, o_neg, o_and, o_shl, o_shr, o_dup, o_pop, o_dup2, o_if, o_icmp, o_switch, o_sw, o_get, o_put, o_iald, o_iast, o_zald, o_zast, o_aald, o_aast, o_len, ob_s, ob_n, o_call, o_max, o_min, o_copy, o_obj, o_lpush, o_ladd, o_lcmp, o_iret, o_lret, o_vret, i1_c, l1_c, r1_c, st_g0, st_g1, st_g2, st_g3, st_g4, st_g5, st_g6, st_g7, st_g8, st_g9, st_s0, st_s1, st_s2, st_s3, st_s4, st_s5, st_s6, st_s7, st_s8, st_s9, List.length_cons, List.length_nil, List.take_succ_cons, List.take_zero, List.drop_succ_cons, List.drop_zero, List.reverse_cons, List.reverse_nil, List.nil_append, List.cons_append, List.all_cons, List.all_nil, ms_nl, Bool.and_true, Nat.reduceLeDiff, Nat.reduceAdd, Nat.reduceLT, Nat.reduceEqDiff, if_true, if_false, true_and, and_true, ms_rt, List.cons.injEq, exists_eq_left, exists_eq_right, exists_and_left, exists_and_right, ms_one, ite_true, ite_false, reduceIte, imp_self, Nat.zero_add, Nat.add_zero, zero_le_any, Nat.le_refl, Int.zero_add, true_or, or_true, false_implies, Int.reduceLE, Int.reduceLT, Int.reduceNeg, Int.reduceAdd, Int.reduceSub, Int.reduceMul, Int.reduceEq, not_true, not_false_iff, and_self, implies_true, false_and, and_false, or_false, false_or, bX5_notes_0, bX5_notes_1, bX5_notes_2, bX5_notes_100, lX5_notes_0, lX5_notes_1, lX5_notes_2, lX5_notes_100, qX5_notes, sh_b, hR]
  refine ⟨fun h1 => ?_, fun h1 => ?_⟩
  · rw [if_neg h1] at q
    refine ⟨rg_of (by omega) (by omega), ?_⟩
    refine m_writes (N := 100) hR0 ar_53 (by decide) (by omega) ?_
    simp only [sq_c, jp_s, jp_c, rc_0, rc_s, ms_ex, o_iload, o_aload, o_istore, o_astore, o_iinc, o_bin, o_div, o_rem, o_neg, o_and, o_shl, o_shr, o_dup, o_pop, o_dup2, o_if, o_icmp, o_switch, o_sw, o_get, o_put, o_iald, o_iast, o_zald, o_zast, o_aald, o_aast, o_len, ob_s, ob_n, o_call, o_max, o_min, o_copy, o_obj, o_lpush, o_ladd, o_lcmp, o_iret, o_lret, o_vret, i1_c, l1_c, r1_c, st_g0, st_g1, st_g2, st_g3, st_g4, st_g5, st_g6, st_g7, st_g8, st_g9, st_s0, st_s1, st_s2, st_s3, st_s4, st_s5, st_s6, st_s7, st_s8, st_s9, List.length_cons, List.length_nil, List.take_succ_cons, List.take_zero, List.drop_succ_cons, List.drop_zero, List.reverse_cons, List.reverse_nil, List.nil_append, List.cons_append, List.all_cons, List.all_nil, ms_nl, Bool.and_true, Nat.reduceLeDiff, Nat.reduceAdd, Nat.reduceLT, Nat.reduceEqDiff, if_true, if_false, true_and, and_true, ms_rt, List.cons.injEq, exists_eq_left, exists_eq_right, exists_and_left, exists_and_right, ms_one, ite_true, ite_false, reduceIte, imp_self, Nat.zero_add, Nat.add_zero, zero_le_any, Nat.le_refl, Int.zero_add, true_or, or_true, false_implies, Int.reduceLE, Int.reduceLT, Int.reduceNeg, Int.reduceAdd, Int.reduceSub, Int.reduceMul, Int.reduceEq, not_true, not_false_iff, and_self, implies_true, false_and, and_false, or_false, false_or, bX5_notes_0, bX5_notes_1, bX5_notes_2, bX5_notes_100, lX5_notes_0, lX5_notes_1, lX5_notes_2, lX5_notes_100, qX5_notes, sh_b, hR, hs_v, wrH_v, hs_hs]
    exact ⟨rg_of (by omega) (by omega), q⟩
  · rw [if_pos h1] at q
    have := m_notes_lp (d := d) hR0 h1 q 90 0 (by omega) (by omega)
    rw [shH_0] at this
    exact this
