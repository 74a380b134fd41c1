/-! The model: sums, common divisors, orders, halves. -/
def gc (x y : Int) : Int := (Nat.gcd x.toNat y.toNat : Int)
theorem gc_0 {x : Int} (hx : 0 ≤ x) : gc x 0 = x := by
  unfold gc
  rw [show (0 : Int).toNat = 0 from rfl, Nat.gcd_zero_right]
  omega
theorem gc_s {x y : Int} (hx : 0 ≤ x) (hy : 0 < y) : gc x y = gc y (x % y) := by
  unfold gc
  rw [Nat.gcd_comm x.toNat, Nat.gcd_rec, Nat.gcd_comm]
  congr 2
  rw [Int.toNat_emod hx (by omega)]
theorem m_common_lp {d : Nat} {h : ms_H} {Q : ms_Q} {g v0 v1 : Int} {rv : ms_V} (q : Q (some (mI g)) SH h) : ∀ (n : Nat) (x y : Int) (rv : ms_V), y.toNat < n → 0 ≤ x → 0 ≤ y → x ≤ 2000000000 → y ≤ 2000000000 → gc x y = g → ms_at (ms_Ok ms_P (d)) ms_X1 MX5_common Q 100 [mI v0, mI v1, mI x, mI y, rv] [] (SH, 0, 0) (h) := by
  intro n
  induction n with
  | zero => intro x y rv h1; omega
  | succ n ih =>
    intro x y rv h1 hx hy hx2 hy2 hg
    refine sq_at (ms_Ok_m ms_P _) 30 100 ?_
    simp only [sq_c, jp_s, jp_c, rc_0, rc_s, ms_ex, o_iload, o_aload, o_istore, o_astore, o_iinc, o_bin, o_div, o_rem, o_neg, o_and, o_shl, o_shr, o_dup, o_pop, o_dup2, o_if, o_icmp, o_switch, o_sw, o_get, o_put, o_iald, o_iast, o_zald, o_zast, o_aald, o_aast, o_len, ob_s, ob_n, o_call, o_max, o_min, o_copy, o_obj, o_lpush, o_ladd, o_lcmp, o_iret, o_lret, o_vret, i1_c, l1_c, r1_c, st_g0, st_g1, st_g2, st_g3, st_g4, st_g5, st_g6, st_g7, st_g8, st_g9, st_s0, st_s1, st_s2, st_s3, st_s4, st_s5, st_s6, st_s7, st_s8, st_s9, List.length_cons, List.length_nil, List.take_succ_cons, List.take_zero, List.drop_succ_cons, List.drop_zero, List.reverse_cons, List.reverse_nil, List.nil_append, List.cons_append, List.all_cons, List.all_nil, ms_nl, Bool.and_true, Nat.reduceLeDiff, Nat.reduceAdd, Nat.reduceLT, Nat.reduceEqDiff, if_true, if_false, true_and, and_true, ms_rt, List.cons.injEq, exists_eq_left, exists_eq_right, exists_and_left, exists_and_right, ms_one, ite_true, ite_false, reduceIte, imp_self, Nat.zero_add, Nat.add_zero, zero_le_any, Nat.le_refl, Int.zero_add, true_or, or_true, false_implies, Int.reduceLE, Int.reduceLT, Int.reduceNeg, Int.reduceAdd, Int.reduceSub, Int.reduceMul, Int.reduceEq, not_true, not_false_iff, and_self, implies_true, false_and, and_false, or_false, false_or, bX5_common_0, bX5_common_1, bX5_common_100, lX5_common_0, lX5_common_1, lX5_common_100, qX5_common, sh_b]
    refine ⟨fun h2 => ?_, fun h2 => ?_⟩
    · subst h2
      rw [gc_0 hx] at hg
      rw [hg]
      exact q
    · have hb := emod_b (a := x) (b := y) (by omega)
      have hb2 : x % y ≤ 2000000000 := by omega
      rw [tmod_p hx]
      refine ⟨h2, ih _ _ _ (by omega) hy hb.1 hy2 hb2 ?_⟩
      rw [← gc_s hx (by omega)]
      exact hg
theorem m_common {d : Nat} {a b : Int} {h : ms_H} {Q : ms_Q} (ha : 0 ≤ a ∧ a ≤ 2000000000) (hb : 0 ≤ b ∧ b ≤ 2000000000) (q : Q (some (mI (gc a b))) SH h) : ms_Ok ms_P (d + 1) 92 [mI a, mI b] SH (h) Q := by
  refine ok_in (k := 30) MX5_common rfl rfl ?_
  show sq (ms_Ok ms_P (d)) ms_X1 MX5_common Q 30 (M_bl MX5_common 0) [mI a, mI b, mL 0, mL 0, mL 0] [] (SH, 0, 0) (h)
  simp only [sq_c, jp_s, jp_c, rc_0, rc_s, ms_ex, o_iload, o_aload, o_istore, o_astore, o_iinc, o_bin, o_div, o_rem, o_neg, o_and, o_shl, o_shr, o_dup, o_pop, o_dup2, o_if, o_icmp, o_switch, o_sw, o_get, o_put, o_iald, o_iast, o_zald, o_zast, o_aald, o_aast, o_len, ob_s, ob_n, o_call, o_max, o_min, o_copy, o_obj, o_lpush, o_ladd, o_lcmp, o_iret, o_lret, o_vret, i1_c, l1_c, r1_c, st_g0, st_g1, st_g2, st_g3, st_g4, st_g5, st_g6, st_g7, st_g8, st_g9, st_s0, st_s1, st_s2, st_s3, st_s4, st_s5, st_s6, st_s7, st_s8, st_s9, List.length_cons, List.length_nil, List.take_succ_cons, List.take_zero, List.drop_succ_cons, List.drop_zero, List.reverse_cons, List.reverse_nil, List.nil_append, List.cons_append, List.all_cons, List.all_nil, ms_nl, Bool.and_true, Nat.reduceLeDiff, Nat.reduceAdd, Nat.reduceLT, Nat.reduceEqDiff, if_true, if_false, true_and, and_true, ms_rt, List.cons.injEq, exists_eq_left, exists_eq_right, exists_and_left, exists_and_right, ms_one, ite_true, ite_false, reduceIte, imp_self, Nat.zero_add, Nat.add_zero, zero_le_any, Nat.le_refl, Int.zero_add, true_or, or_true, false_implies, Int.reduceLE, Int.reduceLT, Int.reduceNeg, Int.reduceAdd, Int.reduceSub, Int.reduceMul, Int.reduceEq, not_true, not_false_iff, and_self, implies_true, false_and, and_false, or_false, false_or, bX5_common_0, bX5_common_1, bX5_common_100, lX5_common_0, lX5_common_1, lX5_common_100, qX5_common, sh_b]
  exact m_common_lp (rv := mI 0) q (b.toNat + 1) a b _ (by omega) ha.1 hb.1 ha.2 hb.2 rfl
theorem ord_s {k : Int} (h1 : 2 ≤ k) (h2 : k ≤ 6) : ms_ord k = ms_ord (k - 1) * k := by
  have : k = 2 ∨ k = 3 ∨ k = 4 ∨ k = 5 ∨ k = 6 := by omega
  rcases this with rfl | rfl | rfl | rfl | rfl <;> decide
theorem ord_b (k : Int) : 1 ≤ ms_ord k ∧ ms_ord k ≤ 720 := by
  unfold ms_ord
  repeat' split
  all_goals omega
theorem m_orders_lp {d : Nat} {h : ms_H} {Q : ms_Q} {N : Int} (hN : 0 ≤ N ∧ N ≤ 6) (q : Q (some (mI (ms_ord N))) SH h) : ∀ (n : Nat) (k : Int), k + n = 8 → 2 ≤ k → (k ≤ N + 1 ∨ k = 2) → ms_at (ms_Ok ms_P (d)) ms_X1 MX5_orders Q 100 [mI N, mI (ms_ord (k - 1)), mI k] [] (SH, 0, 0) (h) := by
  intro n
  induction n with
  | zero => intro k h1 h2 h3; omega
  | succ n ih =>
    intro k h1 h2 h3
    have hb := ord_b (k - 1)
    refine sq_at (ms_Ok_m ms_P _) 30 100 ?_
    simp only [sq_c, jp_s, jp_c, rc_0, rc_s, ms_ex, o_iload, o_aload, o_istore, o_astore, o_iinc, o_bin, o_div, o_rem, o_neg, o_and, o_shl, o_shr, o_dup, o_pop, o_dup2, o_if, o_icmp, o_switch, o_sw, o_get, o_put, o_iald, o_iast, o_zald, o_zast, o_aald, o_aast, o_len, ob_s, ob_n, o_call, o_max, o_min, o_copy, o_obj, o_lpush, o_ladd, o_lcmp, o_iret, o_lret, o_vret, i1_c, l1_c, r1_c, st_g0, st_g1, st_g2, st_g3, st_g4, st_g5, st_g6, st_g7, st_g8, st_g9, st_s0, st_s1, st_s2, st_s3, st_s4, st_s5, st_s6, st_s7, st_s8, st_s9, List.length_cons, List.length_nil, List.take_succ_cons, List.take_zero, List.drop_succ_cons, List.drop_zero, List.reverse_cons, List.reverse_nil, List.nil_append, List.cons_append, List.all_cons, List.all_nil, ms_nl, Bool.and_true, Nat.reduceLeDiff, Nat.reduceAdd, Nat.reduceLT, Nat.reduceEqDiff, if_true, if_false, true_and, and_true, ms_rt, List.cons.injEq, exists_eq_left, exists_eq_right, exists_and_left, exists_and_right, ms_one, ite_true, ite_false, reduceIte, imp_self, Nat.zero_add, Nat.add_zero, zero_le_any, Nat.le_refl, Int.zero_add, true_or, or_true, false_implies, Int.reduceLE, Int.reduceLT, Int.reduceNeg, Int.reduceAdd, Int.reduceSub, Int.reduceMul, Int.reduceEq, not_true, not_false_iff, and_self, implies_true, false_and, and_false, or_false, false_or, bX5_orders_0, bX5_orders_1, bX5_orders_100, lX5_orders_0, lX5_orders_1, lX5_orders_100, qX5_orders, sh_b]
    refine ⟨fun h4 => ?_, fun h4 => ?_⟩
    · have e : ms_ord (k - 1) = ms_ord N := by
        by_cases h5 : k = N + 1
        · rw [h5]; congr 1; omega
        · have : N = 0 := by omega
          have : k = 2 := by omega
          subst this; subst N; rfl
      rw [e]; exact q
    · have e := ord_s h2 (by omega)
      have hb2 := ord_b k
      rw [← e]
      refine ⟨rg_of (by omega) (by omega), rg_of (by omega) (by omega), ?_⟩
      have := ih (k + 1) (by omega) (by omega) (by omega)
      rw [show k + 1 - 1 = k by omega] at this
      exact this
theorem m_orders {d : Nat} {N : Int} {h : ms_H} {Q : ms_Q} (hN : 0 ≤ N ∧ N ≤ 6) (q : Q (some (mI (ms_ord N))) SH h) : ms_Ok ms_P (d + 1) 144 [mI N] SH (h) Q := by
  refine ok_in (k := 30) MX5_orders rfl rfl ?_
  show sq (ms_Ok ms_P (d)) ms_X1 MX5_orders Q 30 (M_bl MX5_orders 0) [mI N, mL 0, mL 0] [] (SH, 0, 0) (h)
  simp only [sq_c, jp_s, jp_c, rc_0, rc_s, ms_ex, o_iload, o_aload, o_istore, o_astore, o_iinc, o_bin, o_div, o_rem, o_neg, o_and, o_shl, o_shr, o_dup, o_pop, o_dup2, o_if, o_icmp, o_switch, o_sw, o_get, o_put, o_iald, o_iast, o_zald, o_zast, o_aald, o_aast, o_len, ob_s, ob_n, o_call, o_max, o_min, o_copy, o_obj, o_lpush, o_ladd, o_lcmp, o_iret, o_lret, o_vret, i1_c, l1_c, r1_c, st_g0, st_g1, st_g2, st_g3, st_g4, st_g5, st_g6, st_g7, st_g8, st_g9, st_s0, st_s1, st_s2, st_s3, st_s4, st_s5, st_s6, st_s7, st_s8, st_s9, List.length_cons, List.length_nil, List.take_succ_cons, List.take_zero, List.drop_succ_cons, List.drop_zero, List.reverse_cons, List.reverse_nil, List.nil_append, List.cons_append, List.all_cons, List.all_nil, ms_nl, Bool.and_true, Nat.reduceLeDiff, Nat.reduceAdd, Nat.reduceLT, Nat.reduceEqDiff, if_true, if_false, true_and, and_true, ms_rt, List.cons.injEq, exists_eq_left, exists_eq_right, exists_and_left, exists_and_right, ms_one, ite_true, ite_false, reduceIte, imp_self, Nat.zero_add, Nat.add_zero, zero_le_any, Nat.le_refl, Int.zero_add, true_or, or_true, false_implies, Int.reduceLE, Int.reduceLT, Int.reduceNeg, Int.reduceAdd, Int.reduceSub, Int.reduceMul, Int.reduceEq, not_true, not_false_iff, and_self, implies_true, false_and, and_false, or_false, false_or, bX5_orders_0, bX5_orders_1, bX5_orders_100, lX5_orders_0, lX5_orders_1, lX5_orders_100, qX5_orders, sh_b]
  exact m_orders_lp hN q 6 2 (by omega) (by omega) (Or.inr rfl)
/-- the weight of a set of voters -/
def wt (w : Int → Int) (set : Int) (n : Nat) : Int := sm (fun v => if set / 2 ^ v.toNat % 2 = 1 then w v else 0) n
theorem wt_b {w : Int → Int} {set : Int} {n : Nat} (h : ∀ i : Int, 0 ≤ i → i < n → 1 ≤ w i ∧ w i ≤ 9) : 0 ≤ wt w set n ∧ wt w set n ≤ 9 * n := by
  have := sm_b (g := fun v => if set / 2 ^ v.toNat % 2 = 1 then w v else 0) (lo := 0) (hi := 9) n (fun i h0 h1 => by
    have := h i h0 h1
    split <;> omega)
  unfold wt
  omega
theorem m_weightOf_lp {d : Nat} {h : ms_H} {Q : ms_Q} {set : Int} (hv : MV h) (hs : 0 ≤ set ∧ set < 64) (q : Q (some (mI (wt (h 43) set (h 38 1).toNat))) SH h) : ∀ (n : Nat) (k : Nat), k + n = (h 38 1).toNat → ms_at (ms_Ok ms_P (d)) ms_X1 MX5_weightOf Q 100 [mR 38, mI set, mI (wt (h 43) set k), mI k] [] (SH, 0, 0) (h) := by
  have hR := hv.1
  have hb := hv.2.1.2.1
  have hw := hv.2.2.2.2.1
  unfold RM at hR
  intro n
  induction n with
  | zero =>
    intro k hk
    refine sq_at (ms_Ok_m ms_P _) 30 100 ?_
    simp only [sq_c, jp_s, jp_c, rc_0, rc_s, ms_ex, o_iload, o_aload, o_istore, o_astore, o_iinc, o_bin, o_div, o_rem, o_neg, o_and, o_shl, o_shr, o_dup, o_pop, o_dup2, o_if, o_icmp, o_switch, o_sw, o_get, o_put, o_iald, o_iast, o_zald, o_zast, o_aald, o_aast, o_len, ob_s, ob_n, o_call, o_max, o_min, o_copy, o_obj, o_lpush, o_ladd, o_lcmp, o_iret, o_lret, o_vret, i1_c, l1_c, r1_c, st_g0, st_g1, st_g2, st_g3, st_g4, st_g5, st_g6, st_g7, st_g8, st_g9, st_s0, st_s1, st_s2, st_s3, st_s4, st_s5, st_s6, st_s7, st_s8, st_s9, List.length_cons, List.length_nil, List.take_succ_cons, List.take_zero, List.drop_succ_cons, List.drop_zero, List.reverse_cons, List.reverse_nil, List.nil_append, List.cons_append, List.all_cons, List.all_nil, ms_nl, Bool.and_true, Nat.reduceLeDiff, Nat.reduceAdd, Nat.reduceLT, Nat.reduceEqDiff, if_true, if_false, true_and, and_true, ms_rt, List.cons.injEq, exists_eq_left, exists_eq_right, exists_and_left, exists_and_right, ms_one, ite_true, ite_false, reduceIte, imp_self, Nat.zero_add, Nat.add_zero, zero_le_any, Nat.le_refl, Int.zero_add, true_or, or_true, false_implies, Int.reduceLE, Int.reduceLT, Int.reduceNeg, Int.reduceAdd, Int.reduceSub, Int.reduceMul, Int.reduceEq, not_true, not_false_iff, and_self, implies_true, false_and, and_false, or_false, false_or, bX5_weightOf_0, bX5_weightOf_1, bX5_weightOf_2, bX5_weightOf_3, bX5_weightOf_100, lX5_weightOf_0, lX5_weightOf_1, lX5_weightOf_2, lX5_weightOf_3, lX5_weightOf_100, qX5_weightOf, sh_b, hR, ar_43]
    refine ⟨fun _ => ?_, fun h1 => by omega⟩
    rw [show k = (h 38 1).toNat by omega]
    exact q
  | succ n ih =>
    intro k hk
    have hwk := hw k (by omega) (by omega)
    have hwb := wt_b (w := h 43) (set := set) (n := k) (fun i h0 h1 => (hw i h0 (by omega)).1)
    have ih' := ih (k + 1) (by omega)
    refine sq_at (ms_Ok_m ms_P _) 30 100 ?_
    simp only [sq_c, jp_s, jp_c, rc_0, rc_s, ms_ex, o_iload, o_aload, o_istore, o_astore, o_iinc, o_bin, o_div, o_rem, o_neg, o_and, o_shl, o_shr, o_dup, o_pop, o_dup2, o_if, o_icmp, o_switch, o_sw, o_get, o_put, o_iald, o_iast, o_zald, o_zast, o_aald, o_aast, o_len, ob_s, ob_n, o_call, o_max, o_min, o_copy, o_obj, o_lpush, o_ladd, o_lcmp, o_iret, o_lret, o_vret, i1_c, l1_c, r1_c, st_g0, st_g1, st_g2, st_g3, st_g4, st_g5, st_g6, st_g7, st_g8, st_g9, st_s0, st_s1, st_s2, st_s3, st_s4, st_s5, st_s6, st_s7, st_s8, st_s9, List.length_cons, List.length_nil, List.take_succ_cons, List.take_zero, List.drop_succ_cons, List.drop_zero, List.reverse_cons, List.reverse_nil, List.nil_append, List.cons_append, List.all_cons, List.all_nil, ms_nl, Bool.and_true, Nat.reduceLeDiff, Nat.reduceAdd, Nat.reduceLT, Nat.reduceEqDiff, if_true, if_false, true_and, and_true, ms_rt, List.cons.injEq, exists_eq_left, exists_eq_right, exists_and_left, exists_and_right, ms_one, ite_true, ite_false, reduceIte, imp_self, Nat.zero_add, Nat.add_zero, zero_le_any, Nat.le_refl, Int.zero_add, true_or, or_true, false_implies, Int.reduceLE, Int.reduceLT, Int.reduceNeg, Int.reduceAdd, Int.reduceSub, Int.reduceMul, Int.reduceEq, not_true, not_false_iff, and_self, implies_true, false_and, and_false, or_false, false_or, bX5_weightOf_0, bX5_weightOf_1, bX5_weightOf_2, bX5_weightOf_3, bX5_weightOf_100, lX5_weightOf_0, lX5_weightOf_1, lX5_weightOf_2, lX5_weightOf_3, lX5_weightOf_100, qX5_weightOf, sh_b, hR, ar_43]
    refine ⟨fun h1 => by omega, fun h1 => ?_⟩
    refine ⟨by omega, by omega, by omega, fun h2 => ?_, fun h2 => ?_⟩
    · have e : wt (h 43) set (k + 1) = wt (h 43) set k := by
        show wt (h 43) set k + _ = _
        dsimp only
        rw [if_neg h2]; omega
      refine ⟨rg_of (by omega) (by omega), rg_of (by omega) (by omega), ?_⟩
      rw [e] at ih'
      rw [Int.add_zero]
      exact ih'
    · have e : wt (h 43) set (k + 1) = wt (h 43) set k + h 43 k := by
        show wt (h 43) set k + _ = _
        dsimp only
        rw [if_pos h2]
      refine ⟨by omega, by omega, rg_of (by omega) (by omega), rg_of (by omega) (by omega), ?_⟩
      rw [e] at ih'
      exact ih'
theorem m_weightOf {d : Nat} {set : Int} {h : ms_H} {Q : ms_Q} (hv : MV h) (hs : 0 ≤ set ∧ set < 64) (q : Q (some (mI (wt (h 43) set (h 38 1).toNat))) SH h) : ms_Ok ms_P (d + 1) 145 [mR 38, mI set] SH (h) Q := by
  refine ok_in (k := 30) MX5_weightOf rfl rfl ?_
  show sq (ms_Ok ms_P (d)) ms_X1 MX5_weightOf Q 30 (M_bl MX5_weightOf 0) [mR 38, mI set, mL 0, mL 0] [] (SH, 0, 0) (h)
  simp only [sq_c, jp_s, jp_c, rc_0, rc_s, ms_ex, o_iload, o_aload, o_istore, o_astore, o_iinc, o_bin, o_div, o_rem, o_neg, o_and, o_shl, o_shr, o_dup, o_pop, o_dup2, o_if, o_icmp, o_switch, o_sw, o_get, o_put, o_iald, o_iast, o_zald, o_zast, o_aald, o_aast, o_len, ob_s, ob_n, o_call, o_max, o_min, o_copy, o_obj, o_lpush, o_ladd, o_lcmp, o_iret, o_lret, o_vret, i1_c, l1_c, r1_c, st_g0, st_g1, st_g2, st_g3, st_g4, st_g5, st_g6, st_g7, st_g8, st_g9, st_s0, st_s1, st_s2, st_s3, st_s4, st_s5, st_s6, st_s7, st_s8, st_s9, List.length_cons, List.length_nil, List.take_succ_cons, List.take_zero, List.drop_succ_cons, List.drop_zero, List.reverse_cons, List.reverse_nil, List.nil_append, List.cons_append, List.all_cons, List.all_nil, ms_nl, Bool.and_true, Nat.reduceLeDiff, Nat.reduceAdd, Nat.reduceLT, Nat.reduceEqDiff, if_true, if_false, true_and, and_true, ms_rt, List.cons.injEq, exists_eq_left, exists_eq_right, exists_and_left, exists_and_right, ms_one, ite_true, ite_false, reduceIte, imp_self, Nat.zero_add, Nat.add_zero, zero_le_any, Nat.le_refl, Int.zero_add, true_or, or_true, false_implies, Int.reduceLE, Int.reduceLT, Int.reduceNeg, Int.reduceAdd, Int.reduceSub, Int.reduceMul, Int.reduceEq, not_true, not_false_iff, and_self, implies_true, false_and, and_false, or_false, false_or, bX5_weightOf_0, bX5_weightOf_1, bX5_weightOf_2, bX5_weightOf_3, bX5_weightOf_100, lX5_weightOf_0, lX5_weightOf_1, lX5_weightOf_2, lX5_weightOf_3, lX5_weightOf_100, qX5_weightOf, sh_b]
  exact m_weightOf_lp hv hs q (h 38 1).toNat 0 (by omega)
