/-! The model: power, odds. -/
theorem p2b : ∀ N : Nat, N ≤ 6 → 1 ≤ (2 : Int) ^ N ∧ (2 : Int) ^ N ≤ 64 := by
  intro N h
  have : N = 0 ∨ N = 1 ∨ N = 2 ∨ N = 3 ∨ N = 4 ∨ N = 5 ∨ N = 6 := by omega
  rcases this with rfl | rfl | rfl | rfl | rfl | rfl | rfl <;> decide
theorem p2c (N : Nat) : ((2 ^ N : Nat) : Int) = (2 : Int) ^ N := cast_pow N
/-- how many are in a set -/
def pcn (set : Int) : Nat → Int := sm (fun k => set / 2 ^ k.toNat % 2)
theorem pcn_b (set : Int) (n : Nat) : 0 ≤ pcn set n ∧ pcn set n ≤ n := by
  have := sm_b (g := fun k => set / 2 ^ k.toNat % 2) (lo := 0) (hi := 1) n (fun i h0 h1 => by omega)
  unfold pcn
  omega
theorem pcn_v {set v : Int} (hv : set / 2 ^ v.toNat % 2 = 0) : ∀ n : Nat, 0 ≤ v → v < n → pcn set n ≤ n - 1
  | 0, h0, h1 => by omega
  | n + 1, h0, h1 => by
    have e : pcn set (n + 1) = pcn set n + set / 2 ^ (n : Int).toNat % 2 := rfl
    by_cases h2 : v = n
    · subst h2
      have := pcn_b set n
      omega
    · have := pcn_v hv n h0 (by omega)
      omega
def pwT (w : Int → Int) (N : Nat) (v set : Int) : Int := if set / 2 ^ v.toNat % 2 = 0 ∧ 2 * wt w set N ≤ wt w (2 ^ N - 1) N ∧ wt w (2 ^ N - 1) N < 2 * (wt w set N + w v) then ms_ord (pcn set N) * ms_ord (N - 1 - pcn set N) else 0
theorem ord_mb (a b : Int) : 0 ≤ ms_ord a * ms_ord b ∧ ms_ord a * ms_ord b ≤ 518400 := by
  have h1 := ord_b a
  have h2 := ord_b b
  refine ⟨Int.mul_nonneg (by omega) (by omega), ?_⟩
  have h3 := Int.mul_le_mul_of_nonneg_right h1.2 (show 0 ≤ ms_ord b by omega)
  omega
theorem pwT_b (w : Int → Int) (N : Nat) (v set : Int) : 0 ≤ pwT w N v set ∧ pwT w N v set ≤ 518400 := by
  unfold pwT
  split
  · exact ord_mb _ _
  · omega
def pwG (w : Int → Int) (N : Nat) (v : Int) : Int := sm (pwT w N v) (2 ^ N)
theorem pwS_b (w : Int → Int) (N : Nat) (v : Int) (n : Nat) (hn : n ≤ 64) : 0 ≤ sm (pwT w N v) n ∧ sm (pwT w N v) n ≤ 33177600 := by
  have := sm_b (g := pwT w N v) (lo := 0) (hi := 518400) n (fun i _ _ => pwT_b w N v i)
  omega
theorem gc_b {a b : Int} (hb : 1 ≤ b) : 1 ≤ gc a b := by
  unfold gc
  have : 0 < Nat.gcd a.toNat b.toNat := Nat.gcd_pos_of_pos_right _ (by omega)
  omega
theorem div_b {a b : Int} (ha : 0 ≤ a) (hb : 1 ≤ b) : 0 ≤ a / b ∧ a / b ≤ a := ⟨Int.ediv_nonneg ha (by omega), Int.ediv_le_self _ ha⟩
set_option maxRecDepth 50000 in
theorem m_power_in {d : Nat} {h : ms_H} {Q : ms_Q} {v w al g aw : Int} {set : Int} (hv : MV h) (hs : 0 ≤ set ∧ set < 64) (hg : 0 ≤ g ∧ g ≤ 40000000) (hz : pcn set (h 38 1).toNat ≤ h 38 1 - 1) (K : ∀ a b c, ms_at (ms_Ok ms_P (d + 1)) ms_X1 MX5_power Q 100 [mR 38, mI v, mI w, mI al, mI (g + ms_ord (pcn set (h 38 1).toNat) * ms_ord (h 38 1 - 1 - pcn set (h 38 1).toNat)), mI (set + 1), a, b, c] [] (SH, 0, 0) (h)) : ∀ (j k : Nat), k + j = (h 38 1).toNat → ms_at (ms_Ok ms_P (d + 1)) ms_X1 MX5_power Q 101 [mR 38, mI v, mI w, mI al, mI g, mI set, mI aw, mI (pcn set k), mI k] [] (SH, 0, 0) (h) := by
  have hb := hv.2.1.2.1
  intro j
  induction j with
  | zero =>
    intro k hk
    have : k = (h 38 1).toNat := by omega
    subst this
    have hpb := pcn_b set (h 38 1).toNat
    refine sq_at (ms_Ok_m ms_P _) 30 101 ?_
    simp only [sq_c, jp_s, jp_c, rc_0, rc_s, ms_ex, o_iload, o_aload, o_istore, o_astore, o_iinc, o_bin, o_div, o_rem, o_neg, o_and, o_shl, o_shr, o_dup, o_pop, o_dup2, o_if, o_icmp, o_switch, o_sw, o_get, o_put, o_iald, o_iast, o_zald, o_zast, o_aald, o_aast, o_len, ob_s, ob_n, o_call, o_max, o_min, o_copy, o_obj, o_lpush, o_ladd, o_lcmp, o_iret, o_lret, o_vret, i1_c, l1_c, r1_c, st_g0, st_g1, st_g2, st_g3, st_g4, st_g5, st_g6, st_g7, st_g8, st_g9, st_s0, st_s1, st_s2, st_s3, st_s4, st_s5, st_s6, st_s7, st_s8, st_s9, List.length_cons, List.length_nil, List.take_succ_cons, List.take_zero, List.drop_succ_cons, List.drop_zero, List.reverse_cons, List.reverse_nil, List.nil_append, List.cons_append, List.all_cons, List.all_nil, ms_nl, Bool.and_true, Nat.reduceLeDiff, Nat.reduceAdd, Nat.reduceLT, Nat.reduceEqDiff, if_true, if_false, true_and, and_true, ms_rt, List.cons.injEq, exists_eq_left, exists_eq_right, exists_and_left, exists_and_right, ms_one, ite_true, ite_false, reduceIte, imp_self, Nat.zero_add, Nat.add_zero, zero_le_any, Nat.le_refl, Int.zero_add, true_or, or_true, false_implies, Int.reduceLE, Int.reduceLT, Int.reduceNeg, Int.reduceAdd, Int.reduceSub, Int.reduceMul, Int.reduceEq, not_true, not_false_iff, and_self, implies_true, false_and, and_false, or_false, false_or, bX5_power_0, bX5_power_1, bX5_power_2, bX5_power_3, bX5_power_4, bX5_power_5, bX5_power_6, bX5_power_7, bX5_power_100, bX5_power_101, lX5_power_0, lX5_power_1, lX5_power_2, lX5_power_3, lX5_power_4, lX5_power_5, lX5_power_6, lX5_power_7, lX5_power_100, lX5_power_101, qX5_power, sh_b]
    refine ⟨fun _ => ?_, fun h1 => by omega⟩
    refine m_orders (by omega) ?_
    simp only [sq_c, jp_s, jp_c, rc_0, rc_s, ms_ex, o_iload, o_aload, o_istore, o_astore, o_iinc, o_bin, o_div, o_rem, o_neg, o_and, o_shl, o_shr, o_dup, o_pop, o_dup2, o_if, o_icmp, o_switch, o_sw, o_get, o_put, o_iald, o_iast, o_zald, o_zast, o_aald, o_aast, o_len, ob_s, ob_n, o_call, o_max, o_min, o_copy, o_obj, o_lpush, o_ladd, o_lcmp, o_iret, o_lret, o_vret, i1_c, l1_c, r1_c, st_g0, st_g1, st_g2, st_g3, st_g4, st_g5, st_g6, st_g7, st_g8, st_g9, st_s0, st_s1, st_s2, st_s3, st_s4, st_s5, st_s6, st_s7, st_s8, st_s9, List.length_cons, List.length_nil, List.take_succ_cons, List.take_zero, List.drop_succ_cons, List.drop_zero, List.reverse_cons, List.reverse_nil, List.nil_append, List.cons_append, List.all_cons, List.all_nil, ms_nl, Bool.and_true, Nat.reduceLeDiff, Nat.reduceAdd, Nat.reduceLT, Nat.reduceEqDiff, if_true, if_false, true_and, and_true, ms_rt, List.cons.injEq, exists_eq_left, exists_eq_right, exists_and_left, exists_and_right, ms_one, ite_true, ite_false, reduceIte, imp_self, Nat.zero_add, Nat.add_zero, zero_le_any, Nat.le_refl, Int.zero_add, true_or, or_true, false_implies, Int.reduceLE, Int.reduceLT, Int.reduceNeg, Int.reduceAdd, Int.reduceSub, Int.reduceMul, Int.reduceEq, not_true, not_false_iff, and_self, implies_true, false_and, and_false, or_false, false_or, bX5_power_0, bX5_power_1, bX5_power_2, bX5_power_3, bX5_power_4, bX5_power_5, bX5_power_6, bX5_power_7, bX5_power_100, bX5_power_101, lX5_power_0, lX5_power_1, lX5_power_2, lX5_power_3, lX5_power_4, lX5_power_5, lX5_power_6, lX5_power_7, lX5_power_100, lX5_power_101, qX5_power, sh_b]
    refine ⟨rg_of (by omega) (by omega), rg_of (by omega) (by omega), ?_⟩
    refine m_orders (by omega) ?_
    simp only [sq_c, jp_s, jp_c, rc_0, rc_s, ms_ex, o_iload, o_aload, o_istore, o_astore, o_iinc, o_bin, o_div, o_rem, o_neg, o_and, o_shl, o_shr, o_dup, o_pop, o_dup2, o_if, o_icmp, o_switch, o_sw, o_get, o_put, o_iald, o_iast, o_zald, o_zast, o_aald, o_aast, o_len, ob_s, ob_n, o_call, o_max, o_min, o_copy, o_obj, o_lpush, o_ladd, o_lcmp, o_iret, o_lret, o_vret, i1_c, l1_c, r1_c, st_g0, st_g1, st_g2, st_g3, st_g4, st_g5, st_g6, st_g7, st_g8, st_g9, st_s0, st_s1, st_s2, st_s3, st_s4, st_s5, st_s6, st_s7, st_s8, st_s9, List.length_cons, List.length_nil, List.take_succ_cons, List.take_zero, List.drop_succ_cons, List.drop_zero, List.reverse_cons, List.reverse_nil, List.nil_append, List.cons_append, List.all_cons, List.all_nil, ms_nl, Bool.and_true, Nat.reduceLeDiff, Nat.reduceAdd, Nat.reduceLT, Nat.reduceEqDiff, if_true, if_false, true_and, and_true, ms_rt, List.cons.injEq, exists_eq_left, exists_eq_right, exists_and_left, exists_and_right, ms_one, ite_true, ite_false, reduceIte, imp_self, Nat.zero_add, Nat.add_zero, zero_le_any, Nat.le_refl, Int.zero_add, true_or, or_true, false_implies, Int.reduceLE, Int.reduceLT, Int.reduceNeg, Int.reduceAdd, Int.reduceSub, Int.reduceMul, Int.reduceEq, not_true, not_false_iff, and_self, implies_true, false_and, and_false, or_false, false_or, bX5_power_0, bX5_power_1, bX5_power_2, bX5_power_3, bX5_power_4, bX5_power_5, bX5_power_6, bX5_power_7, bX5_power_100, bX5_power_101, lX5_power_0, lX5_power_1, lX5_power_2, lX5_power_3, lX5_power_4, lX5_power_5, lX5_power_6, lX5_power_7, lX5_power_100, lX5_power_101, qX5_power, sh_b]
    have := ord_mb (pcn set (h 38 1).toNat) (h 38 1 - 1 - pcn set (h 38 1).toNat)
    exact ⟨rg_of (by omega) (by omega), rg_of (by omega) (by omega), rg_of (by omega) (by omega), K _ _ _⟩
  | succ j ih =>
    intro k hk
    have ih' := ih (k + 1) (by omega)
    have hpb := pcn_b set k
    have e : pcn set (k + 1) = pcn set k + set / 2 ^ (k : Int).toNat % 2 := rfl
    have e2 : 0 ≤ set / 2 ^ (k : Int).toNat % 2 ∧ set / 2 ^ (k : Int).toNat % 2 ≤ 1 := by omega
    rw [e] at ih'
    refine sq_at (ms_Ok_m ms_P _) 30 101 ?_
    simp only [sq_c, jp_s, jp_c, rc_0, rc_s, ms_ex, o_iload, o_aload, o_istore, o_astore, o_iinc, o_bin, o_div, o_rem, o_neg, o_and, o_shl, o_shr, o_dup, o_pop, o_dup2, o_if, o_icmp, o_switch, o_sw, o_get, o_put, o_iald, o_iast, o_zald, o_zast, o_aald, o_aast, o_len, ob_s, ob_n, o_call, o_max, o_min, o_copy, o_obj, o_lpush, o_ladd, o_lcmp, o_iret, o_lret, o_vret, i1_c, l1_c, r1_c, st_g0, st_g1, st_g2, st_g3, st_g4, st_g5, st_g6, st_g7, st_g8, st_g9, st_s0, st_s1, st_s2, st_s3, st_s4, st_s5, st_s6, st_s7, st_s8, st_s9, List.length_cons, List.length_nil, List.take_succ_cons, List.take_zero, List.drop_succ_cons, List.drop_zero, List.reverse_cons, List.reverse_nil, List.nil_append, List.cons_append, List.all_cons, List.all_nil, ms_nl, Bool.and_true, Nat.reduceLeDiff, Nat.reduceAdd, Nat.reduceLT, Nat.reduceEqDiff, if_true, if_false, true_and, and_true, ms_rt, List.cons.injEq, exists_eq_left, exists_eq_right, exists_and_left, exists_and_right, ms_one, ite_true, ite_false, reduceIte, imp_self, Nat.zero_add, Nat.add_zero, zero_le_any, Nat.le_refl, Int.zero_add, true_or, or_true, false_implies, Int.reduceLE, Int.reduceLT, Int.reduceNeg, Int.reduceAdd, Int.reduceSub, Int.reduceMul, Int.reduceEq, not_true, not_false_iff, and_self, implies_true, false_and, and_false, or_false, false_or, bX5_power_0, bX5_power_1, bX5_power_2, bX5_power_3, bX5_power_4, bX5_power_5, bX5_power_6, bX5_power_7, bX5_power_100, bX5_power_101, lX5_power_0, lX5_power_1, lX5_power_2, lX5_power_3, lX5_power_4, lX5_power_5, lX5_power_6, lX5_power_7, lX5_power_100, lX5_power_101, qX5_power, sh_b]
    exact ⟨fun h1 => by omega, fun h1 => ⟨by omega, by omega, by omega, rg_of (by omega) (by omega), rg_of (by omega) (by omega), ih'⟩⟩
def frac (w a b : Int) : Int := if w = 0 then a / gc a b else b / gc a b
set_option maxRecDepth 50000 in
theorem m_power_lp {d : Nat} {h : ms_H} {Q : ms_Q} {v w : Int} (hv : MV h) (hvv : 0 ≤ v ∧ v < h 38 1) (q : Q (some (mI (frac w (pwG (h 43) (h 38 1).toNat v) (ms_ord (h 38 1))))) SH h) : ∀ (j k : Nat) (a b c : ms_V), k + j = 2 ^ (h 38 1).toNat → ms_at (ms_Ok ms_P (d + 1)) ms_X1 MX5_power Q 100 [mR 38, mI v, mI w, mI (wt (h 43) (2 ^ (h 38 1).toNat - 1) (h 38 1).toNat), mI (sm (pwT (h 43) (h 38 1).toNat v) k), mI k, a, b, c] [] (SH, 0, 0) (h) := by
  have hb := hv.2.1.2.1
  have hR := hv.1
  unfold RM at hR
  have hp := p2b (h 38 1).toNat (by omega)
  have hpc := p2c (h 38 1).toNat
  have hw := hv.2.2.2.2.1
  have hwb : ∀ s, 0 ≤ wt (h 43) s (h 38 1).toNat ∧ wt (h 43) s (h 38 1).toNat ≤ 9 * (h 38 1).toNat := fun s => wt_b (fun i h0 h1 => (hw i h0 (by omega)).1)
  have hal := hwb (2 ^ (h 38 1).toNat - 1)
  have hwv := (hw v hvv.1 hvv.2).1
  have hN : (((h 38 1).toNat : Nat) : Int) = h 38 1 := by omega
  intro j
  induction j with
  | zero =>
    intro k a b c hk
    have hk2 : (k : Int) = 2 ^ (h 38 1).toNat := by rw [← hpc]; omega
    have hgb := pwS_b (h 43) (h 38 1).toNat v k (by omega)
    refine sq_at (ms_Ok_m ms_P _) 30 100 ?_
    simp only [sq_c, jp_s, jp_c, rc_0, rc_s, ms_ex, o_iload, o_aload, o_istore, o_astore, o_iinc, o_bin, o_div, o_rem, o_neg, o_and, o_shl, o_shr, o_dup, o_pop, o_dup2, o_if, o_icmp, o_switch, o_sw, o_get, o_put, o_iald, o_iast, o_zald, o_zast, o_aald, o_aast, o_len, ob_s, ob_n, o_call, o_max, o_min, o_copy, o_obj, o_lpush, o_ladd, o_lcmp, o_iret, o_lret, o_vret, i1_c, l1_c, r1_c, st_g0, st_g1, st_g2, st_g3, st_g4, st_g5, st_g6, st_g7, st_g8, st_g9, st_s0, st_s1, st_s2, st_s3, st_s4, st_s5, st_s6, st_s7, st_s8, st_s9, List.length_cons, List.length_nil, List.take_succ_cons, List.take_zero, List.drop_succ_cons, List.drop_zero, List.reverse_cons, List.reverse_nil, List.nil_append, List.cons_append, List.all_cons, List.all_nil, ms_nl, Bool.and_true, Nat.reduceLeDiff, Nat.reduceAdd, Nat.reduceLT, Nat.reduceEqDiff, if_true, if_false, true_and, and_true, ms_rt, List.cons.injEq, exists_eq_left, exists_eq_right, exists_and_left, exists_and_right, ms_one, ite_true, ite_false, reduceIte, imp_self, Nat.zero_add, Nat.add_zero, zero_le_any, Nat.le_refl, Int.zero_add, true_or, or_true, false_implies, Int.reduceLE, Int.reduceLT, Int.reduceNeg, Int.reduceAdd, Int.reduceSub, Int.reduceMul, Int.reduceEq, not_true, not_false_iff, and_self, implies_true, false_and, and_false, or_false, false_or, bX5_power_0, bX5_power_1, bX5_power_2, bX5_power_3, bX5_power_4, bX5_power_5, bX5_power_6, bX5_power_7, bX5_power_100, bX5_power_101, lX5_power_0, lX5_power_1, lX5_power_2, lX5_power_3, lX5_power_4, lX5_power_5, lX5_power_6, lX5_power_7, lX5_power_100, lX5_power_101, qX5_power, sh_b, Int.one_mul]
    refine ⟨by omega, by omega, rg_of (by omega) (by omega), fun _ => ?_, fun h1 => by omega⟩
    refine m_orders (by omega) ?_
    simp only [sq_c, jp_s, jp_c, rc_0, rc_s, ms_ex, o_iload, o_aload, o_istore, o_astore, o_iinc, o_bin, o_div, o_rem, o_neg, o_and, o_shl, o_shr, o_dup, o_pop, o_dup2, o_if, o_icmp, o_switch, o_sw, o_get, o_put, o_iald, o_iast, o_zald, o_zast, o_aald, o_aast, o_len, ob_s, ob_n, o_call, o_max, o_min, o_copy, o_obj, o_lpush, o_ladd, o_lcmp, o_iret, o_lret, o_vret, i1_c, l1_c, r1_c, st_g0, st_g1, st_g2, st_g3, st_g4, st_g5, st_g6, st_g7, st_g8, st_g9, st_s0, st_s1, st_s2, st_s3, st_s4, st_s5, st_s6, st_s7, st_s8, st_s9, List.length_cons, List.length_nil, List.take_succ_cons, List.take_zero, List.drop_succ_cons, List.drop_zero, List.reverse_cons, List.reverse_nil, List.nil_append, List.cons_append, List.all_cons, List.all_nil, ms_nl, Bool.and_true, Nat.reduceLeDiff, Nat.reduceAdd, Nat.reduceLT, Nat.reduceEqDiff, if_true, if_false, true_and, and_true, ms_rt, List.cons.injEq, exists_eq_left, exists_eq_right, exists_and_left, exists_and_right, ms_one, ite_true, ite_false, reduceIte, imp_self, Nat.zero_add, Nat.add_zero, zero_le_any, Nat.le_refl, Int.zero_add, true_or, or_true, false_implies, Int.reduceLE, Int.reduceLT, Int.reduceNeg, Int.reduceAdd, Int.reduceSub, Int.reduceMul, Int.reduceEq, not_true, not_false_iff, and_self, implies_true, false_and, and_false, or_false, false_or, bX5_power_0, bX5_power_1, bX5_power_2, bX5_power_3, bX5_power_4, bX5_power_5, bX5_power_6, bX5_power_7, bX5_power_100, bX5_power_101, lX5_power_0, lX5_power_1, lX5_power_2, lX5_power_3, lX5_power_4, lX5_power_5, lX5_power_6, lX5_power_7, lX5_power_100, lX5_power_101, qX5_power, sh_b]
    have hob := ord_b (h 38 1)
    refine m_common (by omega) (by omega) ?_
    simp only [sq_c, jp_s, jp_c, rc_0, rc_s, ms_ex, o_iload, o_aload, o_istore, o_astore, o_iinc, o_bin, o_div, o_rem, o_neg, o_and, o_shl, o_shr, o_dup, o_pop, o_dup2, o_if, o_icmp, o_switch, o_sw, o_get, o_put, o_iald, o_iast, o_zald, o_zast, o_aald, o_aast, o_len, ob_s, ob_n, o_call, o_max, o_min, o_copy, o_obj, o_lpush, o_ladd, o_lcmp, o_iret, o_lret, o_vret, i1_c, l1_c, r1_c, st_g0, st_g1, st_g2, st_g3, st_g4, st_g5, st_g6, st_g7, st_g8, st_g9, st_s0, st_s1, st_s2, st_s3, st_s4, st_s5, st_s6, st_s7, st_s8, st_s9, List.length_cons, List.length_nil, List.take_succ_cons, List.take_zero, List.drop_succ_cons, List.drop_zero, List.reverse_cons, List.reverse_nil, List.nil_append, List.cons_append, List.all_cons, List.all_nil, ms_nl, Bool.and_true, Nat.reduceLeDiff, Nat.reduceAdd, Nat.reduceLT, Nat.reduceEqDiff, if_true, if_false, true_and, and_true, ms_rt, List.cons.injEq, exists_eq_left, exists_eq_right, exists_and_left, exists_and_right, ms_one, ite_true, ite_false, reduceIte, imp_self, Nat.zero_add, Nat.add_zero, zero_le_any, Nat.le_refl, Int.zero_add, true_or, or_true, false_implies, Int.reduceLE, Int.reduceLT, Int.reduceNeg, Int.reduceAdd, Int.reduceSub, Int.reduceMul, Int.reduceEq, not_true, not_false_iff, and_self, implies_true, false_and, and_false, or_false, false_or, bX5_power_0, bX5_power_1, bX5_power_2, bX5_power_3, bX5_power_4, bX5_power_5, bX5_power_6, bX5_power_7, bX5_power_100, bX5_power_101, lX5_power_0, lX5_power_1, lX5_power_2, lX5_power_3, lX5_power_4, lX5_power_5, lX5_power_6, lX5_power_7, lX5_power_100, lX5_power_101, qX5_power, sh_b]
    have e : sm (pwT (h 43) (h 38 1).toNat v) k = pwG (h 43) (h 38 1).toNat v := by
      unfold pwG; rw [show k = 2 ^ (h 38 1).toNat by omega]
    rw [e] at hgb ⊢
    have hg1 := gc_b (a := pwG (h 43) (h 38 1).toNat v) hob.1
    unfold frac at q
    refine ⟨fun h2 => ?_, fun h2 => ?_⟩
    · refine m_orders (by omega) ?_
      simp only [sq_c, jp_s, jp_c, rc_0, rc_s, ms_ex, o_iload, o_aload, o_istore, o_astore, o_iinc, o_bin, o_div, o_rem, o_neg, o_and, o_shl, o_shr, o_dup, o_pop, o_dup2, o_if, o_icmp, o_switch, o_sw, o_get, o_put, o_iald, o_iast, o_zald, o_zast, o_aald, o_aast, o_len, ob_s, ob_n, o_call, o_max, o_min, o_copy, o_obj, o_lpush, o_ladd, o_lcmp, o_iret, o_lret, o_vret, i1_c, l1_c, r1_c, st_g0, st_g1, st_g2, st_g3, st_g4, st_g5, st_g6, st_g7, st_g8, st_g9, st_s0, st_s1, st_s2, st_s3, st_s4, st_s5, st_s6, st_s7, st_s8, st_s9, List.length_cons, List.length_nil, List.take_succ_cons, List.take_zero, List.drop_succ_cons, List.drop_zero, List.reverse_cons, List.reverse_nil, List.nil_append, List.cons_append, List.all_cons, List.all_nil, ms_nl, Bool.and_true, Nat.reduceLeDiff, Nat.reduceAdd, Nat.reduceLT, Nat.reduceEqDiff, if_true, if_false, true_and, and_true, ms_rt, List.cons.injEq, exists_eq_left, exists_eq_right, exists_and_left, exists_and_right, ms_one, ite_true, ite_false, reduceIte, imp_self, Nat.zero_add, Nat.add_zero, zero_le_any, Nat.le_refl, Int.zero_add, true_or, or_true, false_implies, Int.reduceLE, Int.reduceLT, Int.reduceNeg, Int.reduceAdd, Int.reduceSub, Int.reduceMul, Int.reduceEq, not_true, not_false_iff, and_self, implies_true, false_and, and_false, or_false, false_or, bX5_power_0, bX5_power_1, bX5_power_2, bX5_power_3, bX5_power_4, bX5_power_5, bX5_power_6, bX5_power_7, bX5_power_100, bX5_power_101, lX5_power_0, lX5_power_1, lX5_power_2, lX5_power_3, lX5_power_4, lX5_power_5, lX5_power_6, lX5_power_7, lX5_power_100, lX5_power_101, qX5_power, sh_b]
      have := div_b (a := ms_ord (h 38 1)) (b := gc (pwG (h 43) (h 38 1).toNat v) (ms_ord (h 38 1))) (by omega) hg1
      rw [tdiv_p (by omega)]
      rw [if_neg h2] at q
      exact ⟨by omega, rg_of (by omega) (by omega), q⟩
    · have := div_b (a := pwG (h 43) (h 38 1).toNat v) (b := gc (pwG (h 43) (h 38 1).toNat v) (ms_ord (h 38 1))) (by omega) hg1
      rw [tdiv_p (by omega)]
      rw [if_pos h2] at q
      exact ⟨by omega, rg_of (by omega) (by omega), q⟩
  | succ j ih =>
    intro k a b c hk
    have hk2 : (k : Int) < 2 ^ (h 38 1).toNat := by rw [← hpc]; omega
    have hgb := pwS_b (h 43) (h 38 1).toNat v k (by omega)
    have hws := hwb k
    have e : sm (pwT (h 43) (h 38 1).toNat v) (k + 1) = sm (pwT (h 43) (h 38 1).toNat v) k + pwT (h 43) (h 38 1).toNat v k := rfl
    refine sq_at (ms_Ok_m ms_P _) 30 100 ?_
    simp only [sq_c, jp_s, jp_c, rc_0, rc_s, ms_ex, o_iload, o_aload, o_istore, o_astore, o_iinc, o_bin, o_div, o_rem, o_neg, o_and, o_shl, o_shr, o_dup, o_pop, o_dup2, o_if, o_icmp, o_switch, o_sw, o_get, o_put, o_iald, o_iast, o_zald, o_zast, o_aald, o_aast, o_len, ob_s, ob_n, o_call, o_max, o_min, o_copy, o_obj, o_lpush, o_ladd, o_lcmp, o_iret, o_lret, o_vret, i1_c, l1_c, r1_c, st_g0, st_g1, st_g2, st_g3, st_g4, st_g5, st_g6, st_g7, st_g8, st_g9, st_s0, st_s1, st_s2, st_s3, st_s4, st_s5, st_s6, st_s7, st_s8, st_s9, List.length_cons, List.length_nil, List.take_succ_cons, List.take_zero, List.drop_succ_cons, List.drop_zero, List.reverse_cons, List.reverse_nil, List.nil_append, List.cons_append, List.all_cons, List.all_nil, ms_nl, Bool.and_true, Nat.reduceLeDiff, Nat.reduceAdd, Nat.reduceLT, Nat.reduceEqDiff, if_true, if_false, true_and, and_true, ms_rt, List.cons.injEq, exists_eq_left, exists_eq_right, exists_and_left, exists_and_right, ms_one, ite_true, ite_false, reduceIte, imp_self, Nat.zero_add, Nat.add_zero, zero_le_any, Nat.le_refl, Int.zero_add, true_or, or_true, false_implies, Int.reduceLE, Int.reduceLT, Int.reduceNeg, Int.reduceAdd, Int.reduceSub, Int.reduceMul, Int.reduceEq, not_true, not_false_iff, and_self, implies_true, false_and, and_false, or_false, false_or, bX5_power_0, bX5_power_1, bX5_power_2, bX5_power_3, bX5_power_4, bX5_power_5, bX5_power_6, bX5_power_7, bX5_power_100, bX5_power_101, lX5_power_0, lX5_power_1, lX5_power_2, lX5_power_3, lX5_power_4, lX5_power_5, lX5_power_6, lX5_power_7, lX5_power_100, lX5_power_101, qX5_power, sh_b, Int.one_mul, hR, ar_43]
    refine ⟨by omega, by omega, rg_of (by omega) (by omega), fun h1 => by omega, fun h1 => ?_⟩
    refine m_weightOf hv (by omega) ?_
    simp only [sq_c, jp_s, jp_c, rc_0, rc_s, ms_ex, o_iload, o_aload, o_istore, o_astore, o_iinc, o_bin, o_div, o_rem, o_neg, o_and, o_shl, o_shr, o_dup, o_pop, o_dup2, o_if, o_icmp, o_switch, o_sw, o_get, o_put, o_iald, o_iast, o_zald, o_zast, o_aald, o_aast, o_len, ob_s, ob_n, o_call, o_max, o_min, o_copy, o_obj, o_lpush, o_ladd, o_lcmp, o_iret, o_lret, o_vret, i1_c, l1_c, r1_c, st_g0, st_g1, st_g2, st_g3, st_g4, st_g5, st_g6, st_g7, st_g8, st_g9, st_s0, st_s1, st_s2, st_s3, st_s4, st_s5, st_s6, st_s7, st_s8, st_s9, List.length_cons, List.length_nil, List.take_succ_cons, List.take_zero, List.drop_succ_cons, List.drop_zero, List.reverse_cons, List.reverse_nil, List.nil_append, List.cons_append, List.all_cons, List.all_nil, ms_nl, Bool.and_true, Nat.reduceLeDiff, Nat.reduceAdd, Nat.reduceLT, Nat.reduceEqDiff, if_true, if_false, true_and, and_true, ms_rt, List.cons.injEq, exists_eq_left, exists_eq_right, exists_and_left, exists_and_right, ms_one, ite_true, ite_false, reduceIte, imp_self, Nat.zero_add, Nat.add_zero, zero_le_any, Nat.le_refl, Int.zero_add, true_or, or_true, false_implies, Int.reduceLE, Int.reduceLT, Int.reduceNeg, Int.reduceAdd, Int.reduceSub, Int.reduceMul, Int.reduceEq, not_true, not_false_iff, and_self, implies_true, false_and, and_false, or_false, false_or, bX5_power_0, bX5_power_1, bX5_power_2, bX5_power_3, bX5_power_4, bX5_power_5, bX5_power_6, bX5_power_7, bX5_power_100, bX5_power_101, lX5_power_0, lX5_power_1, lX5_power_2, lX5_power_3, lX5_power_4, lX5_power_5, lX5_power_6, lX5_power_7, lX5_power_100, lX5_power_101, qX5_power, sh_b, Int.one_mul, hR, ar_43]
    have ep : pwT (h 43) (h 38 1).toNat v k = if (k : Int) / 2 ^ v.toNat % 2 = 0 ∧ 2 * wt (h 43) k (h 38 1).toNat ≤ wt (h 43) (2 ^ (h 38 1).toNat - 1) (h 38 1).toNat ∧ wt (h 43) (2 ^ (h 38 1).toNat - 1) (h 38 1).toNat < 2 * (wt (h 43) k (h 38 1).toNat + h 43 v) then ms_ord (pcn k (h 38 1).toNat) * ms_ord ((h 38 1).toNat - 1 - pcn k (h 38 1).toNat) else 0 := rfl
    have no : ¬ ((k : Int) / 2 ^ v.toNat % 2 = 0 ∧ 2 * wt (h 43) k (h 38 1).toNat ≤ wt (h 43) (2 ^ (h 38 1).toNat - 1) (h 38 1).toNat ∧ wt (h 43) (2 ^ (h 38 1).toNat - 1) (h 38 1).toNat < 2 * (wt (h 43) k (h 38 1).toNat + h 43 v)) → rg ((k : Int) + 1) ∧ ∀ a b c, ms_at (ms_Ok ms_P (d + 1)) ms_X1 MX5_power Q 100 [mR 38, mI v, mI w, mI (wt (h 43) (2 ^ (h 38 1).toNat - 1) (h 38 1).toNat), mI (sm (pwT (h 43) (h 38 1).toNat v) k), mI ((k : Int) + 1), a, b, c] [] (SH, 0, 0) (h) := by
      intro z
      refine ⟨rg_of (by omega) (by omega), fun a b c => ?_⟩
      have ih' := ih (k + 1) a b c (by omega)
      rw [e, ep, if_neg z, Int.add_zero] at ih'
      exact ih'
    refine ⟨by omega, by omega, by omega, fun h2 => ?_, fun h2 => ⟨rg_of (by omega) (by omega), fun h3 => ?_, fun h3 => ⟨by omega, by omega, rg_of (by omega) (by omega), rg_of (by omega) (by omega), fun h4 => ?_, fun h4 => ?_⟩⟩⟩
    · have := no (fun z => h2 z.1)
      exact ⟨this.1, this.2 _ _ _⟩
    · have := no (fun z => by omega)
      exact ⟨this.1, this.2 _ _ _⟩
    · have := no (fun z => by omega)
      exact ⟨this.1, this.2 _ _ _⟩
    · have hz := pcn_v h2 (h 38 1).toNat hvv.1 (by omega)
      refine m_power_in (set := k) hv (by omega) (by omega) (by omega) (fun a b c => ?_) (h 38 1).toNat 0 (by omega)
      have ih' := ih (k + 1) a b c (by omega)
      rw [e, ep, if_pos ⟨h2, by omega, by omega⟩, hN] at ih'
      exact ih'
set_option maxRecDepth 50000 in
theorem m_power {d : Nat} {h : ms_H} {Q : ms_Q} {v w : Int} (hv : MV h) (q1 : ¬ ((0 ≤ v ∧ v < h 38 1) ∧ 0 ≤ w ∧ w ≤ 1) → Q (some (mI (-1))) SH h) (q2 : (0 ≤ v ∧ v < h 38 1) → (0 ≤ w ∧ w ≤ 1) → Q (some (mI (frac w (pwG (h 43) (h 38 1).toNat v) (ms_ord (h 38 1))))) SH h) : ms_Ok ms_P (d + 2) 146 [mR 38, mI v, mI w] SH (h) Q := by
  refine ok_in (k := 30) MX5_power rfl rfl ?_
  show sq (ms_Ok ms_P (d + 1)) ms_X1 MX5_power Q 30 (M_bl MX5_power 0) [mR 38, mI v, mI w, mL 0, mL 0, mL 0, mL 0, mL 0, mL 0] [] (SH, 0, 0) (h)
  have hb := hv.2.1.2.1
  have hp := p2b (h 38 1).toNat (by omega)
  simp only [sq_c, jp_s, jp_c, rc_0, rc_s, ms_ex, o_iload, o_aload, o_istore, o_astore, o_iinc, o_bin, o_div, o_rem, o_neg, o_and, o_shl, o_shr, o_dup, o_pop, o_dup2, o_if, o_icmp, o_switch, o_sw, o_get, o_put, o_iald, o_iast, o_zald, o_zast, o_aald, o_aast, o_len, ob_s, ob_n, o_call, o_max, o_min, o_copy, o_obj, o_lpush, o_ladd, o_lcmp, o_iret, o_lret, o_vret, i1_c, l1_c, r1_c, st_g0, st_g1, st_g2, st_g3, st_g4, st_g5, st_g6, st_g7, st_g8, st_g9, st_s0, st_s1, st_s2, st_s3, st_s4, st_s5, st_s6, st_s7, st_s8, st_s9, List.length_cons, List.length_nil, List.take_succ_cons, List.take_zero, List.drop_succ_cons, List.drop_zero, List.reverse_cons, List.reverse_nil, List.nil_append, List.cons_append, List.all_cons, List.all_nil, ms_nl, Bool.and_true, Nat.reduceLeDiff, Nat.reduceAdd, Nat.reduceLT, Nat.reduceEqDiff, if_true, if_false, true_and, and_true, ms_rt, List.cons.injEq, exists_eq_left, exists_eq_right, exists_and_left, exists_and_right, ms_one, ite_true, ite_false, reduceIte, imp_self, Nat.zero_add, Nat.add_zero, zero_le_any, Nat.le_refl, Int.zero_add, true_or, or_true, false_implies, Int.reduceLE, Int.reduceLT, Int.reduceNeg, Int.reduceAdd, Int.reduceSub, Int.reduceMul, Int.reduceEq, not_true, not_false_iff, and_self, implies_true, false_and, and_false, or_false, false_or, bX5_power_0, bX5_power_1, bX5_power_2, bX5_power_3, bX5_power_4, bX5_power_5, bX5_power_6, bX5_power_7, bX5_power_100, bX5_power_101, lX5_power_0, lX5_power_1, lX5_power_2, lX5_power_3, lX5_power_4, lX5_power_5, lX5_power_6, lX5_power_7, lX5_power_100, lX5_power_101, qX5_power, sh_b]
  refine ⟨rg_of (by omega) (by omega), ?_⟩
  refine m_in (fun r hr => ?_)
  simp only [sq_c, jp_s, jp_c, rc_0, rc_s, ms_ex, o_iload, o_aload, o_istore, o_astore, o_iinc, o_bin, o_div, o_rem, o_neg, o_and, o_shl, o_shr, o_dup, o_pop, o_dup2, o_if, o_icmp, o_switch, o_sw, o_get, o_put, o_iald, o_iast, o_zald, o_zast, o_aald, o_aast, o_len, ob_s, ob_n, o_call, o_max, o_min, o_copy, o_obj, o_lpush, o_ladd, o_lcmp, o_iret, o_lret, o_vret, i1_c, l1_c, r1_c, st_g0, st_g1, st_g2, st_g3, st_g4, st_g5, st_g6, st_g7, st_g8, st_g9, st_s0, st_s1, st_s2, st_s3, st_s4, st_s5, st_s6, st_s7, st_s8, st_s9, List.length_cons, List.length_nil, List.take_succ_cons, List.take_zero, List.drop_succ_cons, List.drop_zero, List.reverse_cons, List.reverse_nil, List.nil_append, List.cons_append, List.all_cons, List.all_nil, ms_nl, Bool.and_true, Nat.reduceLeDiff, Nat.reduceAdd, Nat.reduceLT, Nat.reduceEqDiff, if_true, if_false, true_and, and_true, ms_rt, List.cons.injEq, exists_eq_left, exists_eq_right, exists_and_left, exists_and_right, ms_one, ite_true, ite_false, reduceIte, imp_self, Nat.zero_add, Nat.add_zero, zero_le_any, Nat.le_refl, Int.zero_add, true_or, or_true, false_implies, Int.reduceLE, Int.reduceLT, Int.reduceNeg, Int.reduceAdd, Int.reduceSub, Int.reduceMul, Int.reduceEq, not_true, not_false_iff, and_self, implies_true, false_and, and_false, or_false, false_or, bX5_power_0, bX5_power_1, bX5_power_2, bX5_power_3, bX5_power_4, bX5_power_5, bX5_power_6, bX5_power_7, bX5_power_100, bX5_power_101, lX5_power_0, lX5_power_1, lX5_power_2, lX5_power_3, lX5_power_4, lX5_power_5, lX5_power_6, lX5_power_7, lX5_power_100, lX5_power_101, qX5_power, sh_b]
  refine ⟨fun h1 => q1 (fun z => bf hr h1 (by omega)), fun h1 => ?_⟩
  refine m_in (fun r2 hr2 => ?_)
  simp only [sq_c, jp_s, jp_c, rc_0, rc_s, ms_ex, o_iload, o_aload, o_istore, o_astore, o_iinc, o_bin, o_div, o_rem, o_neg, o_and, o_shl, o_shr, o_dup, o_pop, o_dup2, o_if, o_icmp, o_switch, o_sw, o_get, o_put, o_iald, o_iast, o_zald, o_zast, o_aald, o_aast, o_len, ob_s, ob_n, o_call, o_max, o_min, o_copy, o_obj, o_lpush, o_ladd, o_lcmp, o_iret, o_lret, o_vret, i1_c, l1_c, r1_c, st_g0, st_g1, st_g2, st_g3, st_g4, st_g5, st_g6, st_g7, st_g8, st_g9, st_s0, st_s1, st_s2, st_s3, st_s4, st_s5, st_s6, st_s7, st_s8, st_s9, List.length_cons, List.length_nil, List.take_succ_cons, List.take_zero, List.drop_succ_cons, List.drop_zero, List.reverse_cons, List.reverse_nil, List.nil_append, List.cons_append, List.all_cons, List.all_nil, ms_nl, Bool.and_true, Nat.reduceLeDiff, Nat.reduceAdd, Nat.reduceLT, Nat.reduceEqDiff, if_true, if_false, true_and, and_true, ms_rt, List.cons.injEq, exists_eq_left, exists_eq_right, exists_and_left, exists_and_right, ms_one, ite_true, ite_false, reduceIte, imp_self, Nat.zero_add, Nat.add_zero, zero_le_any, Nat.le_refl, Int.zero_add, true_or, or_true, false_implies, Int.reduceLE, Int.reduceLT, Int.reduceNeg, Int.reduceAdd, Int.reduceSub, Int.reduceMul, Int.reduceEq, not_true, not_false_iff, and_self, implies_true, false_and, and_false, or_false, false_or, bX5_power_0, bX5_power_1, bX5_power_2, bX5_power_3, bX5_power_4, bX5_power_5, bX5_power_6, bX5_power_7, bX5_power_100, bX5_power_101, lX5_power_0, lX5_power_1, lX5_power_2, lX5_power_3, lX5_power_4, lX5_power_5, lX5_power_6, lX5_power_7, lX5_power_100, lX5_power_101, qX5_power, sh_b, Int.one_mul]
  have hvv := bt hr h1
  refine ⟨fun h2 => ⟨by omega, by omega, rg_of (by omega) (by omega), rg_of (by omega) (by omega), ?_⟩, fun h2 => q1 (fun z => bf hr2 h2 z.2)⟩
  refine m_weightOf hv (by omega) ?_
  simp only [sq_c, jp_s, jp_c, rc_0, rc_s, ms_ex, o_iload, o_aload, o_istore, o_astore, o_iinc, o_bin, o_div, o_rem, o_neg, o_and, o_shl, o_shr, o_dup, o_pop, o_dup2, o_if, o_icmp, o_switch, o_sw, o_get, o_put, o_iald, o_iast, o_zald, o_zast, o_aald, o_aast, o_len, ob_s, ob_n, o_call, o_max, o_min, o_copy, o_obj, o_lpush, o_ladd, o_lcmp, o_iret, o_lret, o_vret, i1_c, l1_c, r1_c, st_g0, st_g1, st_g2, st_g3, st_g4, st_g5, st_g6, st_g7, st_g8, st_g9, st_s0, st_s1, st_s2, st_s3, st_s4, st_s5, st_s6, st_s7, st_s8, st_s9, List.length_cons, List.length_nil, List.take_succ_cons, List.take_zero, List.drop_succ_cons, List.drop_zero, List.reverse_cons, List.reverse_nil, List.nil_append, List.cons_append, List.all_cons, List.all_nil, ms_nl, Bool.and_true, Nat.reduceLeDiff, Nat.reduceAdd, Nat.reduceLT, Nat.reduceEqDiff, if_true, if_false, true_and, and_true, ms_rt, List.cons.injEq, exists_eq_left, exists_eq_right, exists_and_left, exists_and_right, ms_one, ite_true, ite_false, reduceIte, imp_self, Nat.zero_add, Nat.add_zero, zero_le_any, Nat.le_refl, Int.zero_add, true_or, or_true, false_implies, Int.reduceLE, Int.reduceLT, Int.reduceNeg, Int.reduceAdd, Int.reduceSub, Int.reduceMul, Int.reduceEq, not_true, not_false_iff, and_self, implies_true, false_and, and_false, or_false, false_or, bX5_power_0, bX5_power_1, bX5_power_2, bX5_power_3, bX5_power_4, bX5_power_5, bX5_power_6, bX5_power_7, bX5_power_100, bX5_power_101, lX5_power_0, lX5_power_1, lX5_power_2, lX5_power_3, lX5_power_4, lX5_power_5, lX5_power_6, lX5_power_7, lX5_power_100, lX5_power_101, qX5_power, sh_b]
  exact m_power_lp hv (by omega) (q2 (by omega) (bt hr2 h2)) (2 ^ (h 38 1).toNat) 0 _ _ _ (by omega)
