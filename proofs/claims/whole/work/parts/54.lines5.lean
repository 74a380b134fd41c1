/-! The class: judge, fair, best. -/
def cAH (t : Int) (h : ms_H) : Int := sm (fun c => 8 * h (t + 2) c) (h t 0).toNat
def cAS (t : Int) (h : ms_H) : Int := sm (fun c => 8 * h (t + 3) c) (h t 0).toNat
def cL4 (t : Int) (h : ms_H) : S4 := drw (J4 (cAH t h) (cAS t h) (h (t + 2)) (h (t + 3))) (h t 0).toNat (0, -9, -1, 0) []
theorem c_judge_lp {d : Nat} {t u : Int} {h : ms_H} {Q : ms_Q} (hv : CV t u h) (q : ∀ g : ms_H, (∀ z, z ≠ 20 → g z = h z) → rd g = cL4 t h → g 20 0 = 1 → Q none SH g) : ∀ (j k : Nat) (g : ms_H), k + j = (h t 0).toNat → (∀ z, z ≠ 20 → g z = h z) → g 20 5 = sm (fun c => 8 * h (t + 2) c) k → g 20 6 = sm (fun c => 8 * h (t + 3) c) k → ms_at (ms_Ok ms_P (d + 11)) ms_X1 MX0_judge Q 100 [mR 20, mR t, mI k] [] (SH, 0, 0) (g) := by
  have hb := hv.2.2.1.1
  have hA := hv.2.2.2.2.1
  have hT := hv.1
  unfold TU at hT
  have hR := hv.2.1
  unfold RC at hR
  intro j
  induction j with
  | zero =>
    intro k g hk hg h5 h6
    have et := hg t (by omega)
    have hkN : (h t 0).toNat = k := by omega
    have hkN2 : h t 0 ≤ k := by omega
    refine sq_at (ms_Ok_m ms_P _) 30 100 ?_
    simp only [sq_c, jp_s, jp_c, rc_0, rc_s, ms_ex, o_iload, o_aload, o_istore, o_astore, o_iinc, o_bin, o_div, o_rem, o_neg, o_and, o_shl, o_shr, o_dup, o_pop, o_dup2, o_if, o_icmp, o_switch, o_sw, o_get, put_s, put_3, put_1, put_2, o_iald, iast_s, o_zald, o_zast, o_aald, o_aast, o_len, ob_s, ob_n, o_call, o_max, o_min, cpy_s, o_obj, o_lpush, o_ladd, o_lcmp, o_iret, o_lret, o_vret, i1_c, l1_c, r1_c, st_g0, st_g1, st_g2, st_g3, st_g4, st_g5, st_g6, st_g7, st_g8, st_g9, st_s0, st_s1, st_s2, st_s3, st_s4, st_s5, st_s6, st_s7, st_s8, st_s9, List.length_cons, List.length_nil, List.take_succ_cons, List.take_zero, List.drop_succ_cons, List.drop_zero, List.reverse_cons, List.reverse_nil, List.nil_append, List.cons_append, List.all_cons, List.all_nil, ms_nl, Bool.and_true, Nat.reduceLeDiff, Nat.reduceAdd, Nat.reduceLT, Nat.reduceEqDiff, if_true, if_false, true_and, and_true, ms_rt, List.cons.injEq, exists_eq_left, exists_eq_right, exists_and_left, exists_and_right, ms_one, ite_true, ite_false, reduceIte, imp_self, Nat.zero_add, Nat.add_zero, zero_le_any, Nat.le_refl, Int.zero_add, true_or, or_true, false_implies, Int.reduceLE, Int.reduceLT, Int.reduceNeg, Int.reduceAdd, Int.reduceSub, Int.reduceMul, Int.reduceEq, not_true, not_false_iff, and_self, implies_true, false_and, and_false, or_false, false_or, bX0_judge_0, bX0_judge_1, bX0_judge_2, bX0_judge_100, lX0_judge_0, lX0_judge_1, lX0_judge_2, lX0_judge_100, qX0_judge, sh_b, et, hR, tok hv.1, tok0 hv.1]
    refine ⟨fun _ => ?_, fun h1 => by omega⟩
    intro g1 e1 g2 e2 g3 e3 g4 e4
    have f4 : ∀ z, z ≠ 20 → g4 z = h z := fun z hz => by
      rw [← hg z hz]
      funext b
      rw [e4, hs_v, if_neg (by omega), e3, hs_v, if_neg (by omega), e2, hs_v, if_neg (by omega), e1, hs_v, if_neg (by omega)]
    have r4 : rd g4 = (0, -9, -1, 0) := by
      unfold rd
      rw [e4, e3, e2, e1]
      simp only [hs_v, Int.reduceEq, and_false, and_true, if_true, if_false]
    have a5 : g4 20 5 = cAH t h := by
      rw [e4, hs_v, if_neg (by omega), e3, hs_v, if_neg (by omega), e2, hs_v, if_neg (by omega), e1, hs_v, if_neg (by omega), h5]
      unfold cAH
      rw [hkN]
    have a6 : g4 20 6 = cAS t h := by
      rw [e4, hs_v, if_neg (by omega), e3, hs_v, if_neg (by omega), e2, hs_v, if_neg (by omega), e1, hs_v, if_neg (by omega), h6]
      unfold cAS
      rw [hkN]
    have hv4 := CV_20 hv f4
    have n1 : g4 20 1 = 0 := congrArg (fun s : S4 => s.1) r4
    have et4 := f4 t (by omega)
    have et42 := f4 (t + 2) (by omega)
    have et43 := f4 (t + 3) (by omega)
    have := c_drawFrom hv4 (h t 0).toNat (d + 9 - (h t 0).toNat) [] g4 (o_back 0 0 (sq (ms_Ok ms_P (d + 11)) ms_X1 MX0_judge Q 29 [(100, Instr.aload_n 0, 1, 0, 0, 0, 0, [], 0), (101, Instr.iconst 1, 1, 1, 0, 0, 0, [], 0), (102, Instr.putfield 9, 3, 0, 0, 1, 0, [], 195), (105, Instr.return_, 1, 0, 0, 0, 0, [], 0)]) [mR 20, mR t, mI k] [] (SH, 0, 0)) (F20_r g4) (by rw [List.length_nil, et4]; omega) trivial (by rw [n1]; show (0 : Int) ≤ 0 ∧ (0 : Int) ≤ 0 * _; rw [Int.zero_mul]; exact ⟨Int.le_refl 0, Int.le_refl 0⟩) (fun f hf he => by
      simp only [sq_c, jp_s, jp_c, rc_0, rc_s, ms_ex, o_iload, o_aload, o_istore, o_astore, o_iinc, o_bin, o_div, o_rem, o_neg, o_and, o_shl, o_shr, o_dup, o_pop, o_dup2, o_if, o_icmp, o_switch, o_sw, o_get, o_put, o_iald, o_iast, o_zald, o_zast, o_aald, o_aast, o_len, ob_s, ob_n, o_call, o_max, o_min, o_copy, o_obj, o_lpush, o_ladd, o_lcmp, o_iret, o_lret, o_vret, i1_c, l1_c, r1_c, st_g0, st_g1, st_g2, st_g3, st_g4, st_g5, st_g6, st_g7, st_g8, st_g9, st_s0, st_s1, st_s2, st_s3, st_s4, st_s5, st_s6, st_s7, st_s8, st_s9, List.length_cons, List.length_nil, List.take_succ_cons, List.take_zero, List.drop_succ_cons, List.drop_zero, List.reverse_cons, List.reverse_nil, List.nil_append, List.cons_append, List.all_cons, List.all_nil, ms_nl, Bool.and_true, Nat.reduceLeDiff, Nat.reduceAdd, Nat.reduceLT, Nat.reduceEqDiff, if_true, if_false, true_and, and_true, ms_rt, List.cons.injEq, exists_eq_left, exists_eq_right, exists_and_left, exists_and_right, ms_one, ite_true, ite_false, reduceIte, imp_self, Nat.zero_add, Nat.add_zero, zero_le_any, Nat.le_refl, Int.zero_add, true_or, or_true, false_implies, Int.reduceLE, Int.reduceLT, Int.reduceNeg, Int.reduceAdd, Int.reduceSub, Int.reduceMul, Int.reduceEq, not_true, not_false_iff, and_self, implies_true, false_and, and_false, or_false, false_or, bX0_judge_0, bX0_judge_1, bX0_judge_2, bX0_judge_100, lX0_judge_0, lX0_judge_1, lX0_judge_2, lX0_judge_100, qX0_judge, sh_b]
      refine q _ (fun z hz => ?_) ?_ ?_
      · rw [← f4 z hz, ← hf.1 z hz]; funext b; rw [hs_v, if_neg (by omega)]
      · have : rd (hs f 20 0 1) = rd f := by
          unfold rd
          simp only [hs_v, Int.reduceEq, and_false, if_false]
        rw [this, he, r4]
        unfold cL4 cJ
        rw [a5, a6, et42, et43]
      · rw [hs_v, if_pos ⟨rfl, rfl⟩])
    rw [show d + 9 - (h t 0).toNat + (h t 0).toNat + 2 = d + 11 by omega] at this
    exact this
  | succ j ih =>
    intro k g hk hg h5 h6
    have et := hg t (by omega)
    have et2 := hg (t + 2) (by omega)
    have et3 := hg (t + 3) (by omega)
    have hAc := hA k (by omega) (by omega)
    have b1 := sm_b (g := fun c => 8 * h (t + 2) c) (lo := 0) (hi := 72) k (fun i h0 h1 => by have := hA i h0 (by omega); omega)
    have b2 := sm_b (g := fun c => 8 * h (t + 3) c) (lo := 0) (hi := 72) k (fun i h0 h1 => by have := hA i h0 (by omega); omega)
    have s1 : sm (fun c => 8 * h (t + 2) c) (k + 1) = sm (fun c => 8 * h (t + 2) c) k + 8 * h (t + 2) k := rfl
    have s2 : sm (fun c => 8 * h (t + 3) c) (k + 1) = sm (fun c => 8 * h (t + 3) c) k + 8 * h (t + 3) k := rfl
    rw [← h5] at b1 s1
    rw [← h6] at b2 s2
    refine sq_at (ms_Ok_m ms_P _) 30 100 ?_
    simp only [sq_c, jp_s, jp_c, rc_0, rc_s, ms_ex, o_iload, o_aload, o_istore, o_astore, o_iinc, o_bin, o_div, o_rem, o_neg, o_and, o_shl, o_shr, o_dup, o_pop, o_dup2, o_if, o_icmp, o_switch, o_sw, o_get, put_s, put_3, put_1, put_2, o_iald, iast_s, o_zald, o_zast, o_aald, o_aast, o_len, ob_s, ob_n, o_call, o_max, o_min, cpy_s, o_obj, o_lpush, o_ladd, o_lcmp, o_iret, o_lret, o_vret, i1_c, l1_c, r1_c, st_g0, st_g1, st_g2, st_g3, st_g4, st_g5, st_g6, st_g7, st_g8, st_g9, st_s0, st_s1, st_s2, st_s3, st_s4, st_s5, st_s6, st_s7, st_s8, st_s9, List.length_cons, List.length_nil, List.take_succ_cons, List.take_zero, List.drop_succ_cons, List.drop_zero, List.reverse_cons, List.reverse_nil, List.nil_append, List.cons_append, List.all_cons, List.all_nil, ms_nl, Bool.and_true, Nat.reduceLeDiff, Nat.reduceAdd, Nat.reduceLT, Nat.reduceEqDiff, if_true, if_false, true_and, and_true, ms_rt, List.cons.injEq, exists_eq_left, exists_eq_right, exists_and_left, exists_and_right, ms_one, ite_true, ite_false, reduceIte, imp_self, Nat.zero_add, Nat.add_zero, zero_le_any, Nat.le_refl, Int.zero_add, true_or, or_true, false_implies, Int.reduceLE, Int.reduceLT, Int.reduceNeg, Int.reduceAdd, Int.reduceSub, Int.reduceMul, Int.reduceEq, not_true, not_false_iff, and_self, implies_true, false_and, and_false, or_false, false_or, bX0_judge_0, bX0_judge_1, bX0_judge_2, bX0_judge_100, lX0_judge_0, lX0_judge_1, lX0_judge_2, lX0_judge_100, qX0_judge, sh_b, et, et2, et3, hR, tok hv.1, tok0 hv.1]
    refine ⟨fun h1 => by omega, fun h1 => ⟨by omega, by omega, rg_of (by omega) (by omega), rg_of (by omega) (by omega), fun g1 e1 => ?_⟩⟩
    have f1 : ∀ z, z ≠ 20 → g1 z = h z := fun z hz => by rw [← hg z hz, e1]; funext b; rw [hs_v, if_neg (by omega)]
    rw [f1 t (by omega), hR.2.1.2.2.1, f1 (t + 3) (by omega)]
    have g6 : g1 20 6 = g 20 6 := by rw [e1, hs_v, if_neg (by omega)]
    rw [g6, (tok hv.1).2.2.2.1]
    refine ⟨by omega, by omega, by omega, rg_of (by omega) (by omega), rg_of (by omega) (by omega), fun g2 e2 => ⟨rg_of (by omega) (by omega), ?_⟩⟩
    refine ih (k + 1) g2 (by omega) (fun z hz => ?_) ?_ ?_
    · rw [← f1 z hz, e2]; funext b; rw [hs_v, if_neg (by omega)]
    · rw [s1, e2, hs_v, if_neg (by omega), e1, hs_v, if_pos ⟨rfl, rfl⟩]; omega
    · rw [s2, e2, hs_v, if_pos ⟨rfl, rfl⟩]; omega
theorem c_judge {d : Nat} {t u : Int} {h : ms_H} {Q : ms_Q} (hv : CV t u h) (hk : h 20 0 = 0 ∨ h 20 0 = 1) (hc : h 20 0 = 1 → rd h = cL4 t h) (q : ∀ g : ms_H, (∀ z, z ≠ 20 → g z = h z) → rd g = cL4 t h → g 20 0 = 1 → Q none SH g) : ms_Ok ms_P (d + 12) 1 [mR 20, mR t] SH (h) Q := by
  refine ok_in (k := 30) MX0_judge rfl rfl ?_
  show sq (ms_Ok ms_P (d + 11)) ms_X1 MX0_judge Q 30 (M_bl MX0_judge 0) [mR 20, mR t, mL 0] [] (SH, 0, 0) (h)
  have hT := hv.1
  unfold TU at hT
  have hb := hv.2.2.1.1
  simp only [sq_c, jp_s, jp_c, rc_0, rc_s, ms_ex, o_iload, o_aload, o_istore, o_astore, o_iinc, o_bin, o_div, o_rem, o_neg, o_and, o_shl, o_shr, o_dup, o_pop, o_dup2, o_if, o_icmp, o_switch, o_sw, o_get, put_s, put_3, put_1, put_2, o_iald, iast_s, o_zald, o_zast, o_aald, o_aast, o_len, ob_s, ob_n, o_call, o_max, o_min, cpy_s, o_obj, o_lpush, o_ladd, o_lcmp, o_iret, o_lret, o_vret, i1_c, l1_c, r1_c, st_g0, st_g1, st_g2, st_g3, st_g4, st_g5, st_g6, st_g7, st_g8, st_g9, st_s0, st_s1, st_s2, st_s3, st_s4, st_s5, st_s6, st_s7, st_s8, st_s9, List.length_cons, List.length_nil, List.take_succ_cons, List.take_zero, List.drop_succ_cons, List.drop_zero, List.reverse_cons, List.reverse_nil, List.nil_append, List.cons_append, List.all_cons, List.all_nil, ms_nl, Bool.and_true, Nat.reduceLeDiff, Nat.reduceAdd, Nat.reduceLT, Nat.reduceEqDiff, if_true, if_false, true_and, and_true, ms_rt, List.cons.injEq, exists_eq_left, exists_eq_right, exists_and_left, exists_and_right, ms_one, ite_true, ite_false, reduceIte, imp_self, Nat.zero_add, Nat.add_zero, zero_le_any, Nat.le_refl, Int.zero_add, true_or, or_true, false_implies, Int.reduceLE, Int.reduceLT, Int.reduceNeg, Int.reduceAdd, Int.reduceSub, Int.reduceMul, Int.reduceEq, not_true, not_false_iff, and_self, implies_true, false_and, and_false, or_false, false_or, bX0_judge_0, bX0_judge_1, bX0_judge_2, bX0_judge_100, lX0_judge_0, lX0_judge_1, lX0_judge_2, lX0_judge_100, qX0_judge, sh_b]
  refine ⟨fun h1 g1 e1 g2 e2 => ?_, fun h1 => q h (fun _ _ => rfl) (hc (by omega)) (by omega)⟩
  refine c_judge_lp hv q (h t 0).toNat 0 g2 (by omega) (fun z hz => ?_) ?_ ?_
  · rw [e2, e1]; funext b; rw [hs_v, if_neg (by omega), hs_v, if_neg (by omega)]
  · rw [e2, e1, hs_v, if_neg (by omega), hs_v, if_pos ⟨rfl, rfl⟩]; rfl
  · rw [e2, hs_v, if_pos ⟨rfl, rfl⟩]; rfl
theorem c_fair {d : Nat} {t u w : Int} {h : ms_H} {Q : ms_Q} (hv : CV t u h) (hk : h 20 0 = 0 ∨ h 20 0 = 1) (hc : h 20 0 = 1 → rd h = cL4 t h) (q1 : ¬ (0 ≤ w ∧ w ≤ 1) → Q (some (mI (-1))) SH h) (q2 : (0 ≤ w ∧ w ≤ 1) → ∀ g : ms_H, (∀ z, z ≠ 20 → g z = h z) → rd g = cL4 t h → g 20 0 = 1 → Q (some (mI (if w = 0 then (cL4 t h).1 else (cL4 t h).2.1))) SH g) : ms_Ok ms_P (d + 13) 46 [mR 0, mI w] SH (h) Q := by
  refine ok_in (k := 30) MX4_fair rfl rfl ?_
  show sq (ms_Ok ms_P (d + 12)) ms_X1 MX4_fair Q 30 (M_bl MX4_fair 0) [mR 0, mI w] [] (SH, 0, 0) (h)
  have hR := hv.2.1
  unfold RC at hR
  simp only [sq_c, jp_s, jp_c, rc_0, rc_s, ms_ex, o_iload, o_aload, o_istore, o_astore, o_iinc, o_bin, o_div, o_rem, o_neg, o_and, o_shl, o_shr, o_dup, o_pop, o_dup2, o_if, o_icmp, o_switch, o_sw, o_get, o_put, o_iald, o_iast, o_zald, o_zast, o_aald, o_aast, o_len, ob_s, ob_n, o_call, o_max, o_min, o_copy, o_obj, o_lpush, o_ladd, o_lcmp, o_iret, o_lret, o_vret, i1_c, l1_c, r1_c, st_g0, st_g1, st_g2, st_g3, st_g4, st_g5, st_g6, st_g7, st_g8, st_g9, st_s0, st_s1, st_s2, st_s3, st_s4, st_s5, st_s6, st_s7, st_s8, st_s9, List.length_cons, List.length_nil, List.take_succ_cons, List.take_zero, List.drop_succ_cons, List.drop_zero, List.reverse_cons, List.reverse_nil, List.nil_append, List.cons_append, List.all_cons, List.all_nil, ms_nl, Bool.and_true, Nat.reduceLeDiff, Nat.reduceAdd, Nat.reduceLT, Nat.reduceEqDiff, if_true, if_false, true_and, and_true, ms_rt, List.cons.injEq, exists_eq_left, exists_eq_right, exists_and_left, exists_and_right, ms_one, ite_true, ite_false, reduceIte, imp_self, Nat.zero_add, Nat.add_zero, zero_le_any, Nat.le_refl, Int.zero_add, true_or, or_true, false_implies, Int.reduceLE, Int.reduceLT, Int.reduceNeg, Int.reduceAdd, Int.reduceSub, Int.reduceMul, Int.reduceEq, not_true, not_false_iff, and_self, implies_true, false_and, and_false, or_false, false_or, bX4_fair_0, bX4_fair_1, bX4_fair_2, bX4_fair_3, lX4_fair_0, lX4_fair_1, lX4_fair_2, lX4_fair_3, qX4_fair, sh_b]
  refine c_within (fun r hr => ?_)
  simp only [sq_c, jp_s, jp_c, rc_0, rc_s, ms_ex, o_iload, o_aload, o_istore, o_astore, o_iinc, o_bin, o_div, o_rem, o_neg, o_and, o_shl, o_shr, o_dup, o_pop, o_dup2, o_if, o_icmp, o_switch, o_sw, o_get, o_put, o_iald, o_iast, o_zald, o_zast, o_aald, o_aast, o_len, ob_s, ob_n, o_call, o_max, o_min, o_copy, o_obj, o_lpush, o_ladd, o_lcmp, o_iret, o_lret, o_vret, i1_c, l1_c, r1_c, st_g0, st_g1, st_g2, st_g3, st_g4, st_g5, st_g6, st_g7, st_g8, st_g9, st_s0, st_s1, st_s2, st_s3, st_s4, st_s5, st_s6, st_s7, st_s8, st_s9, List.length_cons, List.length_nil, List.take_succ_cons, List.take_zero, List.drop_succ_cons, List.drop_zero, List.reverse_cons, List.reverse_nil, List.nil_append, List.cons_append, List.all_cons, List.all_nil, ms_nl, Bool.and_true, Nat.reduceLeDiff, Nat.reduceAdd, Nat.reduceLT, Nat.reduceEqDiff, if_true, if_false, true_and, and_true, ms_rt, List.cons.injEq, exists_eq_left, exists_eq_right, exists_and_left, exists_and_right, ms_one, ite_true, ite_false, reduceIte, imp_self, Nat.zero_add, Nat.add_zero, zero_le_any, Nat.le_refl, Int.zero_add, true_or, or_true, false_implies, Int.reduceLE, Int.reduceLT, Int.reduceNeg, Int.reduceAdd, Int.reduceSub, Int.reduceMul, Int.reduceEq, not_true, not_false_iff, and_self, implies_true, false_and, and_false, or_false, false_or, bX4_fair_0, bX4_fair_1, bX4_fair_2, bX4_fair_3, lX4_fair_0, lX4_fair_1, lX4_fair_2, lX4_fair_3, qX4_fair, sh_b, hR, tok hv.1, tok0 hv.1]
  refine ⟨fun h1 => ?_, fun h1 => q1 (bf hr h1)⟩
  have q2 := q2 (bt hr h1)
  refine c_judge hv hk hc (fun g hg he hk1 => ?_)
  have e0 := hg 0 (by decide)
  have r1 : g 20 1 = (cL4 t h).1 := congrArg (fun s : S4 => s.1) he
  have r2 : g 20 2 = (cL4 t h).2.1 := congrArg (fun s : S4 => s.2.1) he
  have q2 := q2 g hg he hk1
  simp only [sq_c, jp_s, jp_c, rc_0, rc_s, ms_ex, o_iload, o_aload, o_istore, o_astore, o_iinc, o_bin, o_div, o_rem, o_neg, o_and, o_shl, o_shr, o_dup, o_pop, o_dup2, o_if, o_icmp, o_switch, o_sw, o_get, o_put, o_iald, o_iast, o_zald, o_zast, o_aald, o_aast, o_len, ob_s, ob_n, o_call, o_max, o_min, o_copy, o_obj, o_lpush, o_ladd, o_lcmp, o_iret, o_lret, o_vret, i1_c, l1_c, r1_c, st_g0, st_g1, st_g2, st_g3, st_g4, st_g5, st_g6, st_g7, st_g8, st_g9, st_s0, st_s1, st_s2, st_s3, st_s4, st_s5, st_s6, st_s7, st_s8, st_s9, List.length_cons, List.length_nil, List.take_succ_cons, List.take_zero, List.drop_succ_cons, List.drop_zero, List.reverse_cons, List.reverse_nil, List.nil_append, List.cons_append, List.all_cons, List.all_nil, ms_nl, Bool.and_true, Nat.reduceLeDiff, Nat.reduceAdd, Nat.reduceLT, Nat.reduceEqDiff, if_true, if_false, true_and, and_true, ms_rt, List.cons.injEq, exists_eq_left, exists_eq_right, exists_and_left, exists_and_right, ms_one, ite_true, ite_false, reduceIte, imp_self, Nat.zero_add, Nat.add_zero, zero_le_any, Nat.le_refl, Int.zero_add, true_or, or_true, false_implies, Int.reduceLE, Int.reduceLT, Int.reduceNeg, Int.reduceAdd, Int.reduceSub, Int.reduceMul, Int.reduceEq, not_true, not_false_iff, and_self, implies_true, false_and, and_false, or_false, false_or, bX4_fair_0, bX4_fair_1, bX4_fair_2, bX4_fair_3, lX4_fair_0, lX4_fair_1, lX4_fair_2, lX4_fair_3, qX4_fair, sh_b, e0, hR, tok hv.1, tok0 hv.1, r1, r2]
  refine ⟨fun h3 => ?_, fun h3 => ?_⟩
  · rw [if_neg h3] at q2; exact q2
  · rw [if_pos h3] at q2; exact q2
theorem c_best {d : Nat} {t u w : Int} {h : ms_H} {Q : ms_Q} (hv : CV t u h) (hk : h 20 0 = 0 ∨ h 20 0 = 1) (hc : h 20 0 = 1 → rd h = cL4 t h) (q1 : ¬ (0 ≤ w ∧ w ≤ 1) → Q (some (mI (-1))) SH h) (q2 : (0 ≤ w ∧ w ≤ 1) → ∀ g : ms_H, (∀ z, z ≠ 20 → g z = h z) → rd g = cL4 t h → g 20 0 = 1 → Q (some (mI (if w = 0 then (cL4 t h).2.2.2 else (cL4 t h).2.2.1))) SH g) : ms_Ok ms_P (d + 13) 47 [mR 0, mI w] SH (h) Q := by
  refine ok_in (k := 30) MX4_best rfl rfl ?_
  show sq (ms_Ok ms_P (d + 12)) ms_X1 MX4_best Q 30 (M_bl MX4_best 0) [mR 0, mI w] [] (SH, 0, 0) (h)
  have hR := hv.2.1
  unfold RC at hR
  simp only [sq_c, jp_s, jp_c, rc_0, rc_s, ms_ex, o_iload, o_aload, o_istore, o_astore, o_iinc, o_bin, o_div, o_rem, o_neg, o_and, o_shl, o_shr, o_dup, o_pop, o_dup2, o_if, o_icmp, o_switch, o_sw, o_get, o_put, o_iald, o_iast, o_zald, o_zast, o_aald, o_aast, o_len, ob_s, ob_n, o_call, o_max, o_min, o_copy, o_obj, o_lpush, o_ladd, o_lcmp, o_iret, o_lret, o_vret, i1_c, l1_c, r1_c, st_g0, st_g1, st_g2, st_g3, st_g4, st_g5, st_g6, st_g7, st_g8, st_g9, st_s0, st_s1, st_s2, st_s3, st_s4, st_s5, st_s6, st_s7, st_s8, st_s9, List.length_cons, List.length_nil, List.take_succ_cons, List.take_zero, List.drop_succ_cons, List.drop_zero, List.reverse_cons, List.reverse_nil, List.nil_append, List.cons_append, List.all_cons, List.all_nil, ms_nl, Bool.and_true, Nat.reduceLeDiff, Nat.reduceAdd, Nat.reduceLT, Nat.reduceEqDiff, if_true, if_false, true_and, and_true, ms_rt, List.cons.injEq, exists_eq_left, exists_eq_right, exists_and_left, exists_and_right, ms_one, ite_true, ite_false, reduceIte, imp_self, Nat.zero_add, Nat.add_zero, zero_le_any, Nat.le_refl, Int.zero_add, true_or, or_true, false_implies, Int.reduceLE, Int.reduceLT, Int.reduceNeg, Int.reduceAdd, Int.reduceSub, Int.reduceMul, Int.reduceEq, not_true, not_false_iff, and_self, implies_true, false_and, and_false, or_false, false_or, bX4_best_0, bX4_best_1, bX4_best_2, bX4_best_3, lX4_best_0, lX4_best_1, lX4_best_2, lX4_best_3, qX4_best, sh_b]
  refine c_within (fun r hr => ?_)
  simp only [sq_c, jp_s, jp_c, rc_0, rc_s, ms_ex, o_iload, o_aload, o_istore, o_astore, o_iinc, o_bin, o_div, o_rem, o_neg, o_and, o_shl, o_shr, o_dup, o_pop, o_dup2, o_if, o_icmp, o_switch, o_sw, o_get, o_put, o_iald, o_iast, o_zald, o_zast, o_aald, o_aast, o_len, ob_s, ob_n, o_call, o_max, o_min, o_copy, o_obj, o_lpush, o_ladd, o_lcmp, o_iret, o_lret, o_vret, i1_c, l1_c, r1_c, st_g0, st_g1, st_g2, st_g3, st_g4, st_g5, st_g6, st_g7, st_g8, st_g9, st_s0, st_s1, st_s2, st_s3, st_s4, st_s5, st_s6, st_s7, st_s8, st_s9, List.length_cons, List.length_nil, List.take_succ_cons, List.take_zero, List.drop_succ_cons, List.drop_zero, List.reverse_cons, List.reverse_nil, List.nil_append, List.cons_append, List.all_cons, List.all_nil, ms_nl, Bool.and_true, Nat.reduceLeDiff, Nat.reduceAdd, Nat.reduceLT, Nat.reduceEqDiff, if_true, if_false, true_and, and_true, ms_rt, List.cons.injEq, exists_eq_left, exists_eq_right, exists_and_left, exists_and_right, ms_one, ite_true, ite_false, reduceIte, imp_self, Nat.zero_add, Nat.add_zero, zero_le_any, Nat.le_refl, Int.zero_add, true_or, or_true, false_implies, Int.reduceLE, Int.reduceLT, Int.reduceNeg, Int.reduceAdd, Int.reduceSub, Int.reduceMul, Int.reduceEq, not_true, not_false_iff, and_self, implies_true, false_and, and_false, or_false, false_or, bX4_best_0, bX4_best_1, bX4_best_2, bX4_best_3, lX4_best_0, lX4_best_1, lX4_best_2, lX4_best_3, qX4_best, sh_b, hR, tok hv.1, tok0 hv.1]
  refine ⟨fun h1 => ?_, fun h1 => q1 (bf hr h1)⟩
  have q2 := q2 (bt hr h1)
  refine c_judge hv hk hc (fun g hg he hk1 => ?_)
  have e0 := hg 0 (by decide)
  have r1 : g 20 4 = (cL4 t h).2.2.1 := congrArg (fun s : S4 => s.2.2.1) he
  have r2 : g 20 3 = (cL4 t h).2.2.2 := congrArg (fun s : S4 => s.2.2.2) he
  have q2 := q2 g hg he hk1
  simp only [sq_c, jp_s, jp_c, rc_0, rc_s, ms_ex, o_iload, o_aload, o_istore, o_astore, o_iinc, o_bin, o_div, o_rem, o_neg, o_and, o_shl, o_shr, o_dup, o_pop, o_dup2, o_if, o_icmp, o_switch, o_sw, o_get, o_put, o_iald, o_iast, o_zald, o_zast, o_aald, o_aast, o_len, ob_s, ob_n, o_call, o_max, o_min, o_copy, o_obj, o_lpush, o_ladd, o_lcmp, o_iret, o_lret, o_vret, i1_c, l1_c, r1_c, st_g0, st_g1, st_g2, st_g3, st_g4, st_g5, st_g6, st_g7, st_g8, st_g9, st_s0, st_s1, st_s2, st_s3, st_s4, st_s5, st_s6, st_s7, st_s8, st_s9, List.length_cons, List.length_nil, List.take_succ_cons, List.take_zero, List.drop_succ_cons, List.drop_zero, List.reverse_cons, List.reverse_nil, List.nil_append, List.cons_append, List.all_cons, List.all_nil, ms_nl, Bool.and_true, Nat.reduceLeDiff, Nat.reduceAdd, Nat.reduceLT, Nat.reduceEqDiff, if_true, if_false, true_and, and_true, ms_rt, List.cons.injEq, exists_eq_left, exists_eq_right, exists_and_left, exists_and_right, ms_one, ite_true, ite_false, reduceIte, imp_self, Nat.zero_add, Nat.add_zero, zero_le_any, Nat.le_refl, Int.zero_add, true_or, or_true, false_implies, Int.reduceLE, Int.reduceLT, Int.reduceNeg, Int.reduceAdd, Int.reduceSub, Int.reduceMul, Int.reduceEq, not_true, not_false_iff, and_self, implies_true, false_and, and_false, or_false, false_or, bX4_best_0, bX4_best_1, bX4_best_2, bX4_best_3, lX4_best_0, lX4_best_1, lX4_best_2, lX4_best_3, qX4_best, sh_b, e0, hR, tok hv.1, tok0 hv.1, r1, r2]
  refine ⟨fun h3 => ?_, fun h3 => ?_⟩
  · rw [if_neg h3] at q2; exact q2
  · rw [if_pos h3] at q2; exact q2
