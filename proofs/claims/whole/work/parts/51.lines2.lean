/-! The model: the next line. -/
theorem m_nextLine_in {d : Nat} {h : ms_H} {Q : ms_Q} {c w : Int} (hv : MV h) : ∀ (j : Nat) (p : List Int) (g : ms_H), ((p.length + j : Nat) : Int) = h 38 0 → 1 ≤ p.length → gd p → LN (g 54) p → (∀ z, z ≠ 54 → g z = h z) → (∀ h' : ms_H, (∀ z, z ≠ 54 → h' z = h z) → LN (h' 54) (fil j p) → Q (some (mI 1)) SH h') → ms_at (ms_Ok ms_P (d)) ms_X1 MX5_nextLine Q 101 [mR 38, mI c, mI w, mI p.length] [] (SH, 0, 0) (g) := by
  have hb := hv.2.1.1
  have hR := hv.1
  unfold RM at hR
  intro j
  induction j with
  | zero =>
    intro p g hp h1 hgd hl hg q
    have e := hg 38 (by decide)
    refine sq_at (ms_Ok_m ms_P _) 30 101 ?_
    simp only [sq_c, jp_s, jp_c, rc_0, rc_s, ms_ex, o_iload, o_aload, o_istore, o_astore, o_iinc, o_bin, o_div, o_rem, o_neg, o_and, o_shl, o_shr, o_dup, o_pop, o_dup2, o_if, o_icmp, o_switch, o_sw, o_get, o_put, o_iald, o_iast, o_zald, o_zast, o_aald, o_aast, o_len, ob_s, ob_n, o_call, o_max, o_min, o_copy, o_obj, o_lpush, o_ladd, o_lcmp, o_iret, o_lret, o_vret, i1_c, l1_c, r1_c, st_g0, st_g1, st_g2, st_g3, st_g4, st_g5, st_g6, st_g7, st_g8, st_g9, st_s0, st_s1, st_s2, st_s3, st_s4, st_s5, st_s6, st_s7, st_s8, st_s9, List.length_cons, List.length_nil, List.take_succ_cons, List.take_zero, List.drop_succ_cons, List.drop_zero, List.reverse_cons, List.reverse_nil, List.nil_append, List.cons_append, List.all_cons, List.all_nil, ms_nl, Bool.and_true, Nat.reduceLeDiff, Nat.reduceAdd, Nat.reduceLT, Nat.reduceEqDiff, if_true, if_false, true_and, and_true, ms_rt, List.cons.injEq, exists_eq_left, exists_eq_right, exists_and_left, exists_and_right, ms_one, ite_true, ite_false, reduceIte, imp_self, Nat.zero_add, Nat.add_zero, zero_le_any, Nat.le_refl, Int.zero_add, true_or, or_true, false_implies, Int.reduceLE, Int.reduceLT, Int.reduceNeg, Int.reduceAdd, Int.reduceSub, Int.reduceMul, Int.reduceEq, not_true, not_false_iff, and_self, implies_true, false_and, and_false, or_false, false_or, bX5_nextLine_0, bX5_nextLine_1, bX5_nextLine_2, bX5_nextLine_3, bX5_nextLine_4, bX5_nextLine_5, bX5_nextLine_6, bX5_nextLine_7, bX5_nextLine_8, bX5_nextLine_100, bX5_nextLine_101, lX5_nextLine_0, lX5_nextLine_1, lX5_nextLine_2, lX5_nextLine_3, lX5_nextLine_4, lX5_nextLine_5, lX5_nextLine_6, lX5_nextLine_7, lX5_nextLine_8, lX5_nextLine_100, lX5_nextLine_101, qX5_nextLine, sh_b, e, hR, ar_54]
    exact ⟨fun _ => q g hg hl, fun h2 => by omega⟩
  | succ j ih =>
    intro p g hp h1 hgd hl hg q
    have e := hg 38 (by decide)
    cases p with
    | nil => exact absurd h1 (by decide)
    | cons y p =>
      have hy := hgd.1
      have hy2 : g 54 (((y :: p).length : Int) - 1) = y := by
        rw [List.length_cons, show ((p.length + 1 : Nat) : Int) - 1 = p.length by omega]
        exact hl.1
      have ih' := ih (dn (y :: p) :: y :: p) (hs g 54 (y :: p).length (dn (y :: p))) (by rw [List.length_cons]; omega) (by rw [List.length_cons]; omega) ⟨(gd_b hgd).1, hgd⟩ ⟨by rw [hs_v, if_pos ⟨rfl, rfl⟩], LN_c (y :: p) (fun i h0 h1 => by rw [hs_v, if_neg (by omega)]) hl⟩ (fun z hz => by rw [← hg z hz]; funext b; rw [hs_v, if_neg (by omega)]) q
      rw [List.length_cons, Int.natCast_succ] at ih'
      generalize hk : ((y :: p).length : Int) = k at *
      have hk2 : k = p.length + 1 := by rw [← hk, List.length_cons]; omega
      have ed : dn (y :: p) = if 0 < y then y - 1 else 0 := rfl
      refine sq_at (ms_Ok_m ms_P _) 30 101 ?_
      simp only [sq_c, jp_s, jp_c, rc_0, rc_s, ms_ex, o_iload, o_aload, o_istore, o_astore, o_iinc, o_bin, o_div, o_rem, o_neg, o_and, o_shl, o_shr, o_dup, o_pop, o_dup2, o_if, o_icmp, o_switch, o_sw, o_get, o_put, o_iald, o_iast, o_zald, o_zast, o_aald, o_aast, o_len, ob_s, ob_n, o_call, o_max, o_min, o_copy, o_obj, o_lpush, o_ladd, o_lcmp, o_iret, o_lret, o_vret, i1_c, l1_c, r1_c, st_g0, st_g1, st_g2, st_g3, st_g4, st_g5, st_g6, st_g7, st_g8, st_g9, st_s0, st_s1, st_s2, st_s3, st_s4, st_s5, st_s6, st_s7, st_s8, st_s9, List.length_cons, List.length_nil, List.take_succ_cons, List.take_zero, List.drop_succ_cons, List.drop_zero, List.reverse_cons, List.reverse_nil, List.nil_append, List.cons_append, List.all_cons, List.all_nil, ms_nl, Bool.and_true, Nat.reduceLeDiff, Nat.reduceAdd, Nat.reduceLT, Nat.reduceEqDiff, if_true, if_false, true_and, and_true, ms_rt, List.cons.injEq, exists_eq_left, exists_eq_right, exists_and_left, exists_and_right, ms_one, ite_true, ite_false, reduceIte, imp_self, Nat.zero_add, Nat.add_zero, zero_le_any, Nat.le_refl, Int.zero_add, true_or, or_true, false_implies, Int.reduceLE, Int.reduceLT, Int.reduceNeg, Int.reduceAdd, Int.reduceSub, Int.reduceMul, Int.reduceEq, not_true, not_false_iff, and_self, implies_true, false_and, and_false, or_false, false_or, bX5_nextLine_0, bX5_nextLine_1, bX5_nextLine_2, bX5_nextLine_3, bX5_nextLine_4, bX5_nextLine_5, bX5_nextLine_6, bX5_nextLine_7, bX5_nextLine_8, bX5_nextLine_100, bX5_nextLine_101, lX5_nextLine_0, lX5_nextLine_1, lX5_nextLine_2, lX5_nextLine_3, lX5_nextLine_4, lX5_nextLine_5, lX5_nextLine_6, lX5_nextLine_7, lX5_nextLine_8, lX5_nextLine_100, lX5_nextLine_101, qX5_nextLine, sh_b, e, hR, ar_54, hy2]
      refine ⟨fun h2 => by omega, fun h2 => ⟨rg_of (by omega) (by omega), by omega, by omega, fun h3 => ⟨by omega, by omega, rg_of (by omega) (by omega), ?_⟩, fun h3 => ⟨rg_of (by omega) (by omega), by omega, by omega, rg_of (by omega) (by omega), by omega, by omega, rg_of (by omega) (by omega), ?_⟩⟩⟩
      · rw [if_neg (by omega)] at ed
        rw [ed] at ih'
        exact ih'
      · rw [if_pos (by omega)] at ed
        rw [ed] at ih'
        exact ih'
theorem m_nextLine_lp {d : Nat} {h : ms_H} {Q : ms_Q} (hv : MV h) : ∀ (p : List Int) (k : Nat) (u v : ms_V), ((p.length + k : Nat) : Int) = h 38 0 → gd p → LN (h 54) p → (nx k p = none → Q (some (mI 0)) SH h) → (∀ (h' : ms_H) (p' : List Int), nx k p = some p' → (∀ z, z ≠ 54 → h' z = h z) → LN (h' 54) p' → Q (some (mI 1)) SH h') → ms_at (ms_Ok ms_P (d)) ms_X1 MX5_nextLine Q 100 [mR 38, mI ((p.length : Int) - 1), u, v] [] (SH, 0, 0) (h) := by
  have hb := hv.2.1.1
  have hR := hv.1
  unfold RM at hR
  intro p
  induction p with
  | nil =>
    intro k u v hp hgd hl q1 q2
    refine sq_at (ms_Ok_m ms_P _) 30 100 ?_
    simp only [sq_c, jp_s, jp_c, rc_0, rc_s, ms_ex, o_iload, o_aload, o_istore, o_astore, o_iinc, o_bin, o_div, o_rem, o_neg, o_and, o_shl, o_shr, o_dup, o_pop, o_dup2, o_if, o_icmp, o_switch, o_sw, o_get, o_put, o_iald, o_iast, o_zald, o_zast, o_aald, o_aast, o_len, ob_s, ob_n, o_call, o_max, o_min, o_copy, o_obj, o_lpush, o_ladd, o_lcmp, o_iret, o_lret, o_vret, i1_c, l1_c, r1_c, st_g0, st_g1, st_g2, st_g3, st_g4, st_g5, st_g6, st_g7, st_g8, st_g9, st_s0, st_s1, st_s2, st_s3, st_s4, st_s5, st_s6, st_s7, st_s8, st_s9, List.length_cons, List.length_nil, List.take_succ_cons, List.take_zero, List.drop_succ_cons, List.drop_zero, List.reverse_cons, List.reverse_nil, List.nil_append, List.cons_append, List.all_cons, List.all_nil, ms_nl, Bool.and_true, Nat.reduceLeDiff, Nat.reduceAdd, Nat.reduceLT, Nat.reduceEqDiff, if_true, if_false, true_and, and_true, ms_rt, List.cons.injEq, exists_eq_left, exists_eq_right, exists_and_left, exists_and_right, ms_one, ite_true, ite_false, reduceIte, imp_self, Nat.zero_add, Nat.add_zero, zero_le_any, Nat.le_refl, Int.zero_add, true_or, or_true, false_implies, Int.reduceLE, Int.reduceLT, Int.reduceNeg, Int.reduceAdd, Int.reduceSub, Int.reduceMul, Int.reduceEq, not_true, not_false_iff, and_self, implies_true, false_and, and_false, or_false, false_or, bX5_nextLine_0, bX5_nextLine_1, bX5_nextLine_2, bX5_nextLine_3, bX5_nextLine_4, bX5_nextLine_5, bX5_nextLine_6, bX5_nextLine_7, bX5_nextLine_8, bX5_nextLine_100, bX5_nextLine_101, lX5_nextLine_0, lX5_nextLine_1, lX5_nextLine_2, lX5_nextLine_3, lX5_nextLine_4, lX5_nextLine_5, lX5_nextLine_6, lX5_nextLine_7, lX5_nextLine_8, lX5_nextLine_100, lX5_nextLine_101, qX5_nextLine, sh_b, hR, ar_54, List.length_nil]
    exact ⟨fun _ => q1 rfl, fun h1 => by omega⟩
  | cons x p ih =>
    intro k u v hp hgd hl q1 q2
    have hx := hgd.1
    have hbp := gd_b hgd.2
    have e1 : ((x :: p).length : Int) - 1 = p.length := by rw [List.length_cons]; omega
    have hp2 : ((p.length + (k + 1) : Nat) : Int) = h 38 0 := by rw [← hp, List.length_cons]; omega
    have en : nx k (x :: p) = if x < mo p then some (fil k ((x + 1) :: p)) else nx (k + 1) p := rfl
    rw [e1]
    have A : ∀ m : Int, m = mo p → mo p ≤ x → ms_at (ms_Ok ms_P (d)) ms_X1 MX5_nextLine Q 100 [mR 38, mI (p.length + -1), mI m, v] [] (SH, 0, 0) (h) := fun m hm h1 => by
      rw [if_neg (by omega)] at en
      rw [en] at q1 q2
      exact ih (k + 1) (mI m) v hp2 hgd.2 hl.2 q1 q2
    have B : ∀ m : Int, m = mo p → x < mo p → ms_at (ms_Ok ms_P (d)) ms_X1 MX5_nextLine Q 101 [mR 38, mI p.length, mI m, mI (p.length + 1)] [] (SH, 0, 0) (hs h 54 p.length (x + 1)) := fun m hm h1 => by
      rw [if_pos (by omega)] at en
      have := m_nextLine_in (d := d) (Q := Q) (c := p.length) (w := m) hv k ((x + 1) :: p) (hs h 54 p.length (x + 1)) (by rw [← hp2, List.length_cons]; omega) (by rw [List.length_cons]; omega) ⟨⟨by omega, by omega⟩, hgd.2⟩ ⟨by rw [hs_v, if_pos ⟨rfl, rfl⟩], LN_c p (fun i h0 h1 => by rw [hs_v, if_neg (by omega)]) hl.2⟩ (fun z hz => by funext b; rw [hs_v, if_neg (by omega)]) (fun h' hf hl' => q2 h' _ en hf hl')
      exact this
    have hl1 := hl.1
    cases p with
    | nil =>
      have em : mo [] = 8 := rfl
      have hl1 : h 54 0 = x := hl1
      have A := A 8 rfl
      have B := B 8 rfl
      refine sq_at (ms_Ok_m ms_P _) 30 100 ?_
      simp only [List.length_nil] at *
      simp only [sq_c, jp_s, jp_c, rc_0, rc_s, ms_ex, o_iload, o_aload, o_istore, o_astore, o_iinc, o_bin, o_div, o_rem, o_neg, o_and, o_shl, o_shr, o_dup, o_pop, o_dup2, o_if, o_icmp, o_switch, o_sw, o_get, o_put, o_iald, o_iast, o_zald, o_zast, o_aald, o_aast, o_len, ob_s, ob_n, o_call, o_max, o_min, o_copy, o_obj, o_lpush, o_ladd, o_lcmp, o_iret, o_lret, o_vret, i1_c, l1_c, r1_c, st_g0, st_g1, st_g2, st_g3, st_g4, st_g5, st_g6, st_g7, st_g8, st_g9, st_s0, st_s1, st_s2, st_s3, st_s4, st_s5, st_s6, st_s7, st_s8, st_s9, List.length_cons, List.length_nil, List.take_succ_cons, List.take_zero, List.drop_succ_cons, List.drop_zero, List.reverse_cons, List.reverse_nil, List.nil_append, List.cons_append, List.all_cons, List.all_nil, ms_nl, Bool.and_true, Nat.reduceLeDiff, Nat.reduceAdd, Nat.reduceLT, Nat.reduceEqDiff, if_true, if_false, true_and, and_true, ms_rt, List.cons.injEq, exists_eq_left, exists_eq_right, exists_and_left, exists_and_right, ms_one, ite_true, ite_false, reduceIte, imp_self, Nat.zero_add, Nat.add_zero, zero_le_any, Nat.le_refl, Int.zero_add, true_or, or_true, false_implies, Int.reduceLE, Int.reduceLT, Int.reduceNeg, Int.reduceAdd, Int.reduceSub, Int.reduceMul, Int.reduceEq, not_true, not_false_iff, and_self, implies_true, false_and, and_false, or_false, false_or, bX5_nextLine_0, bX5_nextLine_1, bX5_nextLine_2, bX5_nextLine_3, bX5_nextLine_4, bX5_nextLine_5, bX5_nextLine_6, bX5_nextLine_7, bX5_nextLine_8, bX5_nextLine_100, bX5_nextLine_101, lX5_nextLine_0, lX5_nextLine_1, lX5_nextLine_2, lX5_nextLine_3, lX5_nextLine_4, lX5_nextLine_5, lX5_nextLine_6, lX5_nextLine_7, lX5_nextLine_8, lX5_nextLine_100, lX5_nextLine_101, qX5_nextLine, sh_b, hR, ar_54]
      simp only [Int.natCast_zero, Int.zero_add, Nat.zero_add, hl1, Int.reduceLE, Int.reduceLT, true_and, ms_rt, false_implies, and_true, not_true, not_false_iff, Int.reduceAdd, Int.reduceNeg, Int.cast_ofNat_Int] at *
      exact ⟨fun h1 => ⟨rg_of (by omega) (by omega), A h1⟩, fun h1 => ⟨rg_of (by omega) (by omega), rg_of (by omega) (by omega), B h1⟩⟩
    | cons y p =>
      have em : mo (y :: p) = if 8 ≤ y then 8 else y + 1 := rfl
      have hy := hgd.2.1
      have hl2 : h 54 p.length = y := hl.2.1
      have e3 : ((y :: p).length : Int) = p.length + 1 := by rw [List.length_cons]; omega
      have hp3 : ((y :: p).length : Int) + 1 ≤ h 38 0 := by rw [← hp2]; omega
      have A := fun h1 => A _ rfl h1
      have B := fun h1 => B _ rfl h1
      generalize hm : mo (y :: p) = m at A B em
      generalize hc : ((y :: p).length : Int) = c at A B hl1 e3 hp3 ⊢
      have hl2 : h 54 (c - 1) = y := by rw [← hl2, e3, Int.add_sub_cancel]
      refine sq_at (ms_Ok_m ms_P _) 30 100 ?_
      simp only [sq_c, jp_s, jp_c, rc_0, rc_s, ms_ex, o_iload, o_aload, o_istore, o_astore, o_iinc, o_bin, o_div, o_rem, o_neg, o_and, o_shl, o_shr, o_dup, o_pop, o_dup2, o_if, o_icmp, o_switch, o_sw, o_get, o_put, o_iald, o_iast, o_zald, o_zast, o_aald, o_aast, o_len, ob_s, ob_n, o_call, o_max, o_min, o_copy, o_obj, o_lpush, o_ladd, o_lcmp, o_iret, o_lret, o_vret, i1_c, l1_c, r1_c, st_g0, st_g1, st_g2, st_g3, st_g4, st_g5, st_g6, st_g7, st_g8, st_g9, st_s0, st_s1, st_s2, st_s3, st_s4, st_s5, st_s6, st_s7, st_s8, st_s9, List.length_cons, List.length_nil, List.take_succ_cons, List.take_zero, List.drop_succ_cons, List.drop_zero, List.reverse_cons, List.reverse_nil, List.nil_append, List.cons_append, List.all_cons, List.all_nil, ms_nl, Bool.and_true, Nat.reduceLeDiff, Nat.reduceAdd, Nat.reduceLT, Nat.reduceEqDiff, if_true, if_false, true_and, and_true, ms_rt, List.cons.injEq, exists_eq_left, exists_eq_right, exists_and_left, exists_and_right, ms_one, ite_true, ite_false, reduceIte, imp_self, Nat.zero_add, Nat.add_zero, zero_le_any, Nat.le_refl, Int.zero_add, true_or, or_true, false_implies, Int.reduceLE, Int.reduceLT, Int.reduceNeg, Int.reduceAdd, Int.reduceSub, Int.reduceMul, Int.reduceEq, not_true, not_false_iff, and_self, implies_true, false_and, and_false, or_false, false_or, bX5_nextLine_0, bX5_nextLine_1, bX5_nextLine_2, bX5_nextLine_3, bX5_nextLine_4, bX5_nextLine_5, bX5_nextLine_6, bX5_nextLine_7, bX5_nextLine_8, bX5_nextLine_100, bX5_nextLine_101, lX5_nextLine_0, lX5_nextLine_1, lX5_nextLine_2, lX5_nextLine_3, lX5_nextLine_4, lX5_nextLine_5, lX5_nextLine_6, lX5_nextLine_7, lX5_nextLine_8, lX5_nextLine_100, lX5_nextLine_101, qX5_nextLine, sh_b, hR, ar_54, hl1, hl2]
      refine ⟨fun h1 => by omega, fun h1 => ⟨fun h2 => by omega, fun h2 => ⟨rg_of (by omega) (by omega), by omega, by omega, fun h3 => ⟨rg_of (by omega) (by omega), by omega, by omega, rg_of (by omega) (by omega), by omega, by omega, ?_⟩, fun h3 => ⟨by omega, by omega, ?_⟩⟩⟩⟩
      · rw [if_neg (by omega)] at em
        rw [em] at A B
        exact ⟨fun h4 => ⟨rg_of (by omega) (by omega), A h4⟩, fun h4 => ⟨by omega, by omega, rg_of (by omega) (by omega), by omega, by omega, rg_of (by omega) (by omega), B h4⟩⟩
      · rw [if_pos (by omega)] at em
        rw [em] at A B
        exact ⟨fun h4 => ⟨rg_of (by omega) (by omega), A h4⟩, fun h4 => ⟨by omega, by omega, rg_of (by omega) (by omega), by omega, by omega, rg_of (by omega) (by omega), B h4⟩⟩
theorem m_nextLine {d : Nat} {h : ms_H} {Q : ms_Q} (hv : MV h) {p : List Int} (hp : (p.length : Int) = h 38 0) (hgd : gd p) (hl : LN (h 54) p) (q1 : nx 0 p = none → Q (some (mI 0)) SH h) (q2 : ∀ (h' : ms_H) (p' : List Int), nx 0 p = some p' → (∀ z, z ≠ 54 → h' z = h z) → LN (h' 54) p' → Q (some (mI 1)) SH h') : ms_Ok ms_P (d + 1) 137 [mR 38] SH (h) Q := by
  refine ok_in (k := 30) MX5_nextLine rfl rfl ?_
  show sq (ms_Ok ms_P (d)) ms_X1 MX5_nextLine Q 30 (M_bl MX5_nextLine 0) [mR 38, mL 0, mL 0, mL 0] [] (SH, 0, 0) (h)
  have hb := hv.2.1.1
  simp only [sq_c, jp_s, jp_c, rc_0, rc_s, ms_ex, o_iload, o_aload, o_istore, o_astore, o_iinc, o_bin, o_div, o_rem, o_neg, o_and, o_shl, o_shr, o_dup, o_pop, o_dup2, o_if, o_icmp, o_switch, o_sw, o_get, o_put, o_iald, o_iast, o_zald, o_zast, o_aald, o_aast, o_len, ob_s, ob_n, o_call, o_max, o_min, o_copy, o_obj, o_lpush, o_ladd, o_lcmp, o_iret, o_lret, o_vret, i1_c, l1_c, r1_c, st_g0, st_g1, st_g2, st_g3, st_g4, st_g5, st_g6, st_g7, st_g8, st_g9, st_s0, st_s1, st_s2, st_s3, st_s4, st_s5, st_s6, st_s7, st_s8, st_s9, List.length_cons, List.length_nil, List.take_succ_cons, List.take_zero, List.drop_succ_cons, List.drop_zero, List.reverse_cons, List.reverse_nil, List.nil_append, List.cons_append, List.all_cons, List.all_nil, ms_nl, Bool.and_true, Nat.reduceLeDiff, Nat.reduceAdd, Nat.reduceLT, Nat.reduceEqDiff, if_true, if_false, true_and, and_true, ms_rt, List.cons.injEq, exists_eq_left, exists_eq_right, exists_and_left, exists_and_right, ms_one, ite_true, ite_false, reduceIte, imp_self, Nat.zero_add, Nat.add_zero, zero_le_any, Nat.le_refl, Int.zero_add, true_or, or_true, false_implies, Int.reduceLE, Int.reduceLT, Int.reduceNeg, Int.reduceAdd, Int.reduceSub, Int.reduceMul, Int.reduceEq, not_true, not_false_iff, and_self, implies_true, false_and, and_false, or_false, false_or, bX5_nextLine_0, bX5_nextLine_1, bX5_nextLine_2, bX5_nextLine_3, bX5_nextLine_4, bX5_nextLine_5, bX5_nextLine_6, bX5_nextLine_7, bX5_nextLine_8, bX5_nextLine_100, bX5_nextLine_101, lX5_nextLine_0, lX5_nextLine_1, lX5_nextLine_2, lX5_nextLine_3, lX5_nextLine_4, lX5_nextLine_5, lX5_nextLine_6, lX5_nextLine_7, lX5_nextLine_8, lX5_nextLine_100, lX5_nextLine_101, qX5_nextLine, sh_b]
  rw [← hp]
  exact ⟨rg_of (by omega) (by omega), m_nextLine_lp hv p 0 _ _ hp hgd hl q1 q2⟩
