/-! The class: images. -/
section
variable (K : ms_K) (L r : List ms_V) (G : ms_G) (h : ms_H)
theorem put_s (c : Int) (a : Nat) (v z : Int) : o_put c a 0 K L (mI v :: mR z :: r) G h = (ms_ob G.1 z a ∧ ∀ h', h' = hs h z c v → K L r G h') := propext ⟨fun q => ⟨q.1, fun h' e => e ▸ q.2⟩, fun q => ⟨q.1, q.2 _ rfl⟩⟩
theorem put_1 (c : Int) (a : Nat) (v z : Int) : o_put c a 1 K L (mI v :: mR z :: r) G h = (ms_ob G.1 z a ∧ (v = 0 ∨ v = 1) ∧ ∀ h', h' = hs h z c v → K L r G h') := propext ⟨fun q => ⟨q.1, q.2.1, fun h' e => e ▸ q.2.2⟩, fun q => ⟨q.1, q.2.1, q.2.2 _ rfl⟩⟩
theorem put_2 (c : Int) (a : Nat) (v z : Int) : o_put c a 2 K L (mL v :: mR z :: r) G h = (ms_ob G.1 z a ∧ ∀ h', h' = hs h z c v → K L r G h') := propext ⟨fun q => ⟨q.1, fun h' e => e ▸ q.2⟩, fun q => ⟨q.1, q.2 _ rfl⟩⟩
theorem put_3 (c : Int) (a : Nat) (v z : Int) : o_put c a 3 K L (mR v :: mR z :: r) G h = (ms_ob G.1 z a ∧ ∀ h', h' = hs h z c v → K L r G h') := propext ⟨fun q => ⟨q.1, fun h' e => e ▸ q.2⟩, fun q => ⟨q.1, q.2 _ rfl⟩⟩
theorem iast_s (v i z : Int) : o_iast K L (mI v :: mI i :: mR z :: r) G h = ms_ar G.1 z 10 i (∀ h', h' = hs h z i v → K L r G h') := propext ⟨fun q => ms_ar_m (fun q h' e => e ▸ q) q, fun q => ms_ar_m (fun q => q _ rfl) q⟩
theorem cpy_s (n dp d sp s : Int) : o_copy K L (mI n :: mI dp :: mR d :: mI sp :: mR s :: r) G h = (r.length ≤ 4 ∧ 0 ≤ n ∧ 0 ≤ sp ∧ 0 ≤ dp ∧ ∃ n0 n1 : Nat, ms_sh G.1 s = some (10, n0) ∧ ms_sh G.1 d = some (10, n1) ∧ sp + n ≤ n0 ∧ dp + n ≤ n1 ∧ ∀ h', h' = ms_cpy h s sp d dp n → K L r G h') := propext ⟨fun q => by
  obtain ⟨q1, q2, q3, q4, n0, n1, q5, q6, q7, q8, q9⟩ := q
  exact ⟨q1, q2, q3, q4, n0, n1, q5, q6, q7, q8, fun h' e => e ▸ q9⟩, fun q => by
  obtain ⟨q1, q2, q3, q4, n0, n1, q5, q6, q7, q8, q9⟩ := q
  exact ⟨q1, q2, q3, q4, n0, n1, q5, q6, q7, q8, q9 _ rfl⟩⟩
end
def bcH (h : ms_H) (q o : Int) : ms_H := ms_cpy (ms_cpy (ms_cpy (hs (ms_cpy (hs (hs h q 0 (h o 0)) q 1 (h o 1)) (o + 1) 0 (q + 1) 0 8) q 3 (h o 3)) (o + 2) 0 (q + 2) 0 10) (o + 3) 0 (q + 3) 0 10) (o + 4) 0 (q + 4) 0 10
def NWs (q : Int) : Prop := ms_ob SH q 1 ∧ ms_sh SH (q + 1) = some (10, 8) ∧ ms_sh SH (q + 2) = some (10, 10) ∧ ms_sh SH (q + 3) = some (10, 10) ∧ ms_sh SH (q + 4) = some (10, 10)
def NWr (h : ms_H) (q : Int) : Prop := h q 2 = q + 1 ∧ h q 4 = q + 2 ∧ h q 5 = q + 3 ∧ h q 6 = q + 4
set_option maxRecDepth 50000 in
theorem c_become {d : Nat} {q o : Int} {h : ms_H} {Q : ms_Q} (hq : NWs q) (ho : NWs o) (rq : NWr h q) (ro : NWr h o) (hd : q + 5 ≤ o ∨ o + 5 ≤ q) (p : 0 ≤ q ∧ 0 ≤ o) (k : Q none SH (bcH h q o)) : ms_Ok ms_P (d + 1) 6 [mR q, mR o] SH (h) Q := by
  refine ok_in (k := 30) MX1_become rfl rfl ?_
  show sq (ms_Ok ms_P (d)) ms_X1 MX1_become Q 30 (M_bl MX1_become 0) [mR q, mR o] [] (SH, 0, 0) (h)
  unfold NWs at hq ho
  unfold NWr at rq ro
  simp only [sq_c, jp_s, jp_c, rc_0, rc_s, ms_ex, o_iload, o_aload, o_istore, o_astore, o_iinc, o_bin, o_div, o_rem, o_neg, o_and, o_shl, o_shr, o_dup, o_pop, o_dup2, o_if, o_icmp, o_switch, o_sw, o_get, put_s, put_3, put_1, put_2, o_iald, iast_s, o_zald, o_zast, o_aald, o_aast, o_len, ob_s, ob_n, o_call, o_max, o_min, cpy_s, o_obj, o_lpush, o_ladd, o_lcmp, o_iret, o_lret, o_vret, i1_c, l1_c, r1_c, st_g0, st_g1, st_g2, st_g3, st_g4, st_g5, st_g6, st_g7, st_g8, st_g9, st_s0, st_s1, st_s2, st_s3, st_s4, st_s5, st_s6, st_s7, st_s8, st_s9, List.length_cons, List.length_nil, List.take_succ_cons, List.take_zero, List.drop_succ_cons, List.drop_zero, List.reverse_cons, List.reverse_nil, List.nil_append, List.cons_append, List.all_cons, List.all_nil, ms_nl, Bool.and_true, Nat.reduceLeDiff, Nat.reduceAdd, Nat.reduceLT, Nat.reduceEqDiff, if_true, if_false, true_and, and_true, ms_rt, List.cons.injEq, exists_eq_left, exists_eq_right, exists_and_left, exists_and_right, ms_one, ite_true, ite_false, reduceIte, imp_self, Nat.zero_add, Nat.add_zero, zero_le_any, Nat.le_refl, Int.zero_add, true_or, or_true, false_implies, Int.reduceLE, Int.reduceLT, Int.reduceNeg, Int.reduceAdd, Int.reduceSub, Int.reduceMul, Int.reduceEq, not_true, not_false_iff, and_self, implies_true, false_and, and_false, or_false, false_or, bX1_become_0, lX1_become_0, qX1_become, hq.1, ho.1]
  intro h1 e1 h2 e2
  have g2 : ∀ a b, 2 ≤ b → b < 10 → (a = q ∨ a = o) → h2 a b = h a b := fun a b hb hb2 ha => by rw [e2, hs_v, if_neg (by omega), e1, hs_v, if_neg (by omega)]
  have g2o : h1 o 1 = h o 1 := by rw [e1, hs_v, if_neg (by omega)]
  rw [g2 o 2 (by omega) (by omega) (Or.inr rfl), g2 q 2 (by omega) (by omega) (Or.inl rfl), ro.1, rq.1]
  refine ⟨by omega, by omega, 8, ho.2.1, 8, hq.2.1, by omega, by omega, fun h3 e3 => ?_⟩
  have g3 : ∀ a b, 2 ≤ b → b < 10 → (a = q ∨ a = o) → h3 a b = h a b := fun a b hb hb2 ha => by rw [e3, cpy_v, if_neg (by omega), g2 a b hb hb2 ha]
  intro h4 e4
  rw [g3 o 3 (by omega) (by omega) (Or.inr rfl)] at e4
  have g4 : ∀ a b, 4 ≤ b → b < 10 → (a = q ∨ a = o) → h4 a b = h a b := fun a b hb hb2 ha => by rw [e4, hs_v, if_neg (by omega), g3 a b (by omega) hb2 ha]
  rw [g4 o 4 (by omega) (by omega) (Or.inr rfl), g4 q 4 (by omega) (by omega) (Or.inl rfl), ro.2.1, rq.2.1]
  refine ⟨by omega, by omega, 10, ho.2.2.1, 10, hq.2.2.1, by omega, by omega, fun h5 e5 => ?_⟩
  have g5 : ∀ a b, 4 ≤ b → b < 10 → (a = q ∨ a = o) → h5 a b = h a b := fun a b hb hb2 ha => by rw [e5, cpy_v, if_neg (by omega), g4 a b hb hb2 ha]
  rw [g5 o 5 (by omega) (by omega) (Or.inr rfl), g5 q 5 (by omega) (by omega) (Or.inl rfl), ro.2.2.1, rq.2.2.1]
  refine ⟨by omega, by omega, 10, ho.2.2.2.1, 10, hq.2.2.2.1, by omega, by omega, fun h6 e6 => ?_⟩
  have g6 : ∀ a b, 4 ≤ b → b < 10 → (a = q ∨ a = o) → h6 a b = h a b := fun a b hb hb2 ha => by rw [e6, cpy_v, if_neg (by omega), g5 a b hb hb2 ha]
  rw [g6 o 6 (by omega) (by omega) (Or.inr rfl), g6 q 6 (by omega) (by omega) (Or.inl rfl), ro.2.2.2, rq.2.2.2]
  refine ⟨by omega, by omega, 10, ho.2.2.2.2, 10, hq.2.2.2.2, by omega, by omega, fun h7 e7 => ?_⟩
  rw [e7, e6, e5, e4, e3, e2, g2o, e1]
  exact k
theorem nws_21 : NWs 21 := ⟨rfl, rfl, rfl, rfl, rfl⟩
theorem nws_27 : NWs 27 := ⟨rfl, rfl, rfl, rfl, rfl⟩
theorem nws_32 : NWs 32 := ⟨rfl, rfl, rfl, rfl, rfl⟩
theorem nws_im {im : Int} (hi : 0 ≤ im ∧ im ≤ 1) : NWs (27 + 5 * im) := by
  have : im = 0 ∨ im = 1 := by omega
  rcases this with rfl | rfl
  · exact nws_27
  · exact nws_32
theorem nwr_21 {t u : Int} {h : ms_H} (hv : CV t u h) : NWr h 21 := by
  have hR := hv.2.1
  unfold RC at hR
  exact hR.2.2.2.1
theorem nwr_im {t u im : Int} {h : ms_H} (hv : CV t u h) (hi : 0 ≤ im ∧ im ≤ 1) : NWr h (27 + 5 * im) ∧ h 26 im = 27 + 5 * im := by
  have hR := hv.2.1
  unfold RC at hR
  have : im = 0 ∨ im = 1 := by omega
  rcases this with rfl | rfl
  · exact ⟨hR.2.2.2.2.1, hR.2.2.2.2.2.2.1⟩
  · exact ⟨hR.2.2.2.2.2.1, hR.2.2.2.2.2.2.2⟩
theorem bcH_f (h : ms_H) {q o z : Int} (hz : z < q ∨ q + 5 ≤ z) : bcH h q o z = h z := by
  funext b
  unfold bcH
  rw [cpy_v, if_neg (by omega), cpy_v, if_neg (by omega), cpy_v, if_neg (by omega), hs_v, if_neg (by omega), cpy_v, if_neg (by omega), hs_v, if_neg (by omega), hs_v, if_neg (by omega)]
theorem bcH_0 (h : ms_H) {q o : Int} : bcH h q o q 0 = h o 0 := by
  unfold bcH
  rw [cpy_v, if_neg (by omega), cpy_v, if_neg (by omega), cpy_v, if_neg (by omega), hs_v, if_neg (by omega), cpy_v, if_neg (by omega), hs_v, if_neg (by omega), hs_v, if_pos ⟨rfl, rfl⟩]
theorem ms_ar_i {S : ms_S} {z : Int} {kd n : Nat} {i : Int} {k : Prop} (hs : ms_sh S z = some (kd, n)) (h0 : 0 ≤ i) (h1 : i < n) (q : k) : ms_ar S z kd i k := ⟨n, hs, h0, h1, q⟩
theorem c_keep {d : Nat} {t u im : Int} {h : ms_H} {Q : ms_Q} (hv : CV t u h) (q1 : ¬ (0 ≤ im ∧ im ≤ 1) → Q (some (mI (-1))) SH h) (q2 : (0 ≤ im ∧ im ≤ 1) → Q (some (mI (h 21 0))) SH (hs (bcH h (27 + 5 * im) 21) 37 im 1)) : ms_Ok ms_P (d + 2) 56 [mR 0, mI im] SH (h) Q := by
  refine ok_in (k := 30) MX4_keep rfl rfl ?_
  show sq (ms_Ok ms_P (d + 1)) ms_X1 MX4_keep Q 30 (M_bl MX4_keep 0) [mR 0, mI im] [] (SH, 0, 0) (h)
  have hR := hv.2.1
  unfold RC at hR
  simp only [sq_c, jp_s, jp_c, rc_0, rc_s, ms_ex, o_iload, o_aload, o_istore, o_astore, o_iinc, o_bin, o_div, o_rem, o_neg, o_and, o_shl, o_shr, o_dup, o_pop, o_dup2, o_if, o_icmp, o_switch, o_sw, o_get, o_put, o_iald, o_iast, o_zald, o_zast, o_aald, o_aast, o_len, ob_s, ob_n, o_call, o_max, o_min, o_copy, o_obj, o_lpush, o_ladd, o_lcmp, o_iret, o_lret, o_vret, i1_c, l1_c, r1_c, st_g0, st_g1, st_g2, st_g3, st_g4, st_g5, st_g6, st_g7, st_g8, st_g9, st_s0, st_s1, st_s2, st_s3, st_s4, st_s5, st_s6, st_s7, st_s8, st_s9, List.length_cons, List.length_nil, List.take_succ_cons, List.take_zero, List.drop_succ_cons, List.drop_zero, List.reverse_cons, List.reverse_nil, List.nil_append, List.cons_append, List.all_cons, List.all_nil, ms_nl, Bool.and_true, Nat.reduceLeDiff, Nat.reduceAdd, Nat.reduceLT, Nat.reduceEqDiff, if_true, if_false, true_and, and_true, ms_rt, List.cons.injEq, exists_eq_left, exists_eq_right, exists_and_left, exists_and_right, ms_one, ite_true, ite_false, reduceIte, imp_self, Nat.zero_add, Nat.add_zero, zero_le_any, Nat.le_refl, Int.zero_add, true_or, or_true, false_implies, Int.reduceLE, Int.reduceLT, Int.reduceNeg, Int.reduceAdd, Int.reduceSub, Int.reduceMul, Int.reduceEq, not_true, not_false_iff, and_self, implies_true, false_and, and_false, or_false, false_or, bX4_keep_0, bX4_keep_1, lX4_keep_0, lX4_keep_1, qX4_keep, sh_b]
  refine c_within (fun r hr => ?_)
  simp only [sq_c, jp_s, jp_c, rc_0, rc_s, ms_ex, o_iload, o_aload, o_istore, o_astore, o_iinc, o_bin, o_div, o_rem, o_neg, o_and, o_shl, o_shr, o_dup, o_pop, o_dup2, o_if, o_icmp, o_switch, o_sw, o_get, o_put, o_iald, o_iast, o_zald, o_zast, o_aald, o_aast, o_len, ob_s, ob_n, o_call, o_max, o_min, o_copy, o_obj, o_lpush, o_ladd, o_lcmp, o_iret, o_lret, o_vret, i1_c, l1_c, r1_c, st_g0, st_g1, st_g2, st_g3, st_g4, st_g5, st_g6, st_g7, st_g8, st_g9, st_s0, st_s1, st_s2, st_s3, st_s4, st_s5, st_s6, st_s7, st_s8, st_s9, List.length_cons, List.length_nil, List.take_succ_cons, List.take_zero, List.drop_succ_cons, List.drop_zero, List.reverse_cons, List.reverse_nil, List.nil_append, List.cons_append, List.all_cons, List.all_nil, ms_nl, Bool.and_true, Nat.reduceLeDiff, Nat.reduceAdd, Nat.reduceLT, Nat.reduceEqDiff, if_true, if_false, true_and, and_true, ms_rt, List.cons.injEq, exists_eq_left, exists_eq_right, exists_and_left, exists_and_right, ms_one, ite_true, ite_false, reduceIte, imp_self, Nat.zero_add, Nat.add_zero, zero_le_any, Nat.le_refl, Int.zero_add, true_or, or_true, false_implies, Int.reduceLE, Int.reduceLT, Int.reduceNeg, Int.reduceAdd, Int.reduceSub, Int.reduceMul, Int.reduceEq, not_true, not_false_iff, and_self, implies_true, false_and, and_false, or_false, false_or, bX4_keep_0, bX4_keep_1, lX4_keep_0, lX4_keep_1, qX4_keep, sh_b, hR, tok hv.1, tok0 hv.1, ar_26]
  refine ⟨fun h1 => ?_, fun h1 => q1 (bf hr h1)⟩
  have hi := bt hr h1
  have hb := nwr_im hv hi
  rw [hb.2]
  refine ⟨hi.1, by omega, by omega, (nws_im hi).1, ?_⟩
  refine c_become (nws_im hi) nws_21 hb.1 (nwr_21 hv) (by omega) (by omega) ?_
  have e0 : bcH h (27 + 5 * im) 21 0 = h 0 := bcH_f h (by omega)
  have e1 : bcH h (27 + 5 * im) 21 21 = h 21 := bcH_f h (by omega)
  simp only [sq_c, jp_s, jp_c, rc_0, rc_s, ms_ex, o_iload, o_aload, o_istore, o_astore, o_iinc, o_bin, o_div, o_rem, o_neg, o_and, o_shl, o_shr, o_dup, o_pop, o_dup2, o_if, o_icmp, o_switch, o_sw, o_get, o_put, o_iald, o_iast, o_zald, o_zast, o_aald, o_aast, o_len, ob_s, ob_n, o_call, o_max, o_min, o_copy, o_obj, o_lpush, o_ladd, o_lcmp, o_iret, o_lret, o_vret, i1_c, l1_c, r1_c, st_g0, st_g1, st_g2, st_g3, st_g4, st_g5, st_g6, st_g7, st_g8, st_g9, st_s0, st_s1, st_s2, st_s3, st_s4, st_s5, st_s6, st_s7, st_s8, st_s9, List.length_cons, List.length_nil, List.take_succ_cons, List.take_zero, List.drop_succ_cons, List.drop_zero, List.reverse_cons, List.reverse_nil, List.nil_append, List.cons_append, List.all_cons, List.all_nil, ms_nl, Bool.and_true, Nat.reduceLeDiff, Nat.reduceAdd, Nat.reduceLT, Nat.reduceEqDiff, if_true, if_false, true_and, and_true, ms_rt, List.cons.injEq, exists_eq_left, exists_eq_right, exists_and_left, exists_and_right, ms_one, ite_true, ite_false, reduceIte, imp_self, Nat.zero_add, Nat.add_zero, zero_le_any, Nat.le_refl, Int.zero_add, true_or, or_true, false_implies, Int.reduceLE, Int.reduceLT, Int.reduceNeg, Int.reduceAdd, Int.reduceSub, Int.reduceMul, Int.reduceEq, not_true, not_false_iff, and_self, implies_true, false_and, and_false, or_false, false_or, bX4_keep_0, bX4_keep_1, lX4_keep_0, lX4_keep_1, qX4_keep, sh_b, e0, hR, ar_37, hs_v, e1]
  exact ⟨hi.1, by omega, q2 hi⟩
theorem c_back {d : Nat} {t u im : Int} {h : ms_H} {Q : ms_Q} (hv : CV t u h) (q1 : ¬ (0 ≤ im ∧ im ≤ 1) → Q (some (mI (-1))) SH h) (q2 : (0 ≤ im ∧ im ≤ 1) → h 37 im = 0 → Q (some (mI (-2))) SH h) (q3 : (0 ≤ im ∧ im ≤ 1) → ¬ h 37 im = 0 → Q (some (mI (h (27 + 5 * im) 0))) SH (bcH h 21 (27 + 5 * im))) : ms_Ok ms_P (d + 2) 57 [mR 0, mI im] SH (h) Q := by
  refine ok_in (k := 30) MX4_back rfl rfl ?_
  show sq (ms_Ok ms_P (d + 1)) ms_X1 MX4_back Q 30 (M_bl MX4_back 0) [mR 0, mI im] [] (SH, 0, 0) (h)
  have hR := hv.2.1
  unfold RC at hR
  simp only [sq_c, jp_s, jp_c, rc_0, rc_s, ms_ex, o_iload, o_aload, o_istore, o_astore, o_iinc, o_bin, o_div, o_rem, o_neg, o_and, o_shl, o_shr, o_dup, o_pop, o_dup2, o_if, o_icmp, o_switch, o_sw, o_get, o_put, o_iald, o_iast, o_zald, o_zast, o_aald, o_aast, o_len, ob_s, ob_n, o_call, o_max, o_min, o_copy, o_obj, o_lpush, o_ladd, o_lcmp, o_iret, o_lret, o_vret, i1_c, l1_c, r1_c, st_g0, st_g1, st_g2, st_g3, st_g4, st_g5, st_g6, st_g7, st_g8, st_g9, st_s0, st_s1, st_s2, st_s3, st_s4, st_s5, st_s6, st_s7, st_s8, st_s9, List.length_cons, List.length_nil, List.take_succ_cons, List.take_zero, List.drop_succ_cons, List.drop_zero, List.reverse_cons, List.reverse_nil, List.nil_append, List.cons_append, List.all_cons, List.all_nil, ms_nl, Bool.and_true, Nat.reduceLeDiff, Nat.reduceAdd, Nat.reduceLT, Nat.reduceEqDiff, if_true, if_false, true_and, and_true, ms_rt, List.cons.injEq, exists_eq_left, exists_eq_right, exists_and_left, exists_and_right, ms_one, ite_true, ite_false, reduceIte, imp_self, Nat.zero_add, Nat.add_zero, zero_le_any, Nat.le_refl, Int.zero_add, true_or, or_true, false_implies, Int.reduceLE, Int.reduceLT, Int.reduceNeg, Int.reduceAdd, Int.reduceSub, Int.reduceMul, Int.reduceEq, not_true, not_false_iff, and_self, implies_true, false_and, and_false, or_false, false_or, bX4_back_0, bX4_back_1, bX4_back_2, lX4_back_0, lX4_back_1, lX4_back_2, qX4_back, sh_b]
  refine c_within (fun r hr => ?_)
  simp only [sq_c, jp_s, jp_c, rc_0, rc_s, ms_ex, o_iload, o_aload, o_istore, o_astore, o_iinc, o_bin, o_div, o_rem, o_neg, o_and, o_shl, o_shr, o_dup, o_pop, o_dup2, o_if, o_icmp, o_switch, o_sw, o_get, o_put, o_iald, o_iast, o_zald, o_zast, o_aald, o_aast, o_len, ob_s, ob_n, o_call, o_max, o_min, o_copy, o_obj, o_lpush, o_ladd, o_lcmp, o_iret, o_lret, o_vret, i1_c, l1_c, r1_c, st_g0, st_g1, st_g2, st_g3, st_g4, st_g5, st_g6, st_g7, st_g8, st_g9, st_s0, st_s1, st_s2, st_s3, st_s4, st_s5, st_s6, st_s7, st_s8, st_s9, List.length_cons, List.length_nil, List.take_succ_cons, List.take_zero, List.drop_succ_cons, List.drop_zero, List.reverse_cons, List.reverse_nil, List.nil_append, List.cons_append, List.all_cons, List.all_nil, ms_nl, Bool.and_true, Nat.reduceLeDiff, Nat.reduceAdd, Nat.reduceLT, Nat.reduceEqDiff, if_true, if_false, true_and, and_true, ms_rt, List.cons.injEq, exists_eq_left, exists_eq_right, exists_and_left, exists_and_right, ms_one, ite_true, ite_false, reduceIte, imp_self, Nat.zero_add, Nat.add_zero, zero_le_any, Nat.le_refl, Int.zero_add, true_or, or_true, false_implies, Int.reduceLE, Int.reduceLT, Int.reduceNeg, Int.reduceAdd, Int.reduceSub, Int.reduceMul, Int.reduceEq, not_true, not_false_iff, and_self, implies_true, false_and, and_false, or_false, false_or, bX4_back_0, bX4_back_1, bX4_back_2, lX4_back_0, lX4_back_1, lX4_back_2, qX4_back, sh_b, hR, tok hv.1, tok0 hv.1, ar_26, ar_37]
  refine ⟨fun h1 => ?_, fun h1 => q1 (bf hr h1)⟩
  have hi := bt hr h1
  have hb := nwr_im hv hi
  refine ⟨hi.1, by omega, fun h2 => ?_, fun h2 => q2 hi h2⟩
  rw [hb.2]
  refine ⟨hi.1, by omega, by omega, ?_⟩
  refine c_become nws_21 (nws_im hi) (nwr_21 hv) hb.1 (by omega) (by omega) ?_
  have e0 : bcH h 21 (27 + 5 * im) 0 = h 0 := bcH_f h (by omega)
  have e1 : bcH h 21 (27 + 5 * im) 21 0 = h (27 + 5 * im) 0 := bcH_0 h
  simp only [sq_c, jp_s, jp_c, rc_0, rc_s, ms_ex, o_iload, o_aload, o_istore, o_astore, o_iinc, o_bin, o_div, o_rem, o_neg, o_and, o_shl, o_shr, o_dup, o_pop, o_dup2, o_if, o_icmp, o_switch, o_sw, o_get, o_put, o_iald, o_iast, o_zald, o_zast, o_aald, o_aast, o_len, ob_s, ob_n, o_call, o_max, o_min, o_copy, o_obj, o_lpush, o_ladd, o_lcmp, o_iret, o_lret, o_vret, i1_c, l1_c, r1_c, st_g0, st_g1, st_g2, st_g3, st_g4, st_g5, st_g6, st_g7, st_g8, st_g9, st_s0, st_s1, st_s2, st_s3, st_s4, st_s5, st_s6, st_s7, st_s8, st_s9, List.length_cons, List.length_nil, List.take_succ_cons, List.take_zero, List.drop_succ_cons, List.drop_zero, List.reverse_cons, List.reverse_nil, List.nil_append, List.cons_append, List.all_cons, List.all_nil, ms_nl, Bool.and_true, Nat.reduceLeDiff, Nat.reduceAdd, Nat.reduceLT, Nat.reduceEqDiff, if_true, if_false, true_and, and_true, ms_rt, List.cons.injEq, exists_eq_left, exists_eq_right, exists_and_left, exists_and_right, ms_one, ite_true, ite_false, reduceIte, imp_self, Nat.zero_add, Nat.add_zero, zero_le_any, Nat.le_refl, Int.zero_add, true_or, or_true, false_implies, Int.reduceLE, Int.reduceLT, Int.reduceNeg, Int.reduceAdd, Int.reduceSub, Int.reduceMul, Int.reduceEq, not_true, not_false_iff, and_self, implies_true, false_and, and_false, or_false, false_or, bX4_back_0, bX4_back_1, bX4_back_2, lX4_back_0, lX4_back_1, lX4_back_2, qX4_back, sh_b, e0, hR, hs_v, e1]
  exact q3 hi h2
