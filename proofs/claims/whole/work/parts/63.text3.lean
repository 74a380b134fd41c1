/-! The class: the wold that is drafted. -/
def PU (u : Int) (h : ms_H) : Prop := h u 1 = u + 1 ∧ h u 2 = u + 2 ∧ h u 3 = u + 3 ∧ h u 5 = u + 4 ∧ h u 7 = u + 5 ∧ h u 8 = u + 6 ∧ h u 10 = u + 7
def LC (a b c : Int → Int) : List (Int × Int × Int) → Prop
  | [] => True
  | x :: r => (a r.length = x.1 ∧ b r.length = x.2.1 ∧ c r.length = x.2.2) ∧ LC a b c r
def LV (a b : Int → Int) : List (Int × Int) → Prop
  | [] => True
  | x :: r => (a r.length = x.1 ∧ b r.length = x.2) ∧ LV a b r
def LD (a : Int → Int) : List Int → Prop
  | [] => True
  | x :: r => a r.length = x ∧ LD a r
theorem LC_c {a b c a' b' c' : Int → Int} : ∀ (p : List (Int × Int × Int)), (∀ i : Int, 0 ≤ i → i < p.length → a' i = a i ∧ b' i = b i ∧ c' i = c i) → LC a b c p → LC a' b' c' p
  | [], _, _ => trivial
  | x :: r, he, h => by
    rw [List.length_cons, Int.natCast_succ] at he
    have e := he r.length (by omega) (by omega)
    exact ⟨⟨e.1.trans h.1.1, e.2.1.trans h.1.2.1, e.2.2.trans h.1.2.2⟩, LC_c r (fun i h0 h1 => he i h0 (by omega)) h.2⟩
theorem LV_c {a b a' b' : Int → Int} : ∀ (p : List (Int × Int)), (∀ i : Int, 0 ≤ i → i < p.length → a' i = a i ∧ b' i = b i) → LV a b p → LV a' b' p
  | [], _, _ => trivial
  | x :: r, he, h => by
    rw [List.length_cons, Int.natCast_succ] at he
    have e := he r.length (by omega) (by omega)
    exact ⟨⟨e.1.trans h.1.1, e.2.trans h.1.2⟩, LV_c r (fun i h0 h1 => he i h0 (by omega)) h.2⟩
theorem LD_c {a a' : Int → Int} : ∀ (p : List Int), (∀ i : Int, 0 ≤ i → i < p.length → a' i = a i) → LD a p → LD a' p
  | [], _, _ => trivial
  | x :: r, he, h => by
    rw [List.length_cons, Int.natCast_succ] at he
    exact ⟨(he r.length (by omega) (by omega)).trans h.1, LD_c r (fun i h0 h1 => he i h0 (by omega)) h.2⟩
def WD (u : Int) (g : ms_H) (S : S5) : Prop := (g u 0 = S.1.length ∧ g u 6 = S.2.1.length ∧ g u 9 = S.2.2.1.length) ∧ (g u 4 = (if S.2.2.2.1 = 0 then 2 else S.2.2.2.1) ∧ g 1 6 = (if S.2.2.2.1 = 0 then 0 else 1)) ∧ (g (u + 4) 0 = (S.2.2.2.2.getD (0, 3)).1 ∧ g (u + 4) 1 = (S.2.2.2.2.getD (0, 3)).2 ∧ g 1 7 = (if S.2.2.2.2 = none then 0 else 1)) ∧ LC (g (u + 1)) (g (u + 2)) (g (u + 3)) S.1 ∧ LV (g (u + 5)) (g (u + 6)) S.2.1 ∧ LD (g (u + 7)) S.2.2.1
/-- what a reading leaves as it was -/
def FW (u : Int) (h g : ms_H) : Prop := (∀ z, z ≠ 1 → z ≠ 3 → (z < u ∨ u + 7 < z) → g z = h z) ∧ (∀ b, b < 2 ∨ 7 < b → g 1 b = h 1 b) ∧ PU u g
theorem FW_t {u : Int} {h g f : ms_H} (a : FW u h g) (b : FW u g f) : FW u h f := ⟨fun z h1 h2 h3 => by rw [b.1 z h1 h2 h3, a.1 z h1 h2 h3], fun k hk => by rw [b.2.1 k hk, a.2.1 k hk], b.2.2⟩
theorem FN_cells {u t : Int} {h g : ms_H} (hT : TU u t) (f : FN h g) : g u = h u ∧ g (u + 1) = h (u + 1) ∧ g (u + 2) = h (u + 2) ∧ g (u + 3) = h (u + 3) ∧ g (u + 4) = h (u + 4) ∧ g (u + 5) = h (u + 5) ∧ g (u + 6) = h (u + 6) ∧ g (u + 7) = h (u + 7) := by
  unfold TU at hT
  exact ⟨f.1 _ (by omega) (by omega), f.1 _ (by omega) (by omega), f.1 _ (by omega) (by omega), f.1 _ (by omega) (by omega), f.1 _ (by omega) (by omega), f.1 _ (by omega) (by omega), f.1 _ (by omega) (by omega), f.1 _ (by omega) (by omega)⟩
theorem PU_n {u t : Int} {h g : ms_H} (hT : TU u t) (f : FN h g) (hp : PU u h) : PU u g := by
  unfold PU at hp ⊢
  rw [(FN_cells hT f).1]
  exact hp
theorem FW_n {u t : Int} {h g : ms_H} (hT : TU u t) (f : FN h g) (hp : PU u h) : FW u h g := ⟨fun z h1 h2 _ => f.1 z h1 h2, fun b hb => f.2 b (by omega), PU_n hT f hp⟩
theorem TX_w {u t : Int} {h g : ms_H} (hT : TU u t) (a : TX h) (f : FW u h g) : TX g := by
  unfold TU at hT
  unfold TX at a ⊢
  rw [f.2.1 0 (by omega), f.2.1 8 (by omega), f.2.1 1 (by omega), f.1 2 (by omega) (by omega) (by omega)]
  exact a
theorem WD_n {u t : Int} {h g : ms_H} {S : S5} (hT : TU u t) (f : FN h g) (hw : WD u h S) : WD u g S := by
  obtain ⟨e0, e1, e2, e3, e4, e5, e6, e7⟩ := FN_cells hT f
  unfold WD at hw ⊢
  rw [e0, e1, e2, e3, e4, e5, e6, e7, f.2 6 (by omega), f.2 7 (by omega)]
  exact hw
theorem c_num2 {d : Nat} {h g : ms_H} {Q : ms_Q} {w lo hi i : Int} (hx : TX h) (hf : FN h g) (hi2 : g 1 2 = i) (hin : 0 ≤ i ∧ i ≤ h 1 1) (hw : 0 ≤ w ∧ w < 3)
  (q1 : ∀ g' j, FN h g' → rN (h 2) (h 1 1) lo hi i = (j, none) → g' 1 4 = j → Q (some (mI 0)) SH g')
  (q2 : ∀ g' j v, FN h g' → rN (h 2) (h 1 1) lo hi i = (j, some v) → (0 ≤ j ∧ j ≤ h 1 1) → (lo ≤ v ∧ v ≤ hi) → g' 1 2 = j → g' 3 w = v → (∀ k, k ≠ w → g' 3 k = g 3 k) → Q (some (mI 1)) SH g') : ms_Ok ms_P (d + 3) 20 [mR 1, mI w, mI lo, mI hi] SH (g) Q := by
  have e1 := hf.2 1 (by omega)
  have e2 := hf.1 2 (by omega) (by omega)
  refine c_number (TX_n hx hf) hi2 (by rw [e1]; exact hin) hw (fun g' j hg he h4 => q1 g' j (FN_t hf hg) (by rw [← e1, ← e2]; exact he) h4) (fun g' j v hg he h2 hv hk => ?_)
  rw [e1, e2] at he
  have hb := rN_b (g := h 2) (n := h 1 1) (lo := lo) (hi := hi) hin.2
  rw [he] at hb
  exact q2 g' j v (FN_t hf hg) he ⟨Int.le_trans hin.1 hb.1, hb.2⟩ (rN_v he) h2 hv hk
theorem c_end2 {d : Nat} {h g : ms_H} {Q : ms_Q} {i : Int} (hx : TX h) (hf : FN h g) (hi2 : g 1 2 = i) (hin : 0 ≤ i ∧ i ≤ h 1 1)
  (q1 : ∀ g' j, FN h g' → rE (h 2) (h 1 1) i = (j, none) → g' 1 4 = j → Q (some (mI 0)) SH g')
  (q2 : ∀ g' j, FN h g' → rE (h 2) (h 1 1) i = (j, some ()) → (0 ≤ j ∧ j ≤ h 1 1) → g' 1 2 = j → g' 3 = g 3 → Q (some (mI 1)) SH g') : ms_Ok ms_P (d + 3) 21 [mR 1] SH (g) Q := by
  have e1 := hf.2 1 (by omega)
  have e2 := hf.1 2 (by omega) (by omega)
  refine c_ended (TX_n hx hf) hi2 (by rw [e1]; exact hin) (fun g' j hg he h4 => q1 g' j (FN_t hf (FN_f hg)) (by rw [← e1, ← e2]; exact he) h4) (fun g' j hg he h2 => ?_)
  rw [e1, e2] at he
  have hb := rE_b (g := h 2) (n := h 1 1) hin.2
  rw [he] at hb
  exact q2 g' j (FN_t hf (FN_f hg)) he ⟨Int.le_trans hin.1 hb.1, hb.2⟩ h2 (hg.1 3 (by omega))
theorem u_ne (u : Int) : (u = u + 1) = False ∧ (u = u + 2) = False ∧ (u = u + 3) = False ∧ (u = u + 4) = False ∧ (u = u + 5) = False ∧ (u = u + 6) = False ∧ (u = u + 7) = False := by
  refine ⟨?_, ?_, ?_, ?_, ?_, ?_, ?_⟩ <;> exact eq_false (by omega)
theorem c_addColumn {d : Nat} {u t a b c : Int} {h : ms_H} {Q : ms_Q} (hT : TU u t) (hp : PU u h) (hn : 0 ≤ h u 0 ∧ h u 0 < 8) (q : Q none SH (hs (hs (hs (hs h (u + 1) (h u 0) a) (u + 2) (h u 0) b) (u + 3) (h u 0) c) u 0 (h u 0 + 1))) : ms_Ok ms_P (d + 1) 27 [mR u, mI a, mI b, mI c] SH (h) Q := by
  refine ok_in (k := 30) MX3_addColumn rfl rfl ?_
  show sq (ms_Ok ms_P (d)) ms_X1 MX3_addColumn Q 30 (M_bl MX3_addColumn 0) [mR u, mI a, mI b, mI c] [] (SH, 0, 0) (h)
  unfold PU at hp
  simp only [sq_c, jp_s, jp_c, rc_0, rc_s, ms_ex, o_iload, o_aload, o_istore, o_astore, o_iinc, o_bin, o_div, o_rem, o_neg, o_and, o_shl, o_shr, o_dup, o_pop, o_dup2, o_if, o_icmp, o_switch, o_sw, o_get, o_put, o_iald, o_iast, o_zald, o_zast, o_aald, o_aast, o_len, ob_s, ob_n, o_call, o_max, o_min, o_copy, o_obj, o_lpush, o_ladd, o_lcmp, o_iret, o_lret, o_vret, i1_c, l1_c, r1_c, st_g0, st_g1, st_g2, st_g3, st_g4, st_g5, st_g6, st_g7, st_g8, st_g9, st_s0, st_s1, st_s2, st_s3, st_s4, st_s5, st_s6, st_s7, st_s8, st_s9, List.length_cons, List.length_nil, List.take_succ_cons, List.take_zero, List.drop_succ_cons, List.drop_zero, List.reverse_cons, List.reverse_nil, List.nil_append, List.cons_append, List.all_cons, List.all_nil, ms_nl, Bool.and_true, Nat.reduceLeDiff, Nat.reduceAdd, Nat.reduceLT, Nat.reduceEqDiff, if_true, if_false, true_and, and_true, ms_rt, List.cons.injEq, exists_eq_left, exists_eq_right, exists_and_left, exists_and_right, ms_one, ite_true, ite_false, reduceIte, imp_self, Nat.zero_add, Nat.add_zero, zero_le_any, Nat.le_refl, Int.zero_add, true_or, or_true, false_implies, Int.reduceLE, Int.reduceLT, Int.reduceNeg, Int.reduceAdd, Int.reduceSub, Int.reduceMul, Int.reduceEq, not_true, not_false_iff, and_self, implies_true, false_and, and_false, or_false, false_or, bX3_addColumn_0, bX3_addColumn_1, lX3_addColumn_0, lX3_addColumn_1, qX3_addColumn, hp, tok hT, tok0 hT, hs_v, u_ne u]
  exact ⟨fun h1 => by omega, fun _ => ⟨by omega, by omega, by omega, by omega, by omega, by omega, rg_of (by omega) (by omega), q⟩⟩
theorem c_addVoter {d : Nat} {u t a b : Int} {h : ms_H} {Q : ms_Q} (hT : TU u t) (hp : PU u h) (hn : 0 ≤ h u 6 ∧ h u 6 < 6) (q : Q none SH (hs (hs (hs h (u + 5) (h u 6) a) (u + 6) (h u 6) b) u 6 (h u 6 + 1))) : ms_Ok ms_P (d + 1) 28 [mR u, mI a, mI b] SH (h) Q := by
  refine ok_in (k := 30) MX3_addVoter rfl rfl ?_
  show sq (ms_Ok ms_P (d)) ms_X1 MX3_addVoter Q 30 (M_bl MX3_addVoter 0) [mR u, mI a, mI b] [] (SH, 0, 0) (h)
  unfold PU at hp
  simp only [sq_c, jp_s, jp_c, rc_0, rc_s, ms_ex, o_iload, o_aload, o_istore, o_astore, o_iinc, o_bin, o_div, o_rem, o_neg, o_and, o_shl, o_shr, o_dup, o_pop, o_dup2, o_if, o_icmp, o_switch, o_sw, o_get, o_put, o_iald, o_iast, o_zald, o_zast, o_aald, o_aast, o_len, ob_s, ob_n, o_call, o_max, o_min, o_copy, o_obj, o_lpush, o_ladd, o_lcmp, o_iret, o_lret, o_vret, i1_c, l1_c, r1_c, st_g0, st_g1, st_g2, st_g3, st_g4, st_g5, st_g6, st_g7, st_g8, st_g9, st_s0, st_s1, st_s2, st_s3, st_s4, st_s5, st_s6, st_s7, st_s8, st_s9, List.length_cons, List.length_nil, List.take_succ_cons, List.take_zero, List.drop_succ_cons, List.drop_zero, List.reverse_cons, List.reverse_nil, List.nil_append, List.cons_append, List.all_cons, List.all_nil, ms_nl, Bool.and_true, Nat.reduceLeDiff, Nat.reduceAdd, Nat.reduceLT, Nat.reduceEqDiff, if_true, if_false, true_and, and_true, ms_rt, List.cons.injEq, exists_eq_left, exists_eq_right, exists_and_left, exists_and_right, ms_one, ite_true, ite_false, reduceIte, imp_self, Nat.zero_add, Nat.add_zero, zero_le_any, Nat.le_refl, Int.zero_add, true_or, or_true, false_implies, Int.reduceLE, Int.reduceLT, Int.reduceNeg, Int.reduceAdd, Int.reduceSub, Int.reduceMul, Int.reduceEq, not_true, not_false_iff, and_self, implies_true, false_and, and_false, or_false, false_or, bX3_addVoter_0, bX3_addVoter_1, lX3_addVoter_0, lX3_addVoter_1, qX3_addVoter, hp, tok hT, tok0 hT, hs_v, u_ne u]
  exact ⟨fun h1 => by omega, fun _ => ⟨by omega, by omega, by omega, by omega, rg_of (by omega) (by omega), q⟩⟩
theorem c_addDay {d : Nat} {u t a : Int} {h : ms_H} {Q : ms_Q} (hT : TU u t) (hp : PU u h) (hn : 0 ≤ h u 9 ∧ h u 9 < 8) (q : Q none SH (hs (hs h (u + 7) (h u 9) a) u 9 (h u 9 + 1))) : ms_Ok ms_P (d + 1) 29 [mR u, mI a] SH (h) Q := by
  refine ok_in (k := 30) MX3_addDay rfl rfl ?_
  show sq (ms_Ok ms_P (d)) ms_X1 MX3_addDay Q 30 (M_bl MX3_addDay 0) [mR u, mI a] [] (SH, 0, 0) (h)
  unfold PU at hp
  simp only [sq_c, jp_s, jp_c, rc_0, rc_s, ms_ex, o_iload, o_aload, o_istore, o_astore, o_iinc, o_bin, o_div, o_rem, o_neg, o_and, o_shl, o_shr, o_dup, o_pop, o_dup2, o_if, o_icmp, o_switch, o_sw, o_get, o_put, o_iald, o_iast, o_zald, o_zast, o_aald, o_aast, o_len, ob_s, ob_n, o_call, o_max, o_min, o_copy, o_obj, o_lpush, o_ladd, o_lcmp, o_iret, o_lret, o_vret, i1_c, l1_c, r1_c, st_g0, st_g1, st_g2, st_g3, st_g4, st_g5, st_g6, st_g7, st_g8, st_g9, st_s0, st_s1, st_s2, st_s3, st_s4, st_s5, st_s6, st_s7, st_s8, st_s9, List.length_cons, List.length_nil, List.take_succ_cons, List.take_zero, List.drop_succ_cons, List.drop_zero, List.reverse_cons, List.reverse_nil, List.nil_append, List.cons_append, List.all_cons, List.all_nil, ms_nl, Bool.and_true, Nat.reduceLeDiff, Nat.reduceAdd, Nat.reduceLT, Nat.reduceEqDiff, if_true, if_false, true_and, and_true, ms_rt, List.cons.injEq, exists_eq_left, exists_eq_right, exists_and_left, exists_and_right, ms_one, ite_true, ite_false, reduceIte, imp_self, Nat.zero_add, Nat.add_zero, zero_le_any, Nat.le_refl, Int.zero_add, true_or, or_true, false_implies, Int.reduceLE, Int.reduceLT, Int.reduceNeg, Int.reduceAdd, Int.reduceSub, Int.reduceMul, Int.reduceEq, not_true, not_false_iff, and_self, implies_true, false_and, and_false, or_false, false_or, bX3_addDay_0, bX3_addDay_1, lX3_addDay_0, lX3_addDay_1, qX3_addDay, hp, tok hT, tok0 hT, hs_v, u_ne u]
  exact ⟨fun h1 => by omega, fun _ => ⟨by omega, by omega, rg_of (by omega) (by omega), q⟩⟩
/-- a reader's contract, from the letter's place j on -/
theorem c_readColumn {d : Nat} {u t j : Int} {S : S5} {h : ms_H} {Q : ms_Q} (hT : TU u t) (hx : TX h) (hp : PU u h) (hw : WD u h S) (hj : 0 ≤ j ∧ j < h 1 1) (h4 : h 1 4 = j) (h2 : h 1 2 = j + 1)
  (q1 : ∀ g k, FW u h g → (if S.1.length < 8 then rC (h 2) (h 1 1) (j + 1) S else (j, none)) = (k, none) → g 1 4 = k → Q (some (mI 0)) SH g)
  (q2 : ∀ g k S', FW u h g → (if S.1.length < 8 then rC (h 2) (h 1 1) (j + 1) S else (j, none)) = (k, some S') → g 1 2 = k → WD u g S' → Q (some (mI 1)) SH g) : ms_Ok ms_P (d + 4) 15 [mR 1, mR u] SH (h) Q := by
  refine ok_in (k := 30) MX2_readColumn rfl rfl ?_
  show sq (ms_Ok ms_P (d + 3)) ms_X1 MX2_readColumn Q 30 (M_bl MX2_readColumn 0) [mR 1, mR u] [] (SH, 0, 0) (h)
  have hn := hw.1.1
  have fr : FN h h := FN_r h
  simp only [sq_c, jp_s, jp_c, rc_0, rc_s, ms_ex, o_iload, o_aload, o_istore, o_astore, o_iinc, o_bin, o_div, o_rem, o_neg, o_and, o_shl, o_shr, o_dup, o_pop, o_dup2, o_if, o_icmp, o_switch, o_sw, o_get, o_put, o_iald, o_iast, o_zald, o_zast, o_aald, o_aast, o_len, ob_s, ob_n, o_call, o_max, o_min, o_copy, o_obj, o_lpush, o_ladd, o_lcmp, o_iret, o_lret, o_vret, i1_c, l1_c, r1_c, st_g0, st_g1, st_g2, st_g3, st_g4, st_g5, st_g6, st_g7, st_g8, st_g9, st_s0, st_s1, st_s2, st_s3, st_s4, st_s5, st_s6, st_s7, st_s8, st_s9, List.length_cons, List.length_nil, List.take_succ_cons, List.take_zero, List.drop_succ_cons, List.drop_zero, List.reverse_cons, List.reverse_nil, List.nil_append, List.cons_append, List.all_cons, List.all_nil, ms_nl, Bool.and_true, Nat.reduceLeDiff, Nat.reduceAdd, Nat.reduceLT, Nat.reduceEqDiff, if_true, if_false, true_and, and_true, ms_rt, List.cons.injEq, exists_eq_left, exists_eq_right, exists_and_left, exists_and_right, ms_one, ite_true, ite_false, reduceIte, imp_self, Nat.zero_add, Nat.add_zero, zero_le_any, Nat.le_refl, Int.zero_add, true_or, or_true, false_implies, Int.reduceLE, Int.reduceLT, Int.reduceNeg, Int.reduceAdd, Int.reduceSub, Int.reduceMul, Int.reduceEq, not_true, not_false_iff, and_self, implies_true, false_and, and_false, or_false, false_or, bX2_readColumn_0, bX2_readColumn_1, bX2_readColumn_2, bX2_readColumn_3, lX2_readColumn_0, lX2_readColumn_1, lX2_readColumn_2, lX2_readColumn_3, qX2_readColumn, sh_b, tok hT, tok0 hT]
  refine ⟨fun h1 => ?_, fun h1 => q1 h j (FW_n hT fr hp) (by rw [if_neg (by omega)]) h4⟩
  rw [if_pos (by omega)] at q1 q2
  refine c_num2 hx fr h2 (by omega) (by omega) (fun g k hg he e4 => ?_) (fun g1 i1 a hg1 he1 hi1 ha e12 e1a e1k => ?_)
  · simp only [sq_c, jp_s, jp_c, rc_0, rc_s, ms_ex, o_iload, o_aload, o_istore, o_astore, o_iinc, o_bin, o_div, o_rem, o_neg, o_and, o_shl, o_shr, o_dup, o_pop, o_dup2, o_if, o_icmp, o_switch, o_sw, o_get, o_put, o_iald, o_iast, o_zald, o_zast, o_aald, o_aast, o_len, ob_s, ob_n, o_call, o_max, o_min, o_copy, o_obj, o_lpush, o_ladd, o_lcmp, o_iret, o_lret, o_vret, i1_c, l1_c, r1_c, st_g0, st_g1, st_g2, st_g3, st_g4, st_g5, st_g6, st_g7, st_g8, st_g9, st_s0, st_s1, st_s2, st_s3, st_s4, st_s5, st_s6, st_s7, st_s8, st_s9, List.length_cons, List.length_nil, List.take_succ_cons, List.take_zero, List.drop_succ_cons, List.drop_zero, List.reverse_cons, List.reverse_nil, List.nil_append, List.cons_append, List.all_cons, List.all_nil, ms_nl, Bool.and_true, Nat.reduceLeDiff, Nat.reduceAdd, Nat.reduceLT, Nat.reduceEqDiff, if_true, if_false, true_and, and_true, ms_rt, List.cons.injEq, exists_eq_left, exists_eq_right, exists_and_left, exists_and_right, ms_one, ite_true, ite_false, reduceIte, imp_self, Nat.zero_add, Nat.add_zero, zero_le_any, Nat.le_refl, Int.zero_add, true_or, or_true, false_implies, Int.reduceLE, Int.reduceLT, Int.reduceNeg, Int.reduceAdd, Int.reduceSub, Int.reduceMul, Int.reduceEq, not_true, not_false_iff, and_self, implies_true, false_and, and_false, or_false, false_or, bX2_readColumn_0, bX2_readColumn_1, bX2_readColumn_2, bX2_readColumn_3, lX2_readColumn_0, lX2_readColumn_1, lX2_readColumn_2, lX2_readColumn_3, qX2_readColumn, sh_b]
    exact q1 g k (FW_n hT hg hp) (bnd_n he) e4
  simp only [sq_c, jp_s, jp_c, rc_0, rc_s, ms_ex, o_iload, o_aload, o_istore, o_astore, o_iinc, o_bin, o_div, o_rem, o_neg, o_and, o_shl, o_shr, o_dup, o_pop, o_dup2, o_if, o_icmp, o_switch, o_sw, o_get, o_put, o_iald, o_iast, o_zald, o_zast, o_aald, o_aast, o_len, ob_s, ob_n, o_call, o_max, o_min, o_copy, o_obj, o_lpush, o_ladd, o_lcmp, o_iret, o_lret, o_vret, i1_c, l1_c, r1_c, st_g0, st_g1, st_g2, st_g3, st_g4, st_g5, st_g6, st_g7, st_g8, st_g9, st_s0, st_s1, st_s2, st_s3, st_s4, st_s5, st_s6, st_s7, st_s8, st_s9, List.length_cons, List.length_nil, List.take_succ_cons, List.take_zero, List.drop_succ_cons, List.drop_zero, List.reverse_cons, List.reverse_nil, List.nil_append, List.cons_append, List.all_cons, List.all_nil, ms_nl, Bool.and_true, Nat.reduceLeDiff, Nat.reduceAdd, Nat.reduceLT, Nat.reduceEqDiff, if_true, if_false, true_and, and_true, ms_rt, List.cons.injEq, exists_eq_left, exists_eq_right, exists_and_left, exists_and_right, ms_one, ite_true, ite_false, reduceIte, imp_self, Nat.zero_add, Nat.add_zero, zero_le_any, Nat.le_refl, Int.zero_add, true_or, or_true, false_implies, Int.reduceLE, Int.reduceLT, Int.reduceNeg, Int.reduceAdd, Int.reduceSub, Int.reduceMul, Int.reduceEq, not_true, not_false_iff, and_self, implies_true, false_and, and_false, or_false, false_or, bX2_readColumn_0, bX2_readColumn_1, bX2_readColumn_2, bX2_readColumn_3, lX2_readColumn_0, lX2_readColumn_1, lX2_readColumn_2, lX2_readColumn_3, qX2_readColumn, sh_b]
  refine c_num2 hx hg1 e12 (by omega) (by omega) (fun g k hg he e4 => ?_) (fun g2 i2 b hg2 he2 hi2 hb e22 e2b e2k => ?_)
  · simp only [sq_c, jp_s, jp_c, rc_0, rc_s, ms_ex, o_iload, o_aload, o_istore, o_astore, o_iinc, o_bin, o_div, o_rem, o_neg, o_and, o_shl, o_shr, o_dup, o_pop, o_dup2, o_if, o_icmp, o_switch, o_sw, o_get, o_put, o_iald, o_iast, o_zald, o_zast, o_aald, o_aast, o_len, ob_s, ob_n, o_call, o_max, o_min, o_copy, o_obj, o_lpush, o_ladd, o_lcmp, o_iret, o_lret, o_vret, i1_c, l1_c, r1_c, st_g0, st_g1, st_g2, st_g3, st_g4, st_g5, st_g6, st_g7, st_g8, st_g9, st_s0, st_s1, st_s2, st_s3, st_s4, st_s5, st_s6, st_s7, st_s8, st_s9, List.length_cons, List.length_nil, List.take_succ_cons, List.take_zero, List.drop_succ_cons, List.drop_zero, List.reverse_cons, List.reverse_nil, List.nil_append, List.cons_append, List.all_cons, List.all_nil, ms_nl, Bool.and_true, Nat.reduceLeDiff, Nat.reduceAdd, Nat.reduceLT, Nat.reduceEqDiff, if_true, if_false, true_and, and_true, ms_rt, List.cons.injEq, exists_eq_left, exists_eq_right, exists_and_left, exists_and_right, ms_one, ite_true, ite_false, reduceIte, imp_self, Nat.zero_add, Nat.add_zero, zero_le_any, Nat.le_refl, Int.zero_add, true_or, or_true, false_implies, Int.reduceLE, Int.reduceLT, Int.reduceNeg, Int.reduceAdd, Int.reduceSub, Int.reduceMul, Int.reduceEq, not_true, not_false_iff, and_self, implies_true, false_and, and_false, or_false, false_or, bX2_readColumn_0, bX2_readColumn_1, bX2_readColumn_2, bX2_readColumn_3, lX2_readColumn_0, lX2_readColumn_1, lX2_readColumn_2, lX2_readColumn_3, qX2_readColumn, sh_b]
    exact q1 g k (FW_n hT hg hp) ((bnd_s he1).trans (bnd_n he)) e4
  simp only [sq_c, jp_s, jp_c, rc_0, rc_s, ms_ex, o_iload, o_aload, o_istore, o_astore, o_iinc, o_bin, o_div, o_rem, o_neg, o_and, o_shl, o_shr, o_dup, o_pop, o_dup2, o_if, o_icmp, o_switch, o_sw, o_get, o_put, o_iald, o_iast, o_zald, o_zast, o_aald, o_aast, o_len, ob_s, ob_n, o_call, o_max, o_min, o_copy, o_obj, o_lpush, o_ladd, o_lcmp, o_iret, o_lret, o_vret, i1_c, l1_c, r1_c, st_g0, st_g1, st_g2, st_g3, st_g4, st_g5, st_g6, st_g7, st_g8, st_g9, st_s0, st_s1, st_s2, st_s3, st_s4, st_s5, st_s6, st_s7, st_s8, st_s9, List.length_cons, List.length_nil, List.take_succ_cons, List.take_zero, List.drop_succ_cons, List.drop_zero, List.reverse_cons, List.reverse_nil, List.nil_append, List.cons_append, List.all_cons, List.all_nil, ms_nl, Bool.and_true, Nat.reduceLeDiff, Nat.reduceAdd, Nat.reduceLT, Nat.reduceEqDiff, if_true, if_false, true_and, and_true, ms_rt, List.cons.injEq, exists_eq_left, exists_eq_right, exists_and_left, exists_and_right, ms_one, ite_true, ite_false, reduceIte, imp_self, Nat.zero_add, Nat.add_zero, zero_le_any, Nat.le_refl, Int.zero_add, true_or, or_true, false_implies, Int.reduceLE, Int.reduceLT, Int.reduceNeg, Int.reduceAdd, Int.reduceSub, Int.reduceMul, Int.reduceEq, not_true, not_false_iff, and_self, implies_true, false_and, and_false, or_false, false_or, bX2_readColumn_0, bX2_readColumn_1, bX2_readColumn_2, bX2_readColumn_3, lX2_readColumn_0, lX2_readColumn_1, lX2_readColumn_2, lX2_readColumn_3, qX2_readColumn, sh_b]
  refine c_num2 hx hg2 e22 (by omega) (by omega) (fun g k hg he e4 => ?_) (fun g3 i3 c hg3 he3 hi3 hc e32 e3c e3k => ?_)
  · simp only [sq_c, jp_s, jp_c, rc_0, rc_s, ms_ex, o_iload, o_aload, o_istore, o_astore, o_iinc, o_bin, o_div, o_rem, o_neg, o_and, o_shl, o_shr, o_dup, o_pop, o_dup2, o_if, o_icmp, o_switch, o_sw, o_get, o_put, o_iald, o_iast, o_zald, o_zast, o_aald, o_aast, o_len, ob_s, ob_n, o_call, o_max, o_min, o_copy, o_obj, o_lpush, o_ladd, o_lcmp, o_iret, o_lret, o_vret, i1_c, l1_c, r1_c, st_g0, st_g1, st_g2, st_g3, st_g4, st_g5, st_g6, st_g7, st_g8, st_g9, st_s0, st_s1, st_s2, st_s3, st_s4, st_s5, st_s6, st_s7, st_s8, st_s9, List.length_cons, List.length_nil, List.take_succ_cons, List.take_zero, List.drop_succ_cons, List.drop_zero, List.reverse_cons, List.reverse_nil, List.nil_append, List.cons_append, List.all_cons, List.all_nil, ms_nl, Bool.and_true, Nat.reduceLeDiff, Nat.reduceAdd, Nat.reduceLT, Nat.reduceEqDiff, if_true, if_false, true_and, and_true, ms_rt, List.cons.injEq, exists_eq_left, exists_eq_right, exists_and_left, exists_and_right, ms_one, ite_true, ite_false, reduceIte, imp_self, Nat.zero_add, Nat.add_zero, zero_le_any, Nat.le_refl, Int.zero_add, true_or, or_true, false_implies, Int.reduceLE, Int.reduceLT, Int.reduceNeg, Int.reduceAdd, Int.reduceSub, Int.reduceMul, Int.reduceEq, not_true, not_false_iff, and_self, implies_true, false_and, and_false, or_false, false_or, bX2_readColumn_0, bX2_readColumn_1, bX2_readColumn_2, bX2_readColumn_3, lX2_readColumn_0, lX2_readColumn_1, lX2_readColumn_2, lX2_readColumn_3, qX2_readColumn, sh_b]
    exact q1 g k (FW_n hT hg hp) ((bnd_s he1).trans ((bnd_s he2).trans (bnd_n he))) e4
  simp only [sq_c, jp_s, jp_c, rc_0, rc_s, ms_ex, o_iload, o_aload, o_istore, o_astore, o_iinc, o_bin, o_div, o_rem, o_neg, o_and, o_shl, o_shr, o_dup, o_pop, o_dup2, o_if, o_icmp, o_switch, o_sw, o_get, o_put, o_iald, o_iast, o_zald, o_zast, o_aald, o_aast, o_len, ob_s, ob_n, o_call, o_max, o_min, o_copy, o_obj, o_lpush, o_ladd, o_lcmp, o_iret, o_lret, o_vret, i1_c, l1_c, r1_c, st_g0, st_g1, st_g2, st_g3, st_g4, st_g5, st_g6, st_g7, st_g8, st_g9, st_s0, st_s1, st_s2, st_s3, st_s4, st_s5, st_s6, st_s7, st_s8, st_s9, List.length_cons, List.length_nil, List.take_succ_cons, List.take_zero, List.drop_succ_cons, List.drop_zero, List.reverse_cons, List.reverse_nil, List.nil_append, List.cons_append, List.all_cons, List.all_nil, ms_nl, Bool.and_true, Nat.reduceLeDiff, Nat.reduceAdd, Nat.reduceLT, Nat.reduceEqDiff, if_true, if_false, true_and, and_true, ms_rt, List.cons.injEq, exists_eq_left, exists_eq_right, exists_and_left, exists_and_right, ms_one, ite_true, ite_false, reduceIte, imp_self, Nat.zero_add, Nat.add_zero, zero_le_any, Nat.le_refl, Int.zero_add, true_or, or_true, false_implies, Int.reduceLE, Int.reduceLT, Int.reduceNeg, Int.reduceAdd, Int.reduceSub, Int.reduceMul, Int.reduceEq, not_true, not_false_iff, and_self, implies_true, false_and, and_false, or_false, false_or, bX2_readColumn_0, bX2_readColumn_1, bX2_readColumn_2, bX2_readColumn_3, lX2_readColumn_0, lX2_readColumn_1, lX2_readColumn_2, lX2_readColumn_3, qX2_readColumn, sh_b]
  refine c_end2 hx hg3 e32 (by omega) (fun g k hg he e4 => ?_) (fun g4 i4 hg4 he4 hi4 e42 e43 => ?_)
  · simp only [sq_c, jp_s, jp_c, rc_0, rc_s, ms_ex, o_iload, o_aload, o_istore, o_astore, o_iinc, o_bin, o_div, o_rem, o_neg, o_and, o_shl, o_shr, o_dup, o_pop, o_dup2, o_if, o_icmp, o_switch, o_sw, o_get, o_put, o_iald, o_iast, o_zald, o_zast, o_aald, o_aast, o_len, ob_s, ob_n, o_call, o_max, o_min, o_copy, o_obj, o_lpush, o_ladd, o_lcmp, o_iret, o_lret, o_vret, i1_c, l1_c, r1_c, st_g0, st_g1, st_g2, st_g3, st_g4, st_g5, st_g6, st_g7, st_g8, st_g9, st_s0, st_s1, st_s2, st_s3, st_s4, st_s5, st_s6, st_s7, st_s8, st_s9, List.length_cons, List.length_nil, List.take_succ_cons, List.take_zero, List.drop_succ_cons, List.drop_zero, List.reverse_cons, List.reverse_nil, List.nil_append, List.cons_append, List.all_cons, List.all_nil, ms_nl, Bool.and_true, Nat.reduceLeDiff, Nat.reduceAdd, Nat.reduceLT, Nat.reduceEqDiff, if_true, if_false, true_and, and_true, ms_rt, List.cons.injEq, exists_eq_left, exists_eq_right, exists_and_left, exists_and_right, ms_one, ite_true, ite_false, reduceIte, imp_self, Nat.zero_add, Nat.add_zero, zero_le_any, Nat.le_refl, Int.zero_add, true_or, or_true, false_implies, Int.reduceLE, Int.reduceLT, Int.reduceNeg, Int.reduceAdd, Int.reduceSub, Int.reduceMul, Int.reduceEq, not_true, not_false_iff, and_self, implies_true, false_and, and_false, or_false, false_or, bX2_readColumn_0, bX2_readColumn_1, bX2_readColumn_2, bX2_readColumn_3, lX2_readColumn_0, lX2_readColumn_1, lX2_readColumn_2, lX2_readColumn_3, qX2_readColumn, sh_b]
    exact q1 g k (FW_n hT hg hp) ((bnd_s he1).trans ((bnd_s he2).trans ((bnd_s he3).trans (bnd_n he)))) e4
  have hx4 := (TX_n hx hg4).1
  have v0 : g4 3 0 = a := by rw [e43, e3k 0 (by omega), e2k 0 (by omega), e1a]
  have v1 : g4 3 1 = b := by rw [e43, e3k 1 (by omega), e2b]
  have v2 : g4 3 2 = c := by rw [e43, e3c]
  have hp4 := PU_n hT hg4 hp
  have hw4 := WD_n hT hg4 hw
  simp only [sq_c, jp_s, jp_c, rc_0, rc_s, ms_ex, o_iload, o_aload, o_istore, o_astore, o_iinc, o_bin, o_div, o_rem, o_neg, o_and, o_shl, o_shr, o_dup, o_pop, o_dup2, o_if, o_icmp, o_switch, o_sw, o_get, o_put, o_iald, o_iast, o_zald, o_zast, o_aald, o_aast, o_len, ob_s, ob_n, o_call, o_max, o_min, o_copy, o_obj, o_lpush, o_ladd, o_lcmp, o_iret, o_lret, o_vret, i1_c, l1_c, r1_c, st_g0, st_g1, st_g2, st_g3, st_g4, st_g5, st_g6, st_g7, st_g8, st_g9, st_s0, st_s1, st_s2, st_s3, st_s4, st_s5, st_s6, st_s7, st_s8, st_s9, List.length_cons, List.length_nil, List.take_succ_cons, List.take_zero, List.drop_succ_cons, List.drop_zero, List.reverse_cons, List.reverse_nil, List.nil_append, List.cons_append, List.all_cons, List.all_nil, ms_nl, Bool.and_true, Nat.reduceLeDiff, Nat.reduceAdd, Nat.reduceLT, Nat.reduceEqDiff, if_true, if_false, true_and, and_true, ms_rt, List.cons.injEq, exists_eq_left, exists_eq_right, exists_and_left, exists_and_right, ms_one, ite_true, ite_false, reduceIte, imp_self, Nat.zero_add, Nat.add_zero, zero_le_any, Nat.le_refl, Int.zero_add, true_or, or_true, false_implies, Int.reduceLE, Int.reduceLT, Int.reduceNeg, Int.reduceAdd, Int.reduceSub, Int.reduceMul, Int.reduceEq, not_true, not_false_iff, and_self, implies_true, false_and, and_false, or_false, false_or, bX2_readColumn_0, bX2_readColumn_1, bX2_readColumn_2, bX2_readColumn_3, lX2_readColumn_0, lX2_readColumn_1, lX2_readColumn_2, lX2_readColumn_3, qX2_readColumn, sh_b, tok hT, hx4, ar_3, v0, v1, v2]
  refine c_addColumn hT hp4 (by have := hw4.1.1; omega) ?_
  simp only [sq_c, jp_s, jp_c, rc_0, rc_s, ms_ex, o_iload, o_aload, o_istore, o_astore, o_iinc, o_bin, o_div, o_rem, o_neg, o_and, o_shl, o_shr, o_dup, o_pop, o_dup2, o_if, o_icmp, o_switch, o_sw, o_get, o_put, o_iald, o_iast, o_zald, o_zast, o_aald, o_aast, o_len, ob_s, ob_n, o_call, o_max, o_min, o_copy, o_obj, o_lpush, o_ladd, o_lcmp, o_iret, o_lret, o_vret, i1_c, l1_c, r1_c, st_g0, st_g1, st_g2, st_g3, st_g4, st_g5, st_g6, st_g7, st_g8, st_g9, st_s0, st_s1, st_s2, st_s3, st_s4, st_s5, st_s6, st_s7, st_s8, st_s9, List.length_cons, List.length_nil, List.take_succ_cons, List.take_zero, List.drop_succ_cons, List.drop_zero, List.reverse_cons, List.reverse_nil, List.nil_append, List.cons_append, List.all_cons, List.all_nil, ms_nl, Bool.and_true, Nat.reduceLeDiff, Nat.reduceAdd, Nat.reduceLT, Nat.reduceEqDiff, if_true, if_false, true_and, and_true, ms_rt, List.cons.injEq, exists_eq_left, exists_eq_right, exists_and_left, exists_and_right, ms_one, ite_true, ite_false, reduceIte, imp_self, Nat.zero_add, Nat.add_zero, zero_le_any, Nat.le_refl, Int.zero_add, true_or, or_true, false_implies, Int.reduceLE, Int.reduceLT, Int.reduceNeg, Int.reduceAdd, Int.reduceSub, Int.reduceMul, Int.reduceEq, not_true, not_false_iff, and_self, implies_true, false_and, and_false, or_false, false_or, bX2_readColumn_0, bX2_readColumn_1, bX2_readColumn_2, bX2_readColumn_3, lX2_readColumn_0, lX2_readColumn_1, lX2_readColumn_2, lX2_readColumn_3, qX2_readColumn, sh_b]
  have hT' := hT
  unfold TU at hT'
  have n4 := hw4.1.1
  refine q2 _ i4 ((a, b, c) :: S.1, S.2) ⟨fun z z1 z2 z3 => ?_, fun k hk => ?_, ?_⟩ ((bnd_s he1).trans ((bnd_s he2).trans ((bnd_s he3).trans (bnd_s he4)))) ?_ ?_
  · rw [← hg4.1 z z1 z2]; funext k; rw [hs_v, if_neg (by omega), hs_v, if_neg (by omega), hs_v, if_neg (by omega), hs_v, if_neg (by omega)]
  · rw [hs_v, if_neg (by omega), hs_v, if_neg (by omega), hs_v, if_neg (by omega), hs_v, if_neg (by omega)]; exact hg4.2 k (by omega)
  · unfold PU at hp4 ⊢
    simp only [hs_v, u_ne u, false_and, if_false, and_false, Int.reduceEq]
    exact hp4
  · rw [hs_v, if_neg (by omega), hs_v, if_neg (by omega), hs_v, if_neg (by omega), hs_v, if_neg (by omega)]; exact e42
  · generalize hg : hs (hs (hs (hs g4 (u + 1) (g4 u 0) a) (u + 2) (g4 u 0) b) (u + 3) (g4 u 0) c) u 0 (g4 u 0 + 1) = g
    have ot : ∀ z k, ¬ (z = u ∧ k = 0) → ¬ (z = u + 1 ∨ z = u + 2 ∨ z = u + 3) → g z k = g4 z k := fun z k a1 a2 => by
      rw [← hg, hs_v, if_neg a1, hs_v, if_neg (by omega), hs_v, if_neg (by omega), hs_v, if_neg (by omega)]
    have k0 : g u 0 = g4 u 0 + 1 := by rw [← hg, hs_v, if_pos ⟨rfl, rfl⟩]
    have k1 : ∀ k, g (u + 1) k = if k = g4 u 0 then a else g4 (u + 1) k := fun k => by
      rw [← hg, hs_v, if_neg (by omega), hs_v, if_neg (by omega), hs_v, if_neg (by omega), hs_v]
      simp only [true_and]
    have k2 : ∀ k, g (u + 2) k = if k = g4 u 0 then b else g4 (u + 2) k := fun k => by
      rw [← hg, hs_v, if_neg (by omega), hs_v, if_neg (by omega), hs_v]
      simp only [true_and]
      split
      · rfl
      · rw [hs_v, if_neg (by omega)]
    have k3 : ∀ k, g (u + 3) k = if k = g4 u 0 then c else g4 (u + 3) k := fun k => by
      rw [← hg, hs_v, if_neg (by omega), hs_v]
      simp only [true_and]
      split
      · rfl
      · rw [hs_v, if_neg (by omega), hs_v, if_neg (by omega)]
    have f5 : g (u + 5) = g4 (u + 5) := funext fun k => ot _ k (by omega) (by omega)
    have f6 : g (u + 6) = g4 (u + 6) := funext fun k => ot _ k (by omega) (by omega)
    have f7 : g (u + 7) = g4 (u + 7) := funext fun k => ot _ k (by omega) (by omega)
    obtain ⟨⟨w1, w2, w3⟩, ⟨w4, w5⟩, ⟨w6, w7, w8⟩, w9, w10, w11⟩ := hw4
    refine ⟨⟨?_, ?_, ?_⟩, ⟨?_, ?_⟩, ⟨?_, ?_, ?_⟩, ⟨⟨?_, ?_, ?_⟩, ?_⟩, ?_, ?_⟩
    · rw [k0, w1]; rfl
    · rw [ot _ _ (by omega) (by omega)]; exact w2
    · rw [ot _ _ (by omega) (by omega)]; exact w3
    · rw [ot _ _ (by omega) (by omega)]; exact w4
    · rw [ot _ _ (by omega) (by omega)]; exact w5
    · rw [ot _ _ (by omega) (by omega)]; exact w6
    · rw [ot _ _ (by omega) (by omega)]; exact w7
    · rw [ot _ _ (by omega) (by omega)]; exact w8
    · rw [k1, if_pos w1.symm]
    · rw [k2, if_pos w1.symm]
    · rw [k3, if_pos w1.symm]
    · refine LC_c S.1 (fun i i0 i1 => ?_) w9
      rw [k1, k2, k3, if_neg (by omega), if_neg (by omega), if_neg (by omega)]
      exact ⟨rfl, rfl, rfl⟩
    · rw [f5, f6]; exact w10
    · rw [f7]; exact w11
