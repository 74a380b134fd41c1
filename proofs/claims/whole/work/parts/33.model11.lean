/-! The model: turns. -/
theorem fc_snow (m g : Int) : ∀ n : Nat, fc m g 2 n = n - (if m < 0 then 0 else if (n : Int) < m then (n : Int) else m)
  | 0 => by
    show (0 : Int) = _
    split
    · omega
    · split <;> omega
  | n + 1 => by
    have e : fc m g 2 (n + 1) = fc m g 2 n + (if fl (m - n) g = 2 then 1 else 0) := rfl
    rw [e, fc_snow m g n]
    have h1 : fl (m - n) g = 2 ↔ m - n ≤ 0 := by
      unfold fl
      split
      · simp [*]
      · split <;> simp [*]
    by_cases h2 : m - n ≤ 0
    · rw [if_pos (h1.mpr h2)]
      repeat' split
      all_goals omega
    · rw [if_neg (fun z => h2 (h1.mp z))]
      repeat' split
      all_goals omega
theorem fc_s8 (m g : Int) : fc m g 2 8 = 8 - cl m := by
  rw [fc_snow]
  unfold cl
  repeat' split
  all_goals omega
theorem fc_rain (m g : Int) (hg : 0 ≤ g) : ∀ n : Nat, fc m g 0 n = (if m - g < 0 then 0 else if (n : Int) < m - g then (n : Int) else m - g)
  | 0 => by
    show (0 : Int) = _
    split
    · omega
    · split <;> omega
  | n + 1 => by
    have e : fc m g 0 (n + 1) = fc m g 0 n + (if fl (m - n) g = 0 then 1 else 0) := rfl
    rw [e, fc_rain m g hg n]
    have h1 : fl (m - n) g = 0 ↔ g < m - n := by
      unfold fl
      split
      · constructor
        · intro z; omega
        · intro z; omega
      · split <;> simp [*]
    by_cases h2 : g < m - n
    · rw [if_pos (h1.mpr h2)]
      repeat' split
      all_goals omega
    · rw [if_neg (fun z => h2 (h1.mp z))]
      repeat' split
      all_goals omega
theorem fc_r8 (m g : Int) (hg : 0 ≤ g) : fc m g 0 8 = cl (m - g) := by
  rw [fc_rain m g hg]
  unfold cl
  repeat' split
  all_goals omega
/-- on how many fields it snows, at warmth T -/
def sn (low : Int → Int) (N : Nat) (T : Int) : Int := sm (fun c => 8 - cl (T - low c)) N
theorem fm_snow (h : ms_H) : fm h 2 = sn (h 40) (h 38 0).toNat (mT h) := by
  unfold fm sn
  exact sm_c _ (fun i _ _ => fc_s8 _ _)
theorem fm_rain {h : ms_H} (hv : MV h) : fm h 0 = sm (fun c => cl (mT h - h 40 c - h 38 3)) (h 38 0).toNat := by
  have := hv.2.1.2.2.2.1
  unfold fm
  exact sm_c _ (fun i _ _ => fc_r8 _ _ (by omega))
theorem cl_mono {a b : Int} (h : a ≤ b) : cl a ≤ cl b := by
  unfold cl
  repeat' split
  all_goals omega
theorem sn_anti (low : Int → Int) {a b : Int} (h : a ≤ b) : ∀ N : Nat, sn low N b ≤ sn low N a
  | 0 => Int.le_refl _
  | N + 1 => by
    have h1 := sn_anti low h N
    have h2 := cl_mono (show a - low N ≤ b - low N by omega)
    show sn low N b + (8 - cl (b - low N)) ≤ sn low N a + (8 - cl (a - low N))
    omega
def fu (f : Int → Int) (k v : Int) : Int → Int := fun b => if b = k then v else f b
def dS (h : ms_H) (f g : Int → Int) (e : Int) : ms_H := fun a b => if a = 55 then f b else if a = 56 then g b else if a = 38 ∧ b = 12 then e else h a b
theorem dS_v (h : ms_H) (f g : Int → Int) (e a b : Int) : dS h f g e a b = if a = 55 then f b else if a = 56 then g b else if a = 38 ∧ b = 12 then e else h a b := rfl
theorem dS_0 (h : ms_H) : dS h (h 55) (h 56) (h 38 12) = h := by
  funext a b
  rw [dS_v]
  split
  · rename_i z; rw [z]
  · split
    · rename_i z; rw [z]
    · split
      · rename_i z; rw [z.1, z.2]
      · rfl
theorem dS_e (h : ms_H) (f g : Int → Int) (e v : Int) : hs (dS h f g e) 38 12 v = dS h f g v := by
  funext a b
  rw [hs_v, dS_v, dS_v]
  by_cases h1 : a = 38 ∧ b = 12
  · rw [if_pos h1, if_neg (by omega), if_neg (by omega), if_pos h1]
  · rw [if_neg h1, if_neg h1, if_neg h1]
theorem dS_f (h : ms_H) (f g : Int → Int) (e k v : Int) : hs (dS h f g e) 55 k v = dS h (fu f k v) g e := by
  funext a b
  rw [hs_v, dS_v, dS_v]
  unfold fu
  by_cases h1 : a = 55
  · rw [if_pos h1, if_pos h1]
    by_cases h2 : b = k
    · rw [if_pos ⟨h1, h2⟩, if_pos h2]
    · rw [if_neg (by omega), if_neg h2]
  · rw [if_neg (by omega), if_neg h1, if_neg h1]
theorem dS_g (h : ms_H) (f g : Int → Int) (e k v : Int) : hs (dS h f g e) 56 k v = dS h f (fu g k v) e := by
  funext a b
  rw [hs_v, dS_v, dS_v]
  unfold fu
  by_cases h1 : a = 56
  · rw [if_neg (show ¬ a = 55 by omega), if_neg (show ¬ a = 55 by omega), if_pos h1, if_pos h1]
    by_cases h2 : b = k
    · rw [if_pos ⟨h1, h2⟩, if_pos h2]
    · rw [if_neg (by omega), if_neg h2]
  · rw [if_neg (by omega), if_neg h1, if_neg h1]
theorem dS_MV {h : ms_H} (hv : MV h) {f g : Int → Int} {e : Int} (he : -9 ≤ e ∧ e ≤ 9) : MV (dS h f g e) := by
  have hb := hv.2.1
  unfold MB at hb
  refine MV_chg hv (fun k hk => ?_) (fun z h1 h2 => ?_) ?_ ?_
  · rw [dS_v, if_neg (by omega), if_neg (by omega), if_neg (fun q => hk (by unfold mu; omega))]
  · funext b; rw [dS_v, if_neg (by omega), if_neg (by omega), if_neg (by omega)]
  · rw [dS_v, if_neg (by omega), if_neg (by omega), if_neg (by omega)]; exact hb.2.2.2.2.1
  · rw [dS_v, if_neg (by omega), if_neg (by omega), if_pos ⟨rfl, rfl⟩]; exact he
theorem dS_fm {h : ms_H} {f g : Int → Int} {e : Int} : fm (dS h f g e) 2 = sn (h 40) (h 38 0).toNat (sW (h 38 2) (h 45) (h 38 11) + e) := by
  rw [fm_snow]
  have e1 : dS h f g e 40 = h 40 := by funext b; rw [dS_v, if_neg (by omega), if_neg (by omega), if_neg (by omega)]
  have e2 : dS h f g e 45 = h 45 := by funext b; rw [dS_v, if_neg (by omega), if_neg (by omega), if_neg (by omega)]
  unfold mT
  rw [e1, e2]
  simp only [dS_v, Int.reduceEq, and_false, if_false, and_self, if_true]
/-- a turn's move, and the moves of turns t .. t + j - 1 -/
def stp (t k : Int) : Int := if t % 2 = 0 then (if 0 < k then k - 1 else k) else (if k < 18 then k + 1 else k)
def dpth : Nat → Int → Int → Int
  | 0, _, k => k
  | j + 1, t, k => dpth j (t + 1) (stp t k)
theorem stp_b {t k : Int} (h : 0 ≤ k ∧ k ≤ 18) : 0 ≤ stp t k ∧ stp t k ≤ 18 := by
  unfold stp
  repeat' split
  all_goals omega
theorem stp_m {t a b : Int} (h : a ≤ b) : stp t a ≤ stp t b := by
  unfold stp
  repeat' split
  all_goals omega
theorem dpth_m : ∀ (j : Nat) (t : Int) {a b : Int}, a ≤ b → dpth j t a ≤ dpth j t b
  | 0, _, _, _, h => h
  | j + 1, t, _, _, h => dpth_m j (t + 1) (stp_m h)
/-- the value after turns t .. t + j - 1 from extra k - 9 -/
def dvl (h : ms_H) (j : Nat) (t k : Int) : Int := sn (h 40) (h 38 0).toNat (sW (h 38 2) (h 45) (h 38 11) + (dpth j t k - 9))
theorem dvl_m (h : ms_H) (j : Nat) (t : Int) {a b : Int} (hab : a ≤ b) : dvl h j t b ≤ dvl h j t a := sn_anti _ (by have := dpth_m j t hab; omega) _
theorem m_duel_1 {d : Nat} {h : ms_H} {Q : ms_Q} {n was : Int} (hv : MV h) (hw : -9 ≤ was ∧ was ≤ 9) (K : ∀ f g, (∀ b, 0 ≤ b → b < 19 → f b = dvl h 0 n b) → ∀ a1 a2 a3 a4, ms_at (ms_Ok ms_P (d + 5)) ms_X1 MX5_duel Q 101 [mR 38, mI n, mI was, mI (n - 1), a1, a2, a3, a4] [] (SH, 0, 0) (dS h f g was)) (hn : 0 ≤ n ∧ n ≤ 6) : ∀ (j k : Nat) (f g : Int → Int) (e : Int) (a1 a2 a3 a4 : ms_V), k + j = 19 → (-9 ≤ e ∧ e ≤ 9) → (∀ b : Int, 0 ≤ b → b < k → f b = dvl h 0 n b) → ms_at (ms_Ok ms_P (d + 5)) ms_X1 MX5_duel Q 100 [mR 38, mI n, mI was, mI k, a1, a2, a3, a4] [] (SH, 0, 0) (dS h f g e) := by
  have hR := hv.1
  unfold RM at hR
  intro j
  induction j with
  | zero =>
    intro k f g e a1 a2 a3 a4 hk he hf
    refine sq_at (ms_Ok_m ms_P _) 30 100 ?_
    simp only [sq_c, jp_s, jp_c, rc_0, rc_s, ms_ex, o_iload, o_aload, o_istore, o_astore, o_iinc, o_bin, o_div, o_rem, o_neg, o_and, o_shl, o_shr, o_dup, o_pop, o_dup2, o_if, o_icmp, o_switch, o_sw, o_get, o_put, o_iald, o_iast, o_zald, o_zast, o_aald, o_aast, o_len, ob_s, ob_n, o_call, o_max, o_min, o_copy, o_obj, o_lpush, o_ladd, o_lcmp, o_iret, o_lret, o_vret, i1_c, l1_c, r1_c, st_g0, st_g1, st_g2, st_g3, st_g4, st_g5, st_g6, st_g7, st_g8, st_g9, st_s0, st_s1, st_s2, st_s3, st_s4, st_s5, st_s6, st_s7, st_s8, st_s9, List.length_cons, List.length_nil, List.take_succ_cons, List.take_zero, List.drop_succ_cons, List.drop_zero, List.reverse_cons, List.reverse_nil, List.nil_append, List.cons_append, List.all_cons, List.all_nil, ms_nl, Bool.and_true, Nat.reduceLeDiff, Nat.reduceAdd, Nat.reduceLT, Nat.reduceEqDiff, if_true, if_false, true_and, and_true, ms_rt, List.cons.injEq, exists_eq_left, exists_eq_right, exists_and_left, exists_and_right, ms_one, ite_true, ite_false, reduceIte, imp_self, Nat.zero_add, Nat.add_zero, zero_le_any, Nat.le_refl, Int.zero_add, true_or, or_true, false_implies, Int.reduceLE, Int.reduceLT, Int.reduceNeg, Int.reduceAdd, Int.reduceSub, Int.reduceMul, Int.reduceEq, not_true, not_false_iff, and_self, implies_true, false_and, and_false, or_false, false_or, bX5_duel_0, bX5_duel_1, bX5_duel_2, bX5_duel_3, bX5_duel_4, bX5_duel_5, bX5_duel_6, bX5_duel_7, bX5_duel_8, bX5_duel_9, bX5_duel_10, bX5_duel_11, bX5_duel_12, bX5_duel_13, bX5_duel_14, bX5_duel_15, bX5_duel_16, bX5_duel_17, bX5_duel_18, bX5_duel_19, bX5_duel_100, bX5_duel_101, bX5_duel_102, bX5_duel_103, lX5_duel_0, lX5_duel_1, lX5_duel_2, lX5_duel_3, lX5_duel_4, lX5_duel_5, lX5_duel_6, lX5_duel_7, lX5_duel_8, lX5_duel_9, lX5_duel_10, lX5_duel_11, lX5_duel_12, lX5_duel_13, lX5_duel_14, lX5_duel_15, lX5_duel_16, lX5_duel_17, lX5_duel_18, lX5_duel_19, lX5_duel_100, lX5_duel_101, lX5_duel_102, lX5_duel_103, qX5_duel, sh_b, dS_v, dS_e, hR]
    exact ⟨fun _ => ⟨rg_of (by omega) (by omega), K f g (fun b h0 h1 => hf b h0 (by omega)) _ _ _ _⟩, fun h1 => by omega⟩
  | succ j ih =>
    intro k f g e a1 a2 a3 a4 hk he hf
    refine sq_at (ms_Ok_m ms_P _) 30 100 ?_
    simp only [sq_c, jp_s, jp_c, rc_0, rc_s, ms_ex, o_iload, o_aload, o_istore, o_astore, o_iinc, o_bin, o_div, o_rem, o_neg, o_and, o_shl, o_shr, o_dup, o_pop, o_dup2, o_if, o_icmp, o_switch, o_sw, o_get, o_put, o_iald, o_iast, o_zald, o_zast, o_aald, o_aast, o_len, ob_s, ob_n, o_call, o_max, o_min, o_copy, o_obj, o_lpush, o_ladd, o_lcmp, o_iret, o_lret, o_vret, i1_c, l1_c, r1_c, st_g0, st_g1, st_g2, st_g3, st_g4, st_g5, st_g6, st_g7, st_g8, st_g9, st_s0, st_s1, st_s2, st_s3, st_s4, st_s5, st_s6, st_s7, st_s8, st_s9, List.length_cons, List.length_nil, List.take_succ_cons, List.take_zero, List.drop_succ_cons, List.drop_zero, List.reverse_cons, List.reverse_nil, List.nil_append, List.cons_append, List.all_cons, List.all_nil, ms_nl, Bool.and_true, Nat.reduceLeDiff, Nat.reduceAdd, Nat.reduceLT, Nat.reduceEqDiff, if_true, if_false, true_and, and_true, ms_rt, List.cons.injEq, exists_eq_left, exists_eq_right, exists_and_left, exists_and_right, ms_one, ite_true, ite_false, reduceIte, imp_self, Nat.zero_add, Nat.add_zero, zero_le_any, Nat.le_refl, Int.zero_add, true_or, or_true, false_implies, Int.reduceLE, Int.reduceLT, Int.reduceNeg, Int.reduceAdd, Int.reduceSub, Int.reduceMul, Int.reduceEq, not_true, not_false_iff, and_self, implies_true, false_and, and_false, or_false, false_or, bX5_duel_0, bX5_duel_1, bX5_duel_2, bX5_duel_3, bX5_duel_4, bX5_duel_5, bX5_duel_6, bX5_duel_7, bX5_duel_8, bX5_duel_9, bX5_duel_10, bX5_duel_11, bX5_duel_12, bX5_duel_13, bX5_duel_14, bX5_duel_15, bX5_duel_16, bX5_duel_17, bX5_duel_18, bX5_duel_19, bX5_duel_100, bX5_duel_101, bX5_duel_102, bX5_duel_103, lX5_duel_0, lX5_duel_1, lX5_duel_2, lX5_duel_3, lX5_duel_4, lX5_duel_5, lX5_duel_6, lX5_duel_7, lX5_duel_8, lX5_duel_9, lX5_duel_10, lX5_duel_11, lX5_duel_12, lX5_duel_13, lX5_duel_14, lX5_duel_15, lX5_duel_16, lX5_duel_17, lX5_duel_18, lX5_duel_19, lX5_duel_100, lX5_duel_101, lX5_duel_102, lX5_duel_103, qX5_duel, sh_b, dS_v, dS_e, hR]
    refine ⟨fun h1 => by omega, fun h1 => ⟨rg_of (by omega) (by omega), ?_⟩⟩
    refine m_fallMany (dS_MV hv (by omega)) ?_
    rw [dS_fm]
    simp only [sq_c, jp_s, jp_c, rc_0, rc_s, ms_ex, o_iload, o_aload, o_istore, o_astore, o_iinc, o_bin, o_div, o_rem, o_neg, o_and, o_shl, o_shr, o_dup, o_pop, o_dup2, o_if, o_icmp, o_switch, o_sw, o_get, o_put, o_iald, o_iast, o_zald, o_zast, o_aald, o_aast, o_len, ob_s, ob_n, o_call, o_max, o_min, o_copy, o_obj, o_lpush, o_ladd, o_lcmp, o_iret, o_lret, o_vret, i1_c, l1_c, r1_c, st_g0, st_g1, st_g2, st_g3, st_g4, st_g5, st_g6, st_g7, st_g8, st_g9, st_s0, st_s1, st_s2, st_s3, st_s4, st_s5, st_s6, st_s7, st_s8, st_s9, List.length_cons, List.length_nil, List.take_succ_cons, List.take_zero, List.drop_succ_cons, List.drop_zero, List.reverse_cons, List.reverse_nil, List.nil_append, List.cons_append, List.all_cons, List.all_nil, ms_nl, Bool.and_true, Nat.reduceLeDiff, Nat.reduceAdd, Nat.reduceLT, Nat.reduceEqDiff, if_true, if_false, true_and, and_true, ms_rt, List.cons.injEq, exists_eq_left, exists_eq_right, exists_and_left, exists_and_right, ms_one, ite_true, ite_false, reduceIte, imp_self, Nat.zero_add, Nat.add_zero, zero_le_any, Nat.le_refl, Int.zero_add, true_or, or_true, false_implies, Int.reduceLE, Int.reduceLT, Int.reduceNeg, Int.reduceAdd, Int.reduceSub, Int.reduceMul, Int.reduceEq, not_true, not_false_iff, and_self, implies_true, false_and, and_false, or_false, false_or, bX5_duel_0, bX5_duel_1, bX5_duel_2, bX5_duel_3, bX5_duel_4, bX5_duel_5, bX5_duel_6, bX5_duel_7, bX5_duel_8, bX5_duel_9, bX5_duel_10, bX5_duel_11, bX5_duel_12, bX5_duel_13, bX5_duel_14, bX5_duel_15, bX5_duel_16, bX5_duel_17, bX5_duel_18, bX5_duel_19, bX5_duel_100, bX5_duel_101, bX5_duel_102, bX5_duel_103, lX5_duel_0, lX5_duel_1, lX5_duel_2, lX5_duel_3, lX5_duel_4, lX5_duel_5, lX5_duel_6, lX5_duel_7, lX5_duel_8, lX5_duel_9, lX5_duel_10, lX5_duel_11, lX5_duel_12, lX5_duel_13, lX5_duel_14, lX5_duel_15, lX5_duel_16, lX5_duel_17, lX5_duel_18, lX5_duel_19, lX5_duel_100, lX5_duel_101, lX5_duel_102, lX5_duel_103, qX5_duel, sh_b, dS_v, dS_e, dS_f, ar_55]
    refine ⟨by omega, by omega, rg_of (by omega) (by omega), ?_⟩
    refine ih (k + 1) _ g _ _ _ _ _ (by omega) (by omega) (fun b h0 h2 => ?_)
    unfold fu
    split
    · rename_i z; rw [z]; rfl
    · exact hf b h0 (by omega)
theorem m_duel_3 {d : Nat} {h : ms_H} {Q : ms_Q} {n was t : Int} {v : Int → Int} (hv : MV h) (ht : 0 ≤ t ∧ t ≤ 6) (K : ∀ f g, (∀ b, 0 ≤ b → b < 19 → f b = v b) → ∀ a1 a2 a3 a4, ms_at (ms_Ok ms_P (d + 5)) ms_X1 MX5_duel Q 101 [mR 38, mI n, mI was, mI (t - 1), a1, a2, a3, a4] [] (SH, 0, 0) (dS h f g was)) : ∀ (j k : Nat) (f g : Int → Int) (a2 a3 a4 : ms_V), k + j = 19 → (∀ b : Int, 0 ≤ b → b < 19 → g b = v b) → (∀ b : Int, 0 ≤ b → b < k → f b = v b) → ms_at (ms_Ok ms_P (d + 5)) ms_X1 MX5_duel Q 103 [mR 38, mI n, mI was, mI t, mI k, a2, a3, a4] [] (SH, 0, 0) (dS h f g was) := by
  have hR := hv.1
  unfold RM at hR
  intro j
  induction j with
  | zero =>
    intro k f g a2 a3 a4 hk hg hf
    refine sq_at (ms_Ok_m ms_P _) 30 103 ?_
    simp only [sq_c, jp_s, jp_c, rc_0, rc_s, ms_ex, o_iload, o_aload, o_istore, o_astore, o_iinc, o_bin, o_div, o_rem, o_neg, o_and, o_shl, o_shr, o_dup, o_pop, o_dup2, o_if, o_icmp, o_switch, o_sw, o_get, o_put, o_iald, o_iast, o_zald, o_zast, o_aald, o_aast, o_len, ob_s, ob_n, o_call, o_max, o_min, o_copy, o_obj, o_lpush, o_ladd, o_lcmp, o_iret, o_lret, o_vret, i1_c, l1_c, r1_c, st_g0, st_g1, st_g2, st_g3, st_g4, st_g5, st_g6, st_g7, st_g8, st_g9, st_s0, st_s1, st_s2, st_s3, st_s4, st_s5, st_s6, st_s7, st_s8, st_s9, List.length_cons, List.length_nil, List.take_succ_cons, List.take_zero, List.drop_succ_cons, List.drop_zero, List.reverse_cons, List.reverse_nil, List.nil_append, List.cons_append, List.all_cons, List.all_nil, ms_nl, Bool.and_true, Nat.reduceLeDiff, Nat.reduceAdd, Nat.reduceLT, Nat.reduceEqDiff, if_true, if_false, true_and, and_true, ms_rt, List.cons.injEq, exists_eq_left, exists_eq_right, exists_and_left, exists_and_right, ms_one, ite_true, ite_false, reduceIte, imp_self, Nat.zero_add, Nat.add_zero, zero_le_any, Nat.le_refl, Int.zero_add, true_or, or_true, false_implies, Int.reduceLE, Int.reduceLT, Int.reduceNeg, Int.reduceAdd, Int.reduceSub, Int.reduceMul, Int.reduceEq, not_true, not_false_iff, and_self, implies_true, false_and, and_false, or_false, false_or, bX5_duel_0, bX5_duel_1, bX5_duel_2, bX5_duel_3, bX5_duel_4, bX5_duel_5, bX5_duel_6, bX5_duel_7, bX5_duel_8, bX5_duel_9, bX5_duel_10, bX5_duel_11, bX5_duel_12, bX5_duel_13, bX5_duel_14, bX5_duel_15, bX5_duel_16, bX5_duel_17, bX5_duel_18, bX5_duel_19, bX5_duel_100, bX5_duel_101, bX5_duel_102, bX5_duel_103, lX5_duel_0, lX5_duel_1, lX5_duel_2, lX5_duel_3, lX5_duel_4, lX5_duel_5, lX5_duel_6, lX5_duel_7, lX5_duel_8, lX5_duel_9, lX5_duel_10, lX5_duel_11, lX5_duel_12, lX5_duel_13, lX5_duel_14, lX5_duel_15, lX5_duel_16, lX5_duel_17, lX5_duel_18, lX5_duel_19, lX5_duel_100, lX5_duel_101, lX5_duel_102, lX5_duel_103, qX5_duel, sh_b, dS_v, dS_e, hR]
    refine ⟨fun _ => ⟨rg_of (by omega) (by omega), ?_⟩, fun h1 => by omega⟩
    rw [show t + -1 = t - 1 by omega]
    exact K f g (fun b h0 h1 => hf b h0 (by omega)) _ _ _ _
  | succ j ih =>
    intro k f g a2 a3 a4 hk hg hf
    refine sq_at (ms_Ok_m ms_P _) 30 103 ?_
    simp only [sq_c, jp_s, jp_c, rc_0, rc_s, ms_ex, o_iload, o_aload, o_istore, o_astore, o_iinc, o_bin, o_div, o_rem, o_neg, o_and, o_shl, o_shr, o_dup, o_pop, o_dup2, o_if, o_icmp, o_switch, o_sw, o_get, o_put, o_iald, o_iast, o_zald, o_zast, o_aald, o_aast, o_len, ob_s, ob_n, o_call, o_max, o_min, o_copy, o_obj, o_lpush, o_ladd, o_lcmp, o_iret, o_lret, o_vret, i1_c, l1_c, r1_c, st_g0, st_g1, st_g2, st_g3, st_g4, st_g5, st_g6, st_g7, st_g8, st_g9, st_s0, st_s1, st_s2, st_s3, st_s4, st_s5, st_s6, st_s7, st_s8, st_s9, List.length_cons, List.length_nil, List.take_succ_cons, List.take_zero, List.drop_succ_cons, List.drop_zero, List.reverse_cons, List.reverse_nil, List.nil_append, List.cons_append, List.all_cons, List.all_nil, ms_nl, Bool.and_true, Nat.reduceLeDiff, Nat.reduceAdd, Nat.reduceLT, Nat.reduceEqDiff, if_true, if_false, true_and, and_true, ms_rt, List.cons.injEq, exists_eq_left, exists_eq_right, exists_and_left, exists_and_right, ms_one, ite_true, ite_false, reduceIte, imp_self, Nat.zero_add, Nat.add_zero, zero_le_any, Nat.le_refl, Int.zero_add, true_or, or_true, false_implies, Int.reduceLE, Int.reduceLT, Int.reduceNeg, Int.reduceAdd, Int.reduceSub, Int.reduceMul, Int.reduceEq, not_true, not_false_iff, and_self, implies_true, false_and, and_false, or_false, false_or, bX5_duel_0, bX5_duel_1, bX5_duel_2, bX5_duel_3, bX5_duel_4, bX5_duel_5, bX5_duel_6, bX5_duel_7, bX5_duel_8, bX5_duel_9, bX5_duel_10, bX5_duel_11, bX5_duel_12, bX5_duel_13, bX5_duel_14, bX5_duel_15, bX5_duel_16, bX5_duel_17, bX5_duel_18, bX5_duel_19, bX5_duel_100, bX5_duel_101, bX5_duel_102, bX5_duel_103, lX5_duel_0, lX5_duel_1, lX5_duel_2, lX5_duel_3, lX5_duel_4, lX5_duel_5, lX5_duel_6, lX5_duel_7, lX5_duel_8, lX5_duel_9, lX5_duel_10, lX5_duel_11, lX5_duel_12, lX5_duel_13, lX5_duel_14, lX5_duel_15, lX5_duel_16, lX5_duel_17, lX5_duel_18, lX5_duel_19, lX5_duel_100, lX5_duel_101, lX5_duel_102, lX5_duel_103, qX5_duel, sh_b, dS_v, dS_e, dS_f, hR, ar_55, ar_56]
    refine ⟨fun h1 => by omega, fun h1 => ⟨by omega, by omega, by omega, by omega, rg_of (by omega) (by omega), ?_⟩⟩
    refine ih (k + 1) _ g _ _ _ (by omega) hg (fun b h0 h2 => ?_)
    unfold fu
    split
    · rename_i z; rw [z]; exact hg k (by omega) (by omega)
    · exact hf b h0 (by omega)
set_option maxHeartbeats 4000000 in
set_option maxRecDepth 50000 in
theorem m_duel_2 {d : Nat} {h : ms_H} {Q : ms_Q} {n was t : Int} {jj : Nat} (hv : MV h) (ht : 0 ≤ t ∧ t ≤ 6) (K : ∀ f g, (∀ b, 0 ≤ b → b < 19 → f b = dvl h (jj + 1) t b) → ∀ a1 a2 a3 a4, ms_at (ms_Ok ms_P (d + 5)) ms_X1 MX5_duel Q 101 [mR 38, mI n, mI was, mI (t - 1), a1, a2, a3, a4] [] (SH, 0, 0) (dS h f g was)) : ∀ (j k : Nat) (f g : Int → Int) (a2 a3 a4 : ms_V), k + j = 19 → (∀ b : Int, 0 ≤ b → b < 19 → f b = dvl h jj (t + 1) b) → (∀ b : Int, 0 ≤ b → b < k → g b = dvl h (jj + 1) t b) → ms_at (ms_Ok ms_P (d + 5)) ms_X1 MX5_duel Q 102 [mR 38, mI n, mI was, mI t, mI k, a2, a3, a4] [] (SH, 0, 0) (dS h f g was) := by
  have hR := hv.1
  unfold RM at hR
  intro j
  induction j with
  | zero =>
    intro k f g a2 a3 a4 hk hf hg
    refine sq_at (ms_Ok_m ms_P _) 30 102 ?_
    simp only [sq_c, jp_s, jp_c, rc_0, rc_s, ms_ex, o_iload, o_aload, o_istore, o_astore, o_iinc, o_bin, o_div, o_rem, o_neg, o_and, o_shl, o_shr, o_dup, o_pop, o_dup2, o_if, o_icmp, o_switch, o_sw, o_get, o_put, o_iald, o_iast, o_zald, o_zast, o_aald, o_aast, o_len, ob_s, ob_n, o_call, o_max, o_min, o_copy, o_obj, o_lpush, o_ladd, o_lcmp, o_iret, o_lret, o_vret, i1_c, l1_c, r1_c, st_g0, st_g1, st_g2, st_g3, st_g4, st_g5, st_g6, st_g7, st_g8, st_g9, st_s0, st_s1, st_s2, st_s3, st_s4, st_s5, st_s6, st_s7, st_s8, st_s9, List.length_cons, List.length_nil, List.take_succ_cons, List.take_zero, List.drop_succ_cons, List.drop_zero, List.reverse_cons, List.reverse_nil, List.nil_append, List.cons_append, List.all_cons, List.all_nil, ms_nl, Bool.and_true, Nat.reduceLeDiff, Nat.reduceAdd, Nat.reduceLT, Nat.reduceEqDiff, if_true, if_false, true_and, and_true, ms_rt, List.cons.injEq, exists_eq_left, exists_eq_right, exists_and_left, exists_and_right, ms_one, ite_true, ite_false, reduceIte, imp_self, Nat.zero_add, Nat.add_zero, zero_le_any, Nat.le_refl, Int.zero_add, true_or, or_true, false_implies, Int.reduceLE, Int.reduceLT, Int.reduceNeg, Int.reduceAdd, Int.reduceSub, Int.reduceMul, Int.reduceEq, not_true, not_false_iff, and_self, implies_true, false_and, and_false, or_false, false_or, bX5_duel_0, bX5_duel_1, bX5_duel_2, bX5_duel_3, bX5_duel_4, bX5_duel_5, bX5_duel_6, bX5_duel_7, bX5_duel_8, bX5_duel_9, bX5_duel_10, bX5_duel_11, bX5_duel_12, bX5_duel_13, bX5_duel_14, bX5_duel_15, bX5_duel_16, bX5_duel_17, bX5_duel_18, bX5_duel_19, bX5_duel_100, bX5_duel_101, bX5_duel_102, bX5_duel_103, lX5_duel_0, lX5_duel_1, lX5_duel_2, lX5_duel_3, lX5_duel_4, lX5_duel_5, lX5_duel_6, lX5_duel_7, lX5_duel_8, lX5_duel_9, lX5_duel_10, lX5_duel_11, lX5_duel_12, lX5_duel_13, lX5_duel_14, lX5_duel_15, lX5_duel_16, lX5_duel_17, lX5_duel_18, lX5_duel_19, lX5_duel_100, lX5_duel_101, lX5_duel_102, lX5_duel_103, qX5_duel, sh_b, dS_v, dS_e, hR]
    refine ⟨fun _ => ?_, fun h1 => by omega⟩
    exact m_duel_3 hv ht K 19 0 f g _ _ _ (by omega) (fun b h0 h1 => hg b h0 (by omega)) (fun b h0 h1 => by omega)
  | succ j ih =>
    intro k f g a2 a3 a4 hk hf hg
    have hfk := hf k (by omega) (by omega)
    have hlo : 0 < k → f (k - 1) = dvl h jj (t + 1) (k - 1) ∧ dvl h jj (t + 1) k ≤ dvl h jj (t + 1) (k - 1) := fun z => ⟨hf _ (by omega) (by omega), dvl_m h jj (t + 1) (by omega)⟩
    have hhi : (k : Int) < 18 → f (k + 1) = dvl h jj (t + 1) (k + 1) ∧ dvl h jj (t + 1) (k + 1) ≤ dvl h jj (t + 1) k := fun z => ⟨hf _ (by omega) (by omega), dvl_m h jj (t + 1) (by omega)⟩
    have ev : dvl h (jj + 1) t k = dvl h jj (t + 1) (stp t k) := rfl
    have go : ∀ X, X = dvl h jj (t + 1) (stp t k) → ∀ a b c, ms_at (ms_Ok ms_P (d + 5)) ms_X1 MX5_duel Q 102 [mR 38, mI n, mI was, mI t, mI ((k : Int) + 1), a, b, c] [] (SH, 0, 0) (dS h f (fu g k X) was) := by
      intro X hX a b c
      refine ih (k + 1) f _ _ _ _ (by omega) hf (fun b h0 h2 => ?_)
      unfold fu
      split
      · rename_i z; rw [z, hX]; rfl
      · exact hg b h0 (by omega)
    refine sq_at (ms_Ok_m ms_P _) 30 102 ?_
    simp only [sq_c, jp_s, jp_c, rc_0, rc_s, ms_ex, o_iload, o_aload, o_istore, o_astore, o_iinc, o_bin, o_div, o_rem, o_neg, o_and, o_shl, o_shr, o_dup, o_pop, o_dup2, o_if, o_icmp, o_switch, o_sw, o_get, o_put, o_iald, o_iast, o_zald, o_zast, o_aald, o_aast, o_len, ob_s, ob_n, o_call, o_max, o_min, o_copy, o_obj, o_lpush, o_ladd, o_lcmp, o_iret, o_lret, o_vret, i1_c, l1_c, r1_c, st_g0, st_g1, st_g2, st_g3, st_g4, st_g5, st_g6, st_g7, st_g8, st_g9, st_s0, st_s1, st_s2, st_s3, st_s4, st_s5, st_s6, st_s7, st_s8, st_s9, List.length_cons, List.length_nil, List.take_succ_cons, List.take_zero, List.drop_succ_cons, List.drop_zero, List.reverse_cons, List.reverse_nil, List.nil_append, List.cons_append, List.all_cons, List.all_nil, ms_nl, Bool.and_true, Nat.reduceLeDiff, Nat.reduceAdd, Nat.reduceLT, Nat.reduceEqDiff, if_true, if_false, true_and, and_true, ms_rt, List.cons.injEq, exists_eq_left, exists_eq_right, exists_and_left, exists_and_right, ms_one, ite_true, ite_false, reduceIte, imp_self, Nat.zero_add, Nat.add_zero, zero_le_any, Nat.le_refl, Int.zero_add, true_or, or_true, false_implies, Int.reduceLE, Int.reduceLT, Int.reduceNeg, Int.reduceAdd, Int.reduceSub, Int.reduceMul, Int.reduceEq, not_true, not_false_iff, and_self, implies_true, false_and, and_false, or_false, false_or, bX5_duel_0, bX5_duel_1, bX5_duel_2, bX5_duel_3, bX5_duel_4, bX5_duel_5, bX5_duel_6, bX5_duel_7, bX5_duel_8, bX5_duel_9, bX5_duel_10, bX5_duel_11, bX5_duel_12, bX5_duel_13, bX5_duel_14, bX5_duel_15, bX5_duel_16, bX5_duel_17, bX5_duel_18, bX5_duel_19, bX5_duel_100, bX5_duel_101, bX5_duel_102, bX5_duel_103, lX5_duel_0, lX5_duel_1, lX5_duel_2, lX5_duel_3, lX5_duel_4, lX5_duel_5, lX5_duel_6, lX5_duel_7, lX5_duel_8, lX5_duel_9, lX5_duel_10, lX5_duel_11, lX5_duel_12, lX5_duel_13, lX5_duel_14, lX5_duel_15, lX5_duel_16, lX5_duel_17, lX5_duel_18, lX5_duel_19, lX5_duel_100, lX5_duel_101, lX5_duel_102, lX5_duel_103, qX5_duel, sh_b, dS_v, dS_e, dS_g, hR, ar_55, ar_56]
    rw [tmod_p ht.1]
    refine ⟨fun h1 => by omega, fun h1 => ⟨by omega, by omega, ?_⟩⟩
    unfold stp at go
    by_cases hp : t % 2 = 0
    · rw [if_pos hp] at go
      by_cases h2 : (0 : Int) < k
      · rw [if_pos h2] at go
        have hl := hlo (by omega)
        by_cases h3 : (k : Int) < 18
        · have hh := hhi h3
          repeat' first | refine And.intro ?_ ?_ | refine fun (_ : (_ : Int) ≤ _) => ?_ | refine fun (_ : (_ : Int) < _) => ?_ | refine fun (_ : ¬ (_ : Int) = _) => ?_ | refine fun (_ : (_ : Int) = _) => ?_
          all_goals first | omega | exact rg_of (by omega) (by omega) | skip
          all_goals exact go _ (by omega) _ _ _
        · repeat' first | refine And.intro ?_ ?_ | refine fun (_ : (_ : Int) ≤ _) => ?_ | refine fun (_ : (_ : Int) < _) => ?_ | refine fun (_ : ¬ (_ : Int) = _) => ?_ | refine fun (_ : (_ : Int) = _) => ?_
          all_goals first | omega | exact rg_of (by omega) (by omega) | skip
          all_goals exact go _ (by omega) _ _ _
      · rw [if_neg h2] at go
        by_cases h3 : (k : Int) < 18
        · have hh := hhi h3
          repeat' first | refine And.intro ?_ ?_ | refine fun (_ : (_ : Int) ≤ _) => ?_ | refine fun (_ : (_ : Int) < _) => ?_ | refine fun (_ : ¬ (_ : Int) = _) => ?_ | refine fun (_ : (_ : Int) = _) => ?_
          all_goals first | omega | exact rg_of (by omega) (by omega) | skip
          all_goals exact go _ (by omega) _ _ _
        · repeat' first | refine And.intro ?_ ?_ | refine fun (_ : (_ : Int) ≤ _) => ?_ | refine fun (_ : (_ : Int) < _) => ?_ | refine fun (_ : ¬ (_ : Int) = _) => ?_ | refine fun (_ : (_ : Int) = _) => ?_
          all_goals first | omega | exact rg_of (by omega) (by omega) | skip
          all_goals exact go _ (by omega) _ _ _
    · rw [if_neg hp] at go
      by_cases h3 : (k : Int) < 18
      · have hh := hhi h3
        rw [if_pos h3] at go
        by_cases h2 : (0 : Int) < k
        · have hl := hlo (by omega)
          repeat' first | refine And.intro ?_ ?_ | refine fun (_ : (_ : Int) ≤ _) => ?_ | refine fun (_ : (_ : Int) < _) => ?_ | refine fun (_ : ¬ (_ : Int) = _) => ?_ | refine fun (_ : (_ : Int) = _) => ?_
          all_goals first | omega | exact rg_of (by omega) (by omega) | skip
          all_goals exact go _ (by omega) _ _ _
        · repeat' first | refine And.intro ?_ ?_ | refine fun (_ : (_ : Int) ≤ _) => ?_ | refine fun (_ : (_ : Int) < _) => ?_ | refine fun (_ : ¬ (_ : Int) = _) => ?_ | refine fun (_ : (_ : Int) = _) => ?_
          all_goals first | omega | exact rg_of (by omega) (by omega) | skip
          all_goals exact go _ (by omega) _ _ _
      · rw [if_neg h3] at go
        by_cases h2 : (0 : Int) < k
        · have hl := hlo (by omega)
          repeat' first | refine And.intro ?_ ?_ | refine fun (_ : (_ : Int) ≤ _) => ?_ | refine fun (_ : (_ : Int) < _) => ?_ | refine fun (_ : ¬ (_ : Int) = _) => ?_ | refine fun (_ : (_ : Int) = _) => ?_
          all_goals first | omega | exact rg_of (by omega) (by omega) | skip
          all_goals exact go _ (by omega) _ _ _
        · repeat' first | refine And.intro ?_ ?_ | refine fun (_ : (_ : Int) ≤ _) => ?_ | refine fun (_ : (_ : Int) < _) => ?_ | refine fun (_ : ¬ (_ : Int) = _) => ?_ | refine fun (_ : (_ : Int) = _) => ?_
          all_goals first | omega | exact rg_of (by omega) (by omega) | skip
          all_goals exact go _ (by omega) _ _ _
theorem m_duel_t {d : Nat} {h : ms_H} {Q : ms_Q} {n : Int} (hv : MV h) (hn : 0 ≤ n ∧ n ≤ 6) (q : ∀ h', (∀ z, z ≠ 55 → z ≠ 56 → h' z = h z) → Q (some (mI (dvl h n.toNat 0 (h 38 12 + 9)))) SH h') : ∀ (m j : Nat) (f g : Int → Int) (a1 a2 a3 a4 : ms_V), m + j = n.toNat → (∀ b : Int, 0 ≤ b → b < 19 → f b = dvl h j m b) → ms_at (ms_Ok ms_P (d + 5)) ms_X1 MX5_duel Q 101 [mR 38, mI n, mI (h 38 12), mI ((m : Int) - 1), a1, a2, a3, a4] [] (SH, 0, 0) (dS h f g (h 38 12)) := by
  have hR := hv.1
  unfold RM at hR
  have hb := hv.2.1
  unfold MB at hb
  intro m
  induction m with
  | zero =>
    intro j f g a1 a2 a3 a4 hm hf
    refine sq_at (ms_Ok_m ms_P _) 30 101 ?_
    simp only [sq_c, jp_s, jp_c, rc_0, rc_s, ms_ex, o_iload, o_aload, o_istore, o_astore, o_iinc, o_bin, o_div, o_rem, o_neg, o_and, o_shl, o_shr, o_dup, o_pop, o_dup2, o_if, o_icmp, o_switch, o_sw, o_get, o_put, o_iald, o_iast, o_zald, o_zast, o_aald, o_aast, o_len, ob_s, ob_n, o_call, o_max, o_min, o_copy, o_obj, o_lpush, o_ladd, o_lcmp, o_iret, o_lret, o_vret, i1_c, l1_c, r1_c, st_g0, st_g1, st_g2, st_g3, st_g4, st_g5, st_g6, st_g7, st_g8, st_g9, st_s0, st_s1, st_s2, st_s3, st_s4, st_s5, st_s6, st_s7, st_s8, st_s9, List.length_cons, List.length_nil, List.take_succ_cons, List.take_zero, List.drop_succ_cons, List.drop_zero, List.reverse_cons, List.reverse_nil, List.nil_append, List.cons_append, List.all_cons, List.all_nil, ms_nl, Bool.and_true, Nat.reduceLeDiff, Nat.reduceAdd, Nat.reduceLT, Nat.reduceEqDiff, if_true, if_false, true_and, and_true, ms_rt, List.cons.injEq, exists_eq_left, exists_eq_right, exists_and_left, exists_and_right, ms_one, ite_true, ite_false, reduceIte, imp_self, Nat.zero_add, Nat.add_zero, zero_le_any, Nat.le_refl, Int.zero_add, true_or, or_true, false_implies, Int.reduceLE, Int.reduceLT, Int.reduceNeg, Int.reduceAdd, Int.reduceSub, Int.reduceMul, Int.reduceEq, not_true, not_false_iff, and_self, implies_true, false_and, and_false, or_false, false_or, bX5_duel_0, bX5_duel_1, bX5_duel_2, bX5_duel_3, bX5_duel_4, bX5_duel_5, bX5_duel_6, bX5_duel_7, bX5_duel_8, bX5_duel_9, bX5_duel_10, bX5_duel_11, bX5_duel_12, bX5_duel_13, bX5_duel_14, bX5_duel_15, bX5_duel_16, bX5_duel_17, bX5_duel_18, bX5_duel_19, bX5_duel_100, bX5_duel_101, bX5_duel_102, bX5_duel_103, lX5_duel_0, lX5_duel_1, lX5_duel_2, lX5_duel_3, lX5_duel_4, lX5_duel_5, lX5_duel_6, lX5_duel_7, lX5_duel_8, lX5_duel_9, lX5_duel_10, lX5_duel_11, lX5_duel_12, lX5_duel_13, lX5_duel_14, lX5_duel_15, lX5_duel_16, lX5_duel_17, lX5_duel_18, lX5_duel_19, lX5_duel_100, lX5_duel_101, lX5_duel_102, lX5_duel_103, qX5_duel, sh_b, dS_v, dS_e, hR, ar_55]
    refine ⟨fun _ => ⟨rg_of (by omega) (by omega), by omega, by omega, ?_⟩, fun h1 => by omega⟩
    rw [hf _ (by omega) (by omega), show j = n.toNat by omega]
    refine q _ (fun z h1 h2 => ?_)
    funext b
    rw [dS_v, if_neg h1, if_neg h2]
    split
    · rename_i z; rw [z.1, z.2]
    · rfl
  | succ m ih =>
    intro j f g a1 a2 a3 a4 hm hf
    refine sq_at (ms_Ok_m ms_P _) 30 101 ?_
    simp only [sq_c, jp_s, jp_c, rc_0, rc_s, ms_ex, o_iload, o_aload, o_istore, o_astore, o_iinc, o_bin, o_div, o_rem, o_neg, o_and, o_shl, o_shr, o_dup, o_pop, o_dup2, o_if, o_icmp, o_switch, o_sw, o_get, o_put, o_iald, o_iast, o_zald, o_zast, o_aald, o_aast, o_len, ob_s, ob_n, o_call, o_max, o_min, o_copy, o_obj, o_lpush, o_ladd, o_lcmp, o_iret, o_lret, o_vret, i1_c, l1_c, r1_c, st_g0, st_g1, st_g2, st_g3, st_g4, st_g5, st_g6, st_g7, st_g8, st_g9, st_s0, st_s1, st_s2, st_s3, st_s4, st_s5, st_s6, st_s7, st_s8, st_s9, List.length_cons, List.length_nil, List.take_succ_cons, List.take_zero, List.drop_succ_cons, List.drop_zero, List.reverse_cons, List.reverse_nil, List.nil_append, List.cons_append, List.all_cons, List.all_nil, ms_nl, Bool.and_true, Nat.reduceLeDiff, Nat.reduceAdd, Nat.reduceLT, Nat.reduceEqDiff, if_true, if_false, true_and, and_true, ms_rt, List.cons.injEq, exists_eq_left, exists_eq_right, exists_and_left, exists_and_right, ms_one, ite_true, ite_false, reduceIte, imp_self, Nat.zero_add, Nat.add_zero, zero_le_any, Nat.le_refl, Int.zero_add, true_or, or_true, false_implies, Int.reduceLE, Int.reduceLT, Int.reduceNeg, Int.reduceAdd, Int.reduceSub, Int.reduceMul, Int.reduceEq, not_true, not_false_iff, and_self, implies_true, false_and, and_false, or_false, false_or, bX5_duel_0, bX5_duel_1, bX5_duel_2, bX5_duel_3, bX5_duel_4, bX5_duel_5, bX5_duel_6, bX5_duel_7, bX5_duel_8, bX5_duel_9, bX5_duel_10, bX5_duel_11, bX5_duel_12, bX5_duel_13, bX5_duel_14, bX5_duel_15, bX5_duel_16, bX5_duel_17, bX5_duel_18, bX5_duel_19, bX5_duel_100, bX5_duel_101, bX5_duel_102, bX5_duel_103, lX5_duel_0, lX5_duel_1, lX5_duel_2, lX5_duel_3, lX5_duel_4, lX5_duel_5, lX5_duel_6, lX5_duel_7, lX5_duel_8, lX5_duel_9, lX5_duel_10, lX5_duel_11, lX5_duel_12, lX5_duel_13, lX5_duel_14, lX5_duel_15, lX5_duel_16, lX5_duel_17, lX5_duel_18, lX5_duel_19, lX5_duel_100, lX5_duel_101, lX5_duel_102, lX5_duel_103, qX5_duel, sh_b, dS_v, dS_e, hR]
    refine ⟨fun h1 => by omega, fun h1 => ?_⟩
    rw [show ((m + 1 : Nat) : Int) - 1 = m by omega]
    refine m_duel_2 (jj := j) hv (by omega) (fun f g hf a1 a2 a3 a4 => ih (j + 1) f g _ _ _ _ (by omega) hf) 19 0 f g _ _ _ (by omega) (fun b h0 h1 => ?_) (fun b h0 h1 => by omega)
    rw [hf b h0 h1]
    rfl
theorem m_duel {d : Nat} {h : ms_H} {Q : ms_Q} {n : Int} (hv : MV h) (q1 : ¬ (0 ≤ n ∧ n ≤ 6) → Q (some (mI (-1))) SH h) (q2 : (0 ≤ n ∧ n ≤ 6) → ∀ h', (∀ z, z ≠ 55 → z ≠ 56 → h' z = h z) → Q (some (mI (dvl h n.toNat 0 (h 38 12 + 9)))) SH h') : ms_Ok ms_P (d + 6) 147 [mR 38, mI n] SH (h) Q := by
  refine ok_in (k := 30) MX5_duel rfl rfl ?_
  show sq (ms_Ok ms_P (d + 5)) ms_X1 MX5_duel Q 30 (M_bl MX5_duel 0) [mR 38, mI n, mL 0, mL 0, mL 0, mL 0, mL 0, mL 0] [] (SH, 0, 0) (h)
  have hb := hv.2.1
  unfold MB at hb
  simp only [sq_c, jp_s, jp_c, rc_0, rc_s, ms_ex, o_iload, o_aload, o_istore, o_astore, o_iinc, o_bin, o_div, o_rem, o_neg, o_and, o_shl, o_shr, o_dup, o_pop, o_dup2, o_if, o_icmp, o_switch, o_sw, o_get, o_put, o_iald, o_iast, o_zald, o_zast, o_aald, o_aast, o_len, ob_s, ob_n, o_call, o_max, o_min, o_copy, o_obj, o_lpush, o_ladd, o_lcmp, o_iret, o_lret, o_vret, i1_c, l1_c, r1_c, st_g0, st_g1, st_g2, st_g3, st_g4, st_g5, st_g6, st_g7, st_g8, st_g9, st_s0, st_s1, st_s2, st_s3, st_s4, st_s5, st_s6, st_s7, st_s8, st_s9, List.length_cons, List.length_nil, List.take_succ_cons, List.take_zero, List.drop_succ_cons, List.drop_zero, List.reverse_cons, List.reverse_nil, List.nil_append, List.cons_append, List.all_cons, List.all_nil, ms_nl, Bool.and_true, Nat.reduceLeDiff, Nat.reduceAdd, Nat.reduceLT, Nat.reduceEqDiff, if_true, if_false, true_and, and_true, ms_rt, List.cons.injEq, exists_eq_left, exists_eq_right, exists_and_left, exists_and_right, ms_one, ite_true, ite_false, reduceIte, imp_self, Nat.zero_add, Nat.add_zero, zero_le_any, Nat.le_refl, Int.zero_add, true_or, or_true, false_implies, Int.reduceLE, Int.reduceLT, Int.reduceNeg, Int.reduceAdd, Int.reduceSub, Int.reduceMul, Int.reduceEq, not_true, not_false_iff, and_self, implies_true, false_and, and_false, or_false, false_or, bX5_duel_0, bX5_duel_1, bX5_duel_2, bX5_duel_3, bX5_duel_4, bX5_duel_5, bX5_duel_6, bX5_duel_7, bX5_duel_8, bX5_duel_9, bX5_duel_10, bX5_duel_11, bX5_duel_12, bX5_duel_13, bX5_duel_14, bX5_duel_15, bX5_duel_16, bX5_duel_17, bX5_duel_18, bX5_duel_19, bX5_duel_100, bX5_duel_101, bX5_duel_102, bX5_duel_103, lX5_duel_0, lX5_duel_1, lX5_duel_2, lX5_duel_3, lX5_duel_4, lX5_duel_5, lX5_duel_6, lX5_duel_7, lX5_duel_8, lX5_duel_9, lX5_duel_10, lX5_duel_11, lX5_duel_12, lX5_duel_13, lX5_duel_14, lX5_duel_15, lX5_duel_16, lX5_duel_17, lX5_duel_18, lX5_duel_19, lX5_duel_100, lX5_duel_101, lX5_duel_102, lX5_duel_103, qX5_duel, sh_b]
  refine m_in (fun r hr => ?_)
  simp only [sq_c, jp_s, jp_c, rc_0, rc_s, ms_ex, o_iload, o_aload, o_istore, o_astore, o_iinc, o_bin, o_div, o_rem, o_neg, o_and, o_shl, o_shr, o_dup, o_pop, o_dup2, o_if, o_icmp, o_switch, o_sw, o_get, o_put, o_iald, o_iast, o_zald, o_zast, o_aald, o_aast, o_len, ob_s, ob_n, o_call, o_max, o_min, o_copy, o_obj, o_lpush, o_ladd, o_lcmp, o_iret, o_lret, o_vret, i1_c, l1_c, r1_c, st_g0, st_g1, st_g2, st_g3, st_g4, st_g5, st_g6, st_g7, st_g8, st_g9, st_s0, st_s1, st_s2, st_s3, st_s4, st_s5, st_s6, st_s7, st_s8, st_s9, List.length_cons, List.length_nil, List.take_succ_cons, List.take_zero, List.drop_succ_cons, List.drop_zero, List.reverse_cons, List.reverse_nil, List.nil_append, List.cons_append, List.all_cons, List.all_nil, ms_nl, Bool.and_true, Nat.reduceLeDiff, Nat.reduceAdd, Nat.reduceLT, Nat.reduceEqDiff, if_true, if_false, true_and, and_true, ms_rt, List.cons.injEq, exists_eq_left, exists_eq_right, exists_and_left, exists_and_right, ms_one, ite_true, ite_false, reduceIte, imp_self, Nat.zero_add, Nat.add_zero, zero_le_any, Nat.le_refl, Int.zero_add, true_or, or_true, false_implies, Int.reduceLE, Int.reduceLT, Int.reduceNeg, Int.reduceAdd, Int.reduceSub, Int.reduceMul, Int.reduceEq, not_true, not_false_iff, and_self, implies_true, false_and, and_false, or_false, false_or, bX5_duel_0, bX5_duel_1, bX5_duel_2, bX5_duel_3, bX5_duel_4, bX5_duel_5, bX5_duel_6, bX5_duel_7, bX5_duel_8, bX5_duel_9, bX5_duel_10, bX5_duel_11, bX5_duel_12, bX5_duel_13, bX5_duel_14, bX5_duel_15, bX5_duel_16, bX5_duel_17, bX5_duel_18, bX5_duel_19, bX5_duel_100, bX5_duel_101, bX5_duel_102, bX5_duel_103, lX5_duel_0, lX5_duel_1, lX5_duel_2, lX5_duel_3, lX5_duel_4, lX5_duel_5, lX5_duel_6, lX5_duel_7, lX5_duel_8, lX5_duel_9, lX5_duel_10, lX5_duel_11, lX5_duel_12, lX5_duel_13, lX5_duel_14, lX5_duel_15, lX5_duel_16, lX5_duel_17, lX5_duel_18, lX5_duel_19, lX5_duel_100, lX5_duel_101, lX5_duel_102, lX5_duel_103, qX5_duel, sh_b]
  refine ⟨fun h1 => ?_, fun h1 => q1 (bf hr h1)⟩
  have hn := bt hr h1
  have := m_duel_1 (d := d) (n := n) (was := h 38 12) hv hb.2.2.2.2.2 (Q := Q) (fun f g hf a1 a2 a3 a4 => ?_) hn 19 0 (h 55) (h 56) (h 38 12) (mL 0) (mL 0) (mL 0) (mL 0) (by omega) hb.2.2.2.2.2 (fun b h0 h1 => by omega)
  · rw [dS_0] at this
    exact this
  · have := m_duel_t (d := d) (Q := Q) hv hn (q2 hn) n.toNat 0 f g a1 a2 a3 a4 (by omega) (fun b h0 h1 => by rw [hf b h0 h1]; rfl)
    rw [show ((n.toNat : Nat) : Int) = n by omega] at this
    exact this
