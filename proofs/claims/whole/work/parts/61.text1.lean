/-! The class: a token is taken. -/
def FT (h g : ms_H) : Prop := (∀ z, z ≠ 1 → g z = h z) ∧ (∀ b, b < 2 ∨ 5 < b → g 1 b = h 1 b)
theorem FT_r (h : ms_H) : FT h h := ⟨fun _ _ => rfl, fun _ _ => rfl⟩
theorem FT_t {h g f : ms_H} (a : FT h g) (b : FT g f) : FT h f := ⟨fun z h1 => by rw [b.1 z h1, a.1 z h1], fun k hk => by rw [b.2 k hk, a.2 k hk]⟩
theorem FT_hs {h g : ms_H} (a : FT h g) {k : Int} (v : Int) (hk : 2 ≤ k ∧ k ≤ 5) : FT h (hs g 1 k v) := ⟨fun z h1 => by rw [← a.1 z h1]; funext b; rw [hs_v, if_neg (by omega)], fun b hb => by rw [hs_v, if_neg (by omega)]; exact a.2 b hb⟩
/-- what is known of the text -/
def TX (h : ms_H) : Prop := (h 1 0 = 2 ∧ h 1 8 = 3) ∧ (0 ≤ h 1 1 ∧ h 1 1 ≤ 140) ∧ (∀ i, 0 ≤ i → i < h 1 1 → 0 ≤ h 2 i ∧ h 2 i ≤ 255)
theorem TX_f {h g : ms_H} (a : TX h) (f : FT h g) : TX g := by
  unfold TX at a ⊢
  rw [f.2 0 (by omega), f.2 8 (by omega), f.2 1 (by omega), f.1 2 (by omega)]
  exact a
theorem c_letters_lp {d : Nat} {h : ms_H} {Q : ms_Q} (hx : TX h) (hs4 : 0 ≤ h 1 4 ∧ h 1 4 ≤ 140) {E : Int} (q : ∀ g, FT h g → g 1 2 = E → g 1 3 = h 1 3 → g 1 4 = h 1 4 → g 1 5 = (if E - h 1 4 > 1 then 0 else h 1 5) → Q none SH g) : ∀ (m : Nat) (g : ms_H), FT h g → g 1 2 + m = h 1 1 → 0 ≤ g 1 2 → RU 97 122 (h 2) (h 1 1) (g 1 2) = E → g 1 3 = h 1 3 → g 1 4 = h 1 4 → g 1 5 = h 1 5 → ms_at (ms_Ok ms_P (d)) ms_X1 MX2_takeLetters Q 100 [mR 1] [] (SH, 0, 0) (g) := by
  have fin : ∀ g, FT h g → g 1 2 = E → g 1 3 = h 1 3 → g 1 4 = h 1 4 → g 1 5 = h 1 5 → (g 1 2 - h 1 4 ≤ 1 → Q none SH g) ∧ (1 < g 1 2 - h 1 4 → Q none SH (hs g 1 5 0)) := fun g hf e2 e3 e4 e5 => by
    refine And.intro (fun h1 => q g hf e2 e3 e4 (by rw [if_neg (by omega)]; exact e5)) (fun h1 => q _ (FT_hs hf _ (by omega)) ?_ ?_ ?_ ?_)
    · rw [hs_v, if_neg (by omega)]; exact e2
    · rw [hs_v, if_neg (by omega)]; exact e3
    · rw [hs_v, if_neg (by omega)]; exact e4
    · rw [hs_v, if_pos ⟨rfl, rfl⟩, if_pos (by omega)]
  intro m
  induction m with
  | zero =>
    intro g hf hm h0 hE e3 e4 e5
    have hxg := TX_f hx hf
    unfold TX at hxg
    have e1 := hf.2 1 (by omega)
    rw [RU_0 (by omega)] at hE
    refine sq_at (ms_Ok_m ms_P _) 30 100 ?_
    simp only [sq_c, jp_s, jp_c, rc_0, rc_s, ms_ex, o_iload, o_aload, o_istore, o_astore, o_iinc, o_bin, o_div, o_rem, o_neg, o_and, o_shl, o_shr, o_dup, o_pop, o_dup2, o_if, o_icmp, o_switch, o_sw, o_get, o_put, o_iald, o_iast, o_zald, o_zast, o_aald, o_aast, o_len, ob_s, ob_n, o_call, o_max, o_min, o_copy, o_obj, o_lpush, o_ladd, o_lcmp, o_iret, o_lret, o_vret, i1_c, l1_c, r1_c, st_g0, st_g1, st_g2, st_g3, st_g4, st_g5, st_g6, st_g7, st_g8, st_g9, st_s0, st_s1, st_s2, st_s3, st_s4, st_s5, st_s6, st_s7, st_s8, st_s9, List.length_cons, List.length_nil, List.take_succ_cons, List.take_zero, List.drop_succ_cons, List.drop_zero, List.reverse_cons, List.reverse_nil, List.nil_append, List.cons_append, List.all_cons, List.all_nil, ms_nl, Bool.and_true, Nat.reduceLeDiff, Nat.reduceAdd, Nat.reduceLT, Nat.reduceEqDiff, if_true, if_false, true_and, and_true, ms_rt, List.cons.injEq, exists_eq_left, exists_eq_right, exists_and_left, exists_and_right, ms_one, ite_true, ite_false, reduceIte, imp_self, Nat.zero_add, Nat.add_zero, zero_le_any, Nat.le_refl, Int.zero_add, true_or, or_true, false_implies, Int.reduceLE, Int.reduceLT, Int.reduceNeg, Int.reduceAdd, Int.reduceSub, Int.reduceMul, Int.reduceEq, not_true, not_false_iff, and_self, implies_true, false_and, and_false, or_false, false_or, bX2_takeLetters_0, bX2_takeLetters_1, bX2_takeLetters_2, bX2_takeLetters_100, lX2_takeLetters_0, lX2_takeLetters_1, lX2_takeLetters_2, lX2_takeLetters_100, qX2_takeLetters, sh_b, hxg.1, ar_2, e4]
    rw [e1]
    exact ⟨fun _ => ⟨rg_of (by omega) (by omega), fin g hf hE e3 e4 e5⟩, fun h1 => by omega⟩
  | succ m ih =>
    intro g hf hm h0 hE e3 e4 e5
    have hxg := TX_f hx hf
    unfold TX at hxg
    have e1 := hf.2 1 (by omega)
    have eb := hf.1 2 (by omega)
    have hb := hx.2.1
    refine sq_at (ms_Ok_m ms_P _) 30 100 ?_
    simp only [sq_c, jp_s, jp_c, rc_0, rc_s, ms_ex, o_iload, o_aload, o_istore, o_astore, o_iinc, o_bin, o_div, o_rem, o_neg, o_and, o_shl, o_shr, o_dup, o_pop, o_dup2, o_if, o_icmp, o_switch, o_sw, o_get, o_put, o_iald, o_iast, o_zald, o_zast, o_aald, o_aast, o_len, ob_s, ob_n, o_call, o_max, o_min, o_copy, o_obj, o_lpush, o_ladd, o_lcmp, o_iret, o_lret, o_vret, i1_c, l1_c, r1_c, st_g0, st_g1, st_g2, st_g3, st_g4, st_g5, st_g6, st_g7, st_g8, st_g9, st_s0, st_s1, st_s2, st_s3, st_s4, st_s5, st_s6, st_s7, st_s8, st_s9, List.length_cons, List.length_nil, List.take_succ_cons, List.take_zero, List.drop_succ_cons, List.drop_zero, List.reverse_cons, List.reverse_nil, List.nil_append, List.cons_append, List.all_cons, List.all_nil, ms_nl, Bool.and_true, Nat.reduceLeDiff, Nat.reduceAdd, Nat.reduceLT, Nat.reduceEqDiff, if_true, if_false, true_and, and_true, ms_rt, List.cons.injEq, exists_eq_left, exists_eq_right, exists_and_left, exists_and_right, ms_one, ite_true, ite_false, reduceIte, imp_self, Nat.zero_add, Nat.add_zero, zero_le_any, Nat.le_refl, Int.zero_add, true_or, or_true, false_implies, Int.reduceLE, Int.reduceLT, Int.reduceNeg, Int.reduceAdd, Int.reduceSub, Int.reduceMul, Int.reduceEq, not_true, not_false_iff, and_self, implies_true, false_and, and_false, or_false, false_or, bX2_takeLetters_0, bX2_takeLetters_1, bX2_takeLetters_2, bX2_takeLetters_100, lX2_takeLetters_0, lX2_takeLetters_1, lX2_takeLetters_2, lX2_takeLetters_100, qX2_takeLetters, sh_b, hxg.1, ar_2, e4, eb]
    rw [e1]
    refine ⟨fun h1 => by omega, fun _ => ⟨by omega, by omega, fun h1 => ?_, fun h1 => ⟨by omega, by omega, fun h2 => ?_, fun h2 => ⟨rg_of (by omega) (by omega), ?_⟩⟩⟩⟩
    · rw [RU_0 (by omega)] at hE
      exact ⟨rg_of (by omega) (by omega), fin g hf hE e3 e4 e5⟩
    · rw [RU_0 (by omega)] at hE
      exact ⟨rg_of (by omega) (by omega), fin g hf hE e3 e4 e5⟩
    · rw [RU_1 (by omega) ⟨h1, h2⟩] at hE
      refine ih _ (FT_hs hf _ (by omega)) ?_ ?_ ?_ ?_ ?_ ?_
      · rw [hs_v, if_pos ⟨rfl, rfl⟩]; omega
      · rw [hs_v, if_pos ⟨rfl, rfl⟩]; omega
      · rw [hs_v, if_pos ⟨rfl, rfl⟩]; exact hE
      · rw [hs_v, if_neg (by omega)]; exact e3
      · rw [hs_v, if_neg (by omega)]; exact e4
      · rw [hs_v, if_neg (by omega)]; exact e5
theorem c_takeLetters {d : Nat} {h : ms_H} {Q : ms_Q} {j : Int} (hx : TX h) (hj : 0 ≤ j ∧ j < h 1 1) (h2 : h 1 2 = j) (h4 : h 1 4 = j) (q : ∀ g, FT h g → g 1 2 = RU 97 122 (h 2) (h 1 1) j → g 1 3 = 1 → g 1 4 = j → g 1 5 = (if RU 97 122 (h 2) (h 1 1) j - j > 1 then 0 else h 2 j) → Q none SH g) : ms_Ok ms_P (d + 1) 23 [mR 1] SH (h) Q := by
  refine ok_in (k := 30) MX2_takeLetters rfl rfl ?_
  show sq (ms_Ok ms_P (d)) ms_X1 MX2_takeLetters Q 30 (M_bl MX2_takeLetters 0) [mR 1] [] (SH, 0, 0) (h)
  have hb := hx.2.1
  have hR := hx.1
  simp only [sq_c, jp_s, jp_c, rc_0, rc_s, ms_ex, o_iload, o_aload, o_istore, o_astore, o_iinc, o_bin, o_div, o_rem, o_neg, o_and, o_shl, o_shr, o_dup, o_pop, o_dup2, o_if, o_icmp, o_switch, o_sw, o_get, o_put, o_iald, o_iast, o_zald, o_zast, o_aald, o_aast, o_len, ob_s, ob_n, o_call, o_max, o_min, o_copy, o_obj, o_lpush, o_ladd, o_lcmp, o_iret, o_lret, o_vret, i1_c, l1_c, r1_c, st_g0, st_g1, st_g2, st_g3, st_g4, st_g5, st_g6, st_g7, st_g8, st_g9, st_s0, st_s1, st_s2, st_s3, st_s4, st_s5, st_s6, st_s7, st_s8, st_s9, List.length_cons, List.length_nil, List.take_succ_cons, List.take_zero, List.drop_succ_cons, List.drop_zero, List.reverse_cons, List.reverse_nil, List.nil_append, List.cons_append, List.all_cons, List.all_nil, ms_nl, Bool.and_true, Nat.reduceLeDiff, Nat.reduceAdd, Nat.reduceLT, Nat.reduceEqDiff, if_true, if_false, true_and, and_true, ms_rt, List.cons.injEq, exists_eq_left, exists_eq_right, exists_and_left, exists_and_right, ms_one, ite_true, ite_false, reduceIte, imp_self, Nat.zero_add, Nat.add_zero, zero_le_any, Nat.le_refl, Int.zero_add, true_or, or_true, false_implies, Int.reduceLE, Int.reduceLT, Int.reduceNeg, Int.reduceAdd, Int.reduceSub, Int.reduceMul, Int.reduceEq, not_true, not_false_iff, and_self, implies_true, false_and, and_false, or_false, false_or, bX2_takeLetters_0, bX2_takeLetters_1, bX2_takeLetters_2, bX2_takeLetters_100, lX2_takeLetters_0, lX2_takeLetters_1, lX2_takeLetters_2, lX2_takeLetters_100, qX2_takeLetters, sh_b, hR, ar_2, hs_v, h4]
  refine ⟨by omega, by omega, ?_⟩
  have hf : FT h (hs (hs h 1 3 1) 1 5 (h 2 j)) := FT_hs (FT_hs (FT_r h) _ (by omega)) _ (by omega)
  have e1 : hs (hs h 1 3 1) 1 5 (h 2 j) 1 1 = h 1 1 := hf.2 1 (by omega)
  have e2 : hs (hs h 1 3 1) 1 5 (h 2 j) 1 2 = j := by rw [hs_v, if_neg (by omega), hs_v, if_neg (by omega)]; exact h2
  have e3 : hs (hs h 1 3 1) 1 5 (h 2 j) 1 3 = 1 := by rw [hs_v, if_neg (by omega), hs_v, if_pos ⟨rfl, rfl⟩]
  have e4 : hs (hs h 1 3 1) 1 5 (h 2 j) 1 4 = j := by rw [hs_v, if_neg (by omega), hs_v, if_neg (by omega)]; exact h4
  have e5 : hs (hs h 1 3 1) 1 5 (h 2 j) 1 5 = h 2 j := by rw [hs_v, if_pos ⟨rfl, rfl⟩]
  have eb : hs (hs h 1 3 1) 1 5 (h 2 j) 2 = h 2 := hf.1 2 (by omega)
  refine c_letters_lp (TX_f hx hf) (by rw [e4]; omega) (E := RU 97 122 (h 2) (h 1 1) j) (fun g hg a b c e => ?_) (h 1 1 - j).toNat _ (FT_r _) (by rw [e1, e2]; omega) (by rw [e2]; omega) (by rw [e1, e2, eb]) rfl rfl rfl
  rw [e4, e5] at e
  exact q g (FT_t hf hg) a (by rw [b, e3]) (by rw [c, e4]) e
theorem vl_s {g : Int → Int} {j m : Int} (h0 : 0 ≤ m) (h1 : m < 2) : vl g j (m + 1) = vl g j m * 10 + g (j + m) - 48 := by
  have : m = 0 ∨ m = 1 := by omega
  rcases this with rfl | rfl
  · unfold vl
    rw [if_neg (by omega), if_pos (by omega), if_pos (by omega), Int.add_zero]
    omega
  · unfold vl
    rw [if_neg (by omega), if_neg (by omega), if_neg (by omega), if_pos (by omega)]
theorem vl_2 {g : Int → Int} {j m : Int} (h1 : 2 ≤ m) : vl g j (m + 1) = vl g j m := by
  unfold vl
  rw [if_neg (by omega), if_neg (by omega), if_neg (by omega), if_neg (by omega)]
theorem vl_b {g : Int → Int} {j m : Int} (h0 : 0 ≤ g j ∧ g j ≤ 255) (h1 : 2 ≤ m → 0 ≤ g (j + 1) ∧ g (j + 1) ≤ 255) : -1000 ≤ vl g j m ∧ vl g j m ≤ 10000 := by
  unfold vl
  split
  · omega
  · split
    · omega
    · have := h1 (by omega)
      omega
set_option maxRecDepth 50000 in
theorem c_number_lp {d : Nat} {h : ms_H} {Q : ms_Q} {j E : Int} {x y : ms_V} (hx : TX h) (hj : 0 ≤ j ∧ j < h 1 1) (h4 : h 1 4 = j) (q : ∀ g, FT h g → g 1 2 = E → g 1 3 = (if E - j > 2 ∨ (E - j > 1 ∧ h 2 j = 48) then 4 else 2) → g 1 4 = j → g 1 5 = vl (h 2) j (E - j) → Q none SH g) : ∀ (m : Nat) (g : ms_H), FT h g → g 1 2 + m = h 1 1 → j ≤ g 1 2 → RU 48 57 (h 2) (h 1 1) (g 1 2) = E → g 1 4 = j → g 1 5 = vl (h 2) j (g 1 2 - j) → ms_at (ms_Ok ms_P (d)) ms_X1 MX2_takeNumber Q 100 [mR 1, x, y] [] (SH, 0, 0) (g) := by
  have hb := hx.2.1
  have fin : ∀ g : ms_H, FT h g → g 1 2 = E → j ≤ g 1 2 → g 1 2 ≤ h 1 1 → g 1 4 = j → g 1 5 = vl (h 2) j (g 1 2 - j) → rg (g 1 2 - j) ∧ (g 1 2 - j ≤ 1 → (2 < g 1 2 - j → Q none SH (hs g 1 3 4)) ∧ (g 1 2 - j ≤ 2 → Q none SH (hs g 1 3 2))) ∧ (1 < g 1 2 - j → 0 ≤ j ∧ j < 140 ∧ (¬ h 2 j = 48 → (2 < g 1 2 - j → Q none SH (hs g 1 3 4)) ∧ (g 1 2 - j ≤ 2 → Q none SH (hs g 1 3 2))) ∧ (h 2 j = 48 → (2 < g 1 2 - j → Q none SH (hs g 1 3 4)) ∧ (g 1 2 - j ≤ 2 → Q none SH (hs g 1 3 4)))) := fun g hf e2 l1 l2 e4 e5 => by
    rw [e2] at l1 l2 e5 ⊢
    have K4 : (E - j > 2 ∨ (E - j > 1 ∧ h 2 j = 48)) → Q none SH (hs g 1 3 4) := fun hc => by
      refine q _ (FT_hs hf _ (by omega)) ?_ ?_ ?_ ?_
      · rw [hs_v, if_neg (by omega)]; exact e2
      · rw [hs_v, if_pos ⟨rfl, rfl⟩, if_pos hc]
      · rw [hs_v, if_neg (by omega)]; exact e4
      · rw [hs_v, if_neg (by omega)]; exact e5
    have K2 : ¬ (E - j > 2 ∨ (E - j > 1 ∧ h 2 j = 48)) → Q none SH (hs g 1 3 2) := fun hc => by
      refine q _ (FT_hs hf _ (by omega)) ?_ ?_ ?_ ?_
      · rw [hs_v, if_neg (by omega)]; exact e2
      · rw [hs_v, if_pos ⟨rfl, rfl⟩, if_neg hc]
      · rw [hs_v, if_neg (by omega)]; exact e4
      · rw [hs_v, if_neg (by omega)]; exact e5
    exact ⟨rg_of (by omega) (by omega), fun a => ⟨fun b => K4 (by omega), fun b => K2 (by omega)⟩, fun a => ⟨by omega, by omega, fun b => ⟨fun c => K4 (by omega), fun c => K2 (by omega)⟩, fun b => ⟨fun c => K4 (by omega), fun c => K4 (by omega)⟩⟩⟩
  intro m
  induction m with
  | zero =>
    intro g hf hm h0 hE e4 e5
    have hxg := TX_f hx hf
    unfold TX at hxg
    have e1 := hf.2 1 (by omega)
    have eb := hf.1 2 (by omega)
    rw [RU_0 (by omega)] at hE
    refine sq_at (ms_Ok_m ms_P _) 30 100 ?_
    simp only [sq_c, jp_s, jp_c, rc_0, rc_s, ms_ex, o_iload, o_aload, o_istore, o_astore, o_iinc, o_bin, o_div, o_rem, o_neg, o_and, o_shl, o_shr, o_dup, o_pop, o_dup2, o_if, o_icmp, o_switch, o_sw, o_get, o_put, o_iald, o_iast, o_zald, o_zast, o_aald, o_aast, o_len, ob_s, ob_n, o_call, o_max, o_min, o_copy, o_obj, o_lpush, o_ladd, o_lcmp, o_iret, o_lret, o_vret, i1_c, l1_c, r1_c, st_g0, st_g1, st_g2, st_g3, st_g4, st_g5, st_g6, st_g7, st_g8, st_g9, st_s0, st_s1, st_s2, st_s3, st_s4, st_s5, st_s6, st_s7, st_s8, st_s9, List.length_cons, List.length_nil, List.take_succ_cons, List.take_zero, List.drop_succ_cons, List.drop_zero, List.reverse_cons, List.reverse_nil, List.nil_append, List.cons_append, List.all_cons, List.all_nil, ms_nl, Bool.and_true, Nat.reduceLeDiff, Nat.reduceAdd, Nat.reduceLT, Nat.reduceEqDiff, if_true, if_false, true_and, and_true, ms_rt, List.cons.injEq, exists_eq_left, exists_eq_right, exists_and_left, exists_and_right, ms_one, ite_true, ite_false, reduceIte, imp_self, Nat.zero_add, Nat.add_zero, zero_le_any, Nat.le_refl, Int.zero_add, true_or, or_true, false_implies, Int.reduceLE, Int.reduceLT, Int.reduceNeg, Int.reduceAdd, Int.reduceSub, Int.reduceMul, Int.reduceEq, not_true, not_false_iff, and_self, implies_true, false_and, and_false, or_false, false_or, bX2_takeNumber_0, bX2_takeNumber_1, bX2_takeNumber_2, bX2_takeNumber_3, bX2_takeNumber_4, bX2_takeNumber_5, bX2_takeNumber_6, bX2_takeNumber_7, bX2_takeNumber_100, lX2_takeNumber_0, lX2_takeNumber_1, lX2_takeNumber_2, lX2_takeNumber_3, lX2_takeNumber_4, lX2_takeNumber_5, lX2_takeNumber_6, lX2_takeNumber_7, lX2_takeNumber_100, qX2_takeNumber, sh_b, hxg.1, ar_2, e4, eb, e1]
    exact ⟨fun _ => fin g hf hE h0 (by omega) e4 e5, fun h1 => by omega⟩
  | succ m ih =>
    intro g hf hm h0 hE e4 e5
    have hxg := TX_f hx hf
    unfold TX at hxg
    have e1 := hf.2 1 (by omega)
    have eb := hf.1 2 (by omega)
    have b1 := hx.2.2 (g 1 2) (by omega) (by omega)
    have b2 := vl_b (g := h 2) (j := j) (m := g 1 2 - j) (hx.2.2 j hj.1 hj.2) (fun h2 => hx.2.2 (j + 1) (by omega) (by omega))
    refine sq_at (ms_Ok_m ms_P _) 30 100 ?_
    simp only [sq_c, jp_s, jp_c, rc_0, rc_s, ms_ex, o_iload, o_aload, o_istore, o_astore, o_iinc, o_bin, o_div, o_rem, o_neg, o_and, o_shl, o_shr, o_dup, o_pop, o_dup2, o_if, o_icmp, o_switch, o_sw, o_get, o_put, o_iald, o_iast, o_zald, o_zast, o_aald, o_aast, o_len, ob_s, ob_n, o_call, o_max, o_min, o_copy, o_obj, o_lpush, o_ladd, o_lcmp, o_iret, o_lret, o_vret, i1_c, l1_c, r1_c, st_g0, st_g1, st_g2, st_g3, st_g4, st_g5, st_g6, st_g7, st_g8, st_g9, st_s0, st_s1, st_s2, st_s3, st_s4, st_s5, st_s6, st_s7, st_s8, st_s9, List.length_cons, List.length_nil, List.take_succ_cons, List.take_zero, List.drop_succ_cons, List.drop_zero, List.reverse_cons, List.reverse_nil, List.nil_append, List.cons_append, List.all_cons, List.all_nil, ms_nl, Bool.and_true, Nat.reduceLeDiff, Nat.reduceAdd, Nat.reduceLT, Nat.reduceEqDiff, if_true, if_false, true_and, and_true, ms_rt, List.cons.injEq, exists_eq_left, exists_eq_right, exists_and_left, exists_and_right, ms_one, ite_true, ite_false, reduceIte, imp_self, Nat.zero_add, Nat.add_zero, zero_le_any, Nat.le_refl, Int.zero_add, true_or, or_true, false_implies, Int.reduceLE, Int.reduceLT, Int.reduceNeg, Int.reduceAdd, Int.reduceSub, Int.reduceMul, Int.reduceEq, not_true, not_false_iff, and_self, implies_true, false_and, and_false, or_false, false_or, bX2_takeNumber_0, bX2_takeNumber_1, bX2_takeNumber_2, bX2_takeNumber_3, bX2_takeNumber_4, bX2_takeNumber_5, bX2_takeNumber_6, bX2_takeNumber_7, bX2_takeNumber_100, lX2_takeNumber_0, lX2_takeNumber_1, lX2_takeNumber_2, lX2_takeNumber_3, lX2_takeNumber_4, lX2_takeNumber_5, lX2_takeNumber_6, lX2_takeNumber_7, lX2_takeNumber_100, qX2_takeNumber, sh_b, hxg.1, ar_2, e4, eb, e1, hs_v]
    refine ⟨fun h1 => by omega, fun _ => ⟨by omega, by omega, fun h1 => ?_, fun h1 => ⟨by omega, by omega, fun h2 => ?_, fun h2 => ⟨rg_of (by omega) (by omega), fun h3 => ⟨rg_of (by omega) (by omega), ?_⟩, fun h3 => ⟨rg_of (by omega) (by omega), by omega, by omega, rg_of (by omega) (by omega), rg_of (by omega) (by omega), rg_of (by omega) (by omega), ?_⟩⟩⟩⟩⟩
    · rw [RU_0 (by omega)] at hE
      exact fin g hf hE h0 (by omega) e4 e5
    · rw [RU_0 (by omega)] at hE
      exact fin g hf hE h0 (by omega) e4 e5
    · rw [RU_1 (by omega) ⟨h1, h2⟩] at hE
      refine ih _ (FT_hs hf _ (by omega)) ?_ ?_ ?_ ?_ ?_
      · rw [hs_v, if_pos ⟨rfl, rfl⟩]; omega
      · rw [hs_v, if_pos ⟨rfl, rfl⟩]; omega
      · rw [hs_v, if_pos ⟨rfl, rfl⟩]; exact hE
      · rw [hs_v, if_neg (by omega)]; exact e4
      · rw [hs_v, if_neg (by omega), hs_v, if_pos ⟨rfl, rfl⟩, show g 1 2 + 1 - j = g 1 2 - j + 1 by omega, vl_2 h3]; exact e5
    · rw [RU_1 (by omega) ⟨h1, h2⟩] at hE
      refine ih _ (FT_hs (FT_hs hf _ (by omega)) _ (by omega)) ?_ ?_ ?_ ?_ ?_
      · rw [hs_v, if_pos ⟨rfl, rfl⟩]; omega
      · rw [hs_v, if_pos ⟨rfl, rfl⟩]; omega
      · rw [hs_v, if_pos ⟨rfl, rfl⟩]; exact hE
      · rw [hs_v, if_neg (by omega), hs_v, if_neg (by omega)]; exact e4
      · rw [hs_v, if_neg (by omega), hs_v, if_pos ⟨rfl, rfl⟩, hs_v, if_pos ⟨rfl, rfl⟩, show g 1 2 + 1 - j = g 1 2 - j + 1 by omega, vl_s (by omega) h3, ← e5, show j + (g 1 2 - j) = g 1 2 by omega]
theorem c_takeNumber {d : Nat} {h : ms_H} {Q : ms_Q} {j : Int} (hx : TX h) (hj : 0 ≤ j ∧ j < h 1 1) (h2 : h 1 2 = j) (h4 : h 1 4 = j) (h5 : h 1 5 = 0) (q : ∀ g, FT h g → g 1 2 = RU 48 57 (h 2) (h 1 1) j → g 1 3 = (if RU 48 57 (h 2) (h 1 1) j - j > 2 ∨ (RU 48 57 (h 2) (h 1 1) j - j > 1 ∧ h 2 j = 48) then 4 else 2) → g 1 4 = j → g 1 5 = vl (h 2) j (RU 48 57 (h 2) (h 1 1) j - j) → Q none SH g) : ms_Ok ms_P (d + 1) 24 [mR 1] SH (h) Q := by
  refine ok_at MX2_takeNumber rfl rfl ?_
  show ms_at (ms_Ok ms_P d) ms_X1 MX2_takeNumber Q 0 [mR 1, mL 0, mL 0] [] (SH, 0, 0) h
  refine sq_at (ms_Ok_m ms_P _) 30 0 ?_
  simp only [sq_c, jp_s, jp_c, rc_0, rc_s, ms_ex, o_iload, o_aload, o_istore, o_astore, o_iinc, o_bin, o_div, o_rem, o_neg, o_and, o_shl, o_shr, o_dup, o_pop, o_dup2, o_if, o_icmp, o_switch, o_sw, o_get, o_put, o_iald, o_iast, o_zald, o_zast, o_aald, o_aast, o_len, ob_s, ob_n, o_call, o_max, o_min, o_copy, o_obj, o_lpush, o_ladd, o_lcmp, o_iret, o_lret, o_vret, i1_c, l1_c, r1_c, st_g0, st_g1, st_g2, st_g3, st_g4, st_g5, st_g6, st_g7, st_g8, st_g9, st_s0, st_s1, st_s2, st_s3, st_s4, st_s5, st_s6, st_s7, st_s8, st_s9, List.length_cons, List.length_nil, List.take_succ_cons, List.take_zero, List.drop_succ_cons, List.drop_zero, List.reverse_cons, List.reverse_nil, List.nil_append, List.cons_append, List.all_cons, List.all_nil, ms_nl, Bool.and_true, Nat.reduceLeDiff, Nat.reduceAdd, Nat.reduceLT, Nat.reduceEqDiff, if_true, if_false, true_and, and_true, ms_rt, List.cons.injEq, exists_eq_left, exists_eq_right, exists_and_left, exists_and_right, ms_one, ite_true, ite_false, reduceIte, imp_self, Nat.zero_add, Nat.add_zero, zero_le_any, Nat.le_refl, Int.zero_add, true_or, or_true, false_implies, Int.reduceLE, Int.reduceLT, Int.reduceNeg, Int.reduceAdd, Int.reduceSub, Int.reduceMul, Int.reduceEq, not_true, not_false_iff, and_self, implies_true, false_and, and_false, or_false, false_or, bX2_takeNumber_0, bX2_takeNumber_1, bX2_takeNumber_2, bX2_takeNumber_3, bX2_takeNumber_4, bX2_takeNumber_5, bX2_takeNumber_6, bX2_takeNumber_7, bX2_takeNumber_100, lX2_takeNumber_0, lX2_takeNumber_1, lX2_takeNumber_2, lX2_takeNumber_3, lX2_takeNumber_4, lX2_takeNumber_5, lX2_takeNumber_6, lX2_takeNumber_7, lX2_takeNumber_100, qX2_takeNumber, sh_b]
  exact c_number_lp hx hj h4 q (h 1 1 - j).toNat h (FT_r h) (by omega) (by omega) (by rw [h2]) h4 (by rw [h5, h2, Int.sub_self]; rfl)
set_option maxRecDepth 50000 in
/-- a token is taken: none, letters, a number, another -/
theorem c_take_lp {d : Nat} {h : ms_H} {Q : ms_Q} {j : Int} (hx : TX h)
  (q0 : h 1 1 ≤ j → ∀ g, FT h g → g 1 2 = j → g 1 3 = 0 → g 1 4 = j → Q none SH g)
  (q1 : j < h 1 1 → (97 ≤ h 2 j ∧ h 2 j ≤ 122) → ∀ g, FT h g → g 1 2 = RU 97 122 (h 2) (h 1 1) j → g 1 3 = 1 → g 1 4 = j → g 1 5 = (if RU 97 122 (h 2) (h 1 1) j - j > 1 then 0 else h 2 j) → Q none SH g)
  (q2 : j < h 1 1 → (48 ≤ h 2 j ∧ h 2 j ≤ 57) → ∀ g, FT h g → g 1 2 = RU 48 57 (h 2) (h 1 1) j → g 1 3 = (if RU 48 57 (h 2) (h 1 1) j - j > 2 ∨ (RU 48 57 (h 2) (h 1 1) j - j > 1 ∧ h 2 j = 48) then 4 else 2) → g 1 4 = j → g 1 5 = vl (h 2) j (RU 48 57 (h 2) (h 1 1) j - j) → Q none SH g)
  (q3 : j < h 1 1 → ¬ (97 ≤ h 2 j ∧ h 2 j ≤ 122) → ¬ (48 ≤ h 2 j ∧ h 2 j ≤ 57) → ∀ g, FT h g → g 1 2 = j + 1 → g 1 3 = (if h 2 j = 59 then 3 else 4) → g 1 4 = j → Q none SH g) :
  ∀ (m : Nat) (g : ms_H), FT h g → g 1 2 + m = h 1 1 → 0 ≤ g 1 2 → RU 32 32 (h 2) (h 1 1) (g 1 2) = j → ms_at (ms_Ok ms_P (d + 1)) ms_X1 MX2_take Q 100 [mR 1] [] (SH, 0, 0) (g) := by
  have hb := hx.2.1
  intro m
  induction m with
  | zero =>
    intro g hf hm h0 hE
    have hxg := TX_f hx hf
    unfold TX at hxg
    have e1 := hf.2 1 (by omega)
    have eb := hf.1 2 (by omega)
    rw [RU_0 (by omega)] at hE
    refine sq_at (ms_Ok_m ms_P _) 30 100 ?_
    simp only [sq_c, jp_s, jp_c, rc_0, rc_s, ms_ex, o_iload, o_aload, o_istore, o_astore, o_iinc, o_bin, o_div, o_rem, o_neg, o_and, o_shl, o_shr, o_dup, o_pop, o_dup2, o_if, o_icmp, o_switch, o_sw, o_get, o_put, o_iald, o_iast, o_zald, o_zast, o_aald, o_aast, o_len, ob_s, ob_n, o_call, o_max, o_min, o_copy, o_obj, o_lpush, o_ladd, o_lcmp, o_iret, o_lret, o_vret, i1_c, l1_c, r1_c, st_g0, st_g1, st_g2, st_g3, st_g4, st_g5, st_g6, st_g7, st_g8, st_g9, st_s0, st_s1, st_s2, st_s3, st_s4, st_s5, st_s6, st_s7, st_s8, st_s9, List.length_cons, List.length_nil, List.take_succ_cons, List.take_zero, List.drop_succ_cons, List.drop_zero, List.reverse_cons, List.reverse_nil, List.nil_append, List.cons_append, List.all_cons, List.all_nil, ms_nl, Bool.and_true, Nat.reduceLeDiff, Nat.reduceAdd, Nat.reduceLT, Nat.reduceEqDiff, if_true, if_false, true_and, and_true, ms_rt, List.cons.injEq, exists_eq_left, exists_eq_right, exists_and_left, exists_and_right, ms_one, ite_true, ite_false, reduceIte, imp_self, Nat.zero_add, Nat.add_zero, zero_le_any, Nat.le_refl, Int.zero_add, true_or, or_true, false_implies, Int.reduceLE, Int.reduceLT, Int.reduceNeg, Int.reduceAdd, Int.reduceSub, Int.reduceMul, Int.reduceEq, not_true, not_false_iff, and_self, implies_true, false_and, and_false, or_false, false_or, bX2_take_0, bX2_take_1, bX2_take_2, bX2_take_3, bX2_take_4, bX2_take_5, bX2_take_6, bX2_take_7, bX2_take_100, lX2_take_0, lX2_take_1, lX2_take_2, lX2_take_3, lX2_take_4, lX2_take_5, lX2_take_6, lX2_take_7, lX2_take_100, qX2_take, sh_b, hxg.1, ar_2, eb, e1, hs_v]
    refine ⟨fun _ => ⟨fun h1 => absurd h1 (by omega), fun _ => ?_⟩, fun h1 => absurd h1 (by omega)⟩
    refine q0 (by omega) _ (FT_hs (FT_hs (FT_hs hf _ (by omega)) _ (by omega)) _ (by omega)) ?_ ?_ ?_
    · rw [hs_v, if_neg (by omega), hs_v, if_neg (by omega), hs_v, if_neg (by omega)]; exact hE
    · rw [hs_v, if_pos ⟨rfl, rfl⟩]
    · rw [hs_v, if_neg (by omega), hs_v, if_neg (by omega), hs_v, if_pos ⟨rfl, rfl⟩]; exact hE
  | succ m ih =>
    intro g hf hm h0 hE
    have hxg := TX_f hx hf
    unfold TX at hxg
    have e1 := hf.2 1 (by omega)
    have eb := hf.1 2 (by omega)
    have lt : g 1 2 < h 1 1 := by omega
    refine sq_at (ms_Ok_m ms_P _) 30 100 ?_
    simp only [sq_c, jp_s, jp_c, rc_0, rc_s, ms_ex, o_iload, o_aload, o_istore, o_astore, o_iinc, o_bin, o_div, o_rem, o_neg, o_and, o_shl, o_shr, o_dup, o_pop, o_dup2, o_if, o_icmp, o_switch, o_sw, o_get, o_put, o_iald, o_iast, o_zald, o_zast, o_aald, o_aast, o_len, ob_s, ob_n, o_call, o_max, o_min, o_copy, o_obj, o_lpush, o_ladd, o_lcmp, o_iret, o_lret, o_vret, i1_c, l1_c, r1_c, st_g0, st_g1, st_g2, st_g3, st_g4, st_g5, st_g6, st_g7, st_g8, st_g9, st_s0, st_s1, st_s2, st_s3, st_s4, st_s5, st_s6, st_s7, st_s8, st_s9, List.length_cons, List.length_nil, List.take_succ_cons, List.take_zero, List.drop_succ_cons, List.drop_zero, List.reverse_cons, List.reverse_nil, List.nil_append, List.cons_append, List.all_cons, List.all_nil, ms_nl, Bool.and_true, Nat.reduceLeDiff, Nat.reduceAdd, Nat.reduceLT, Nat.reduceEqDiff, if_true, if_false, true_and, and_true, ms_rt, List.cons.injEq, exists_eq_left, exists_eq_right, exists_and_left, exists_and_right, ms_one, ite_true, ite_false, reduceIte, imp_self, Nat.zero_add, Nat.add_zero, zero_le_any, Nat.le_refl, Int.zero_add, true_or, or_true, false_implies, Int.reduceLE, Int.reduceLT, Int.reduceNeg, Int.reduceAdd, Int.reduceSub, Int.reduceMul, Int.reduceEq, not_true, not_false_iff, and_self, implies_true, false_and, and_false, or_false, false_or, bX2_take_0, bX2_take_1, bX2_take_2, bX2_take_3, bX2_take_4, bX2_take_5, bX2_take_6, bX2_take_7, bX2_take_100, lX2_take_0, lX2_take_1, lX2_take_2, lX2_take_3, lX2_take_4, lX2_take_5, lX2_take_6, lX2_take_7, lX2_take_100, qX2_take, sh_b, hxg.1, ar_2, eb, e1, hs_v]
    refine ⟨fun h1 => absurd h1 (by omega), fun _ => ⟨by omega, by omega, fun h1 => ⟨fun _ => ⟨by omega, by omega, ?_⟩, fun h2 => absurd h2 (by omega)⟩, fun h1 => ⟨rg_of (by omega) (by omega), ?_⟩⟩⟩
    · rw [RU_0 (by omega)] at hE
      have hf2 : FT h (hs (hs g 1 4 (g 1 2)) 1 5 0) := FT_hs (FT_hs hf _ (by omega)) _ (by omega)
      have c1 : hs (hs g 1 4 (g 1 2)) 1 5 0 1 1 = h 1 1 := hf2.2 1 (by omega)
      have c2 : hs (hs g 1 4 (g 1 2)) 1 5 0 1 2 = j := by rw [hs_v, if_neg (by omega), hs_v, if_neg (by omega)]; exact hE
      have c4 : hs (hs g 1 4 (g 1 2)) 1 5 0 1 4 = j := by rw [hs_v, if_neg (by omega), hs_v, if_pos ⟨rfl, rfl⟩]; exact hE
      have c5 : hs (hs g 1 4 (g 1 2)) 1 5 0 1 5 = 0 := by rw [hs_v, if_pos ⟨rfl, rfl⟩]
      have cb : hs (hs g 1 4 (g 1 2)) 1 5 0 2 = h 2 := hf2.1 2 (by omega)
      have hx2 := TX_f hx hf2
      have hR2 := hx2.1
      rw [hE] at lt ⊢
      rw [hE] at hf2 c1 c2 c4 c5 cb hx2 hR2
      generalize hs (hs g 1 4 j) 1 5 0 = g2 at hf2 c1 c2 c4 c5 cb hx2 hR2 ⊢
      refine c_within (fun r hr => ?_)
      simp only [sq_c, jp_s, jp_c, rc_0, rc_s, ms_ex, o_iload, o_aload, o_istore, o_astore, o_iinc, o_bin, o_div, o_rem, o_neg, o_and, o_shl, o_shr, o_dup, o_pop, o_dup2, o_if, o_icmp, o_switch, o_sw, o_get, o_put, o_iald, o_iast, o_zald, o_zast, o_aald, o_aast, o_len, ob_s, ob_n, o_call, o_max, o_min, o_copy, o_obj, o_lpush, o_ladd, o_lcmp, o_iret, o_lret, o_vret, i1_c, l1_c, r1_c, st_g0, st_g1, st_g2, st_g3, st_g4, st_g5, st_g6, st_g7, st_g8, st_g9, st_s0, st_s1, st_s2, st_s3, st_s4, st_s5, st_s6, st_s7, st_s8, st_s9, List.length_cons, List.length_nil, List.take_succ_cons, List.take_zero, List.drop_succ_cons, List.drop_zero, List.reverse_cons, List.reverse_nil, List.nil_append, List.cons_append, List.all_cons, List.all_nil, ms_nl, Bool.and_true, Nat.reduceLeDiff, Nat.reduceAdd, Nat.reduceLT, Nat.reduceEqDiff, if_true, if_false, true_and, and_true, ms_rt, List.cons.injEq, exists_eq_left, exists_eq_right, exists_and_left, exists_and_right, ms_one, ite_true, ite_false, reduceIte, imp_self, Nat.zero_add, Nat.add_zero, zero_le_any, Nat.le_refl, Int.zero_add, true_or, or_true, false_implies, Int.reduceLE, Int.reduceLT, Int.reduceNeg, Int.reduceAdd, Int.reduceSub, Int.reduceMul, Int.reduceEq, not_true, not_false_iff, and_self, implies_true, false_and, and_false, or_false, false_or, bX2_take_0, bX2_take_1, bX2_take_2, bX2_take_3, bX2_take_4, bX2_take_5, bX2_take_6, bX2_take_7, bX2_take_100, lX2_take_0, lX2_take_1, lX2_take_2, lX2_take_3, lX2_take_4, lX2_take_5, lX2_take_6, lX2_take_7, lX2_take_100, qX2_take, sh_b, hR2, ar_2, c2, cb]
      refine ⟨fun f1 => ⟨by omega, by omega, ?_⟩, fun f1 => ?_⟩
      · refine c_within (fun r2 hr2 => ?_)
        simp only [sq_c, jp_s, jp_c, rc_0, rc_s, ms_ex, o_iload, o_aload, o_istore, o_astore, o_iinc, o_bin, o_div, o_rem, o_neg, o_and, o_shl, o_shr, o_dup, o_pop, o_dup2, o_if, o_icmp, o_switch, o_sw, o_get, o_put, o_iald, o_iast, o_zald, o_zast, o_aald, o_aast, o_len, ob_s, ob_n, o_call, o_max, o_min, o_copy, o_obj, o_lpush, o_ladd, o_lcmp, o_iret, o_lret, o_vret, i1_c, l1_c, r1_c, st_g0, st_g1, st_g2, st_g3, st_g4, st_g5, st_g6, st_g7, st_g8, st_g9, st_s0, st_s1, st_s2, st_s3, st_s4, st_s5, st_s6, st_s7, st_s8, st_s9, List.length_cons, List.length_nil, List.take_succ_cons, List.take_zero, List.drop_succ_cons, List.drop_zero, List.reverse_cons, List.reverse_nil, List.nil_append, List.cons_append, List.all_cons, List.all_nil, ms_nl, Bool.and_true, Nat.reduceLeDiff, Nat.reduceAdd, Nat.reduceLT, Nat.reduceEqDiff, if_true, if_false, true_and, and_true, ms_rt, List.cons.injEq, exists_eq_left, exists_eq_right, exists_and_left, exists_and_right, ms_one, ite_true, ite_false, reduceIte, imp_self, Nat.zero_add, Nat.add_zero, zero_le_any, Nat.le_refl, Int.zero_add, true_or, or_true, false_implies, Int.reduceLE, Int.reduceLT, Int.reduceNeg, Int.reduceAdd, Int.reduceSub, Int.reduceMul, Int.reduceEq, not_true, not_false_iff, and_self, implies_true, false_and, and_false, or_false, false_or, bX2_take_0, bX2_take_1, bX2_take_2, bX2_take_3, bX2_take_4, bX2_take_5, bX2_take_6, bX2_take_7, bX2_take_100, lX2_take_0, lX2_take_1, lX2_take_2, lX2_take_3, lX2_take_4, lX2_take_5, lX2_take_6, lX2_take_7, lX2_take_100, qX2_take, sh_b, hR2, ar_2, c2, cb, hs_v]
        refine ⟨fun f2 => ⟨by omega, by omega, fun f3 => ⟨rg_of (by omega) (by omega), ?_⟩, fun f3 => ⟨rg_of (by omega) (by omega), ?_⟩⟩, fun f2 => ?_⟩
        · refine q3 lt (bf hr f1) (bf hr2 f2) _ (FT_hs (FT_hs hf2 _ (by omega)) _ (by omega)) ?_ ?_ ?_
          · rw [hs_v, if_pos ⟨rfl, rfl⟩]
          · rw [hs_v, if_neg (by omega), hs_v, if_pos ⟨rfl, rfl⟩, if_neg f3]
          · rw [hs_v, if_neg (by omega), hs_v, if_neg (by omega)]; exact c4
        · refine q3 lt (bf hr f1) (bf hr2 f2) _ (FT_hs (FT_hs hf2 _ (by omega)) _ (by omega)) ?_ ?_ ?_
          · rw [hs_v, if_pos ⟨rfl, rfl⟩]
          · rw [hs_v, if_neg (by omega), hs_v, if_pos ⟨rfl, rfl⟩, if_pos f3]
          · rw [hs_v, if_neg (by omega), hs_v, if_neg (by omega)]; exact c4
        · refine c_takeNumber hx2 (by rw [c1]; omega) c2 c4 c5 (fun g3 hf3 a b c e => ?_)
          rw [c1, cb] at a b e
          simp only [sq_c, jp_s, jp_c, rc_0, rc_s, ms_ex, o_iload, o_aload, o_istore, o_astore, o_iinc, o_bin, o_div, o_rem, o_neg, o_and, o_shl, o_shr, o_dup, o_pop, o_dup2, o_if, o_icmp, o_switch, o_sw, o_get, o_put, o_iald, o_iast, o_zald, o_zast, o_aald, o_aast, o_len, ob_s, ob_n, o_call, o_max, o_min, o_copy, o_obj, o_lpush, o_ladd, o_lcmp, o_iret, o_lret, o_vret, i1_c, l1_c, r1_c, st_g0, st_g1, st_g2, st_g3, st_g4, st_g5, st_g6, st_g7, st_g8, st_g9, st_s0, st_s1, st_s2, st_s3, st_s4, st_s5, st_s6, st_s7, st_s8, st_s9, List.length_cons, List.length_nil, List.take_succ_cons, List.take_zero, List.drop_succ_cons, List.drop_zero, List.reverse_cons, List.reverse_nil, List.nil_append, List.cons_append, List.all_cons, List.all_nil, ms_nl, Bool.and_true, Nat.reduceLeDiff, Nat.reduceAdd, Nat.reduceLT, Nat.reduceEqDiff, if_true, if_false, true_and, and_true, ms_rt, List.cons.injEq, exists_eq_left, exists_eq_right, exists_and_left, exists_and_right, ms_one, ite_true, ite_false, reduceIte, imp_self, Nat.zero_add, Nat.add_zero, zero_le_any, Nat.le_refl, Int.zero_add, true_or, or_true, false_implies, Int.reduceLE, Int.reduceLT, Int.reduceNeg, Int.reduceAdd, Int.reduceSub, Int.reduceMul, Int.reduceEq, not_true, not_false_iff, and_self, implies_true, false_and, and_false, or_false, false_or, bX2_take_0, bX2_take_1, bX2_take_2, bX2_take_3, bX2_take_4, bX2_take_5, bX2_take_6, bX2_take_7, bX2_take_100, lX2_take_0, lX2_take_1, lX2_take_2, lX2_take_3, lX2_take_4, lX2_take_5, lX2_take_6, lX2_take_7, lX2_take_100, qX2_take, sh_b]
          exact q2 lt (bt hr2 f2) g3 (FT_t hf2 hf3) a b c e
      · refine c_takeLetters hx2 (by rw [c1]; omega) c2 c4 (fun g3 hf3 a b c e => ?_)
        rw [c1, cb] at a e
        simp only [sq_c, jp_s, jp_c, rc_0, rc_s, ms_ex, o_iload, o_aload, o_istore, o_astore, o_iinc, o_bin, o_div, o_rem, o_neg, o_and, o_shl, o_shr, o_dup, o_pop, o_dup2, o_if, o_icmp, o_switch, o_sw, o_get, o_put, o_iald, o_iast, o_zald, o_zast, o_aald, o_aast, o_len, ob_s, ob_n, o_call, o_max, o_min, o_copy, o_obj, o_lpush, o_ladd, o_lcmp, o_iret, o_lret, o_vret, i1_c, l1_c, r1_c, st_g0, st_g1, st_g2, st_g3, st_g4, st_g5, st_g6, st_g7, st_g8, st_g9, st_s0, st_s1, st_s2, st_s3, st_s4, st_s5, st_s6, st_s7, st_s8, st_s9, List.length_cons, List.length_nil, List.take_succ_cons, List.take_zero, List.drop_succ_cons, List.drop_zero, List.reverse_cons, List.reverse_nil, List.nil_append, List.cons_append, List.all_cons, List.all_nil, ms_nl, Bool.and_true, Nat.reduceLeDiff, Nat.reduceAdd, Nat.reduceLT, Nat.reduceEqDiff, if_true, if_false, true_and, and_true, ms_rt, List.cons.injEq, exists_eq_left, exists_eq_right, exists_and_left, exists_and_right, ms_one, ite_true, ite_false, reduceIte, imp_self, Nat.zero_add, Nat.add_zero, zero_le_any, Nat.le_refl, Int.zero_add, true_or, or_true, false_implies, Int.reduceLE, Int.reduceLT, Int.reduceNeg, Int.reduceAdd, Int.reduceSub, Int.reduceMul, Int.reduceEq, not_true, not_false_iff, and_self, implies_true, false_and, and_false, or_false, false_or, bX2_take_0, bX2_take_1, bX2_take_2, bX2_take_3, bX2_take_4, bX2_take_5, bX2_take_6, bX2_take_7, bX2_take_100, lX2_take_0, lX2_take_1, lX2_take_2, lX2_take_3, lX2_take_4, lX2_take_5, lX2_take_6, lX2_take_7, lX2_take_100, qX2_take, sh_b]
        exact q1 lt (bt hr f1) g3 (FT_t hf2 hf3) a b c e
    · rw [RU_1 (by omega) (by omega)] at hE
      refine ih _ (FT_hs hf _ (by omega)) ?_ ?_ ?_
      · rw [hs_v, if_pos ⟨rfl, rfl⟩]; omega
      · rw [hs_v, if_pos ⟨rfl, rfl⟩]; omega
      · rw [hs_v, if_pos ⟨rfl, rfl⟩]; exact hE
theorem c_take {d : Nat} {h : ms_H} {Q : ms_Q} {i j : Int} (hx : TX h) (hi : h 1 2 = i) (hin : 0 ≤ i ∧ i ≤ h 1 1) (hj : RU 32 32 (h 2) (h 1 1) i = j)
  (q0 : h 1 1 ≤ j → ∀ g, FT h g → g 1 2 = j → g 1 3 = 0 → g 1 4 = j → Q none SH g)
  (q1 : j < h 1 1 → (97 ≤ h 2 j ∧ h 2 j ≤ 122) → ∀ g, FT h g → g 1 2 = RU 97 122 (h 2) (h 1 1) j → g 1 3 = 1 → g 1 4 = j → g 1 5 = (if RU 97 122 (h 2) (h 1 1) j - j > 1 then 0 else h 2 j) → Q none SH g)
  (q2 : j < h 1 1 → (48 ≤ h 2 j ∧ h 2 j ≤ 57) → ∀ g, FT h g → g 1 2 = RU 48 57 (h 2) (h 1 1) j → g 1 3 = (if RU 48 57 (h 2) (h 1 1) j - j > 2 ∨ (RU 48 57 (h 2) (h 1 1) j - j > 1 ∧ h 2 j = 48) then 4 else 2) → g 1 4 = j → g 1 5 = vl (h 2) j (RU 48 57 (h 2) (h 1 1) j - j) → Q none SH g)
  (q3 : j < h 1 1 → ¬ (97 ≤ h 2 j ∧ h 2 j ≤ 122) → ¬ (48 ≤ h 2 j ∧ h 2 j ≤ 57) → ∀ g, FT h g → g 1 2 = j + 1 → g 1 3 = (if h 2 j = 59 then 3 else 4) → g 1 4 = j → Q none SH g) :
  ms_Ok ms_P (d + 2) 22 [mR 1] SH (h) Q := by
  refine ok_at MX2_take rfl rfl ?_
  show ms_at (ms_Ok ms_P (d + 1)) ms_X1 MX2_take Q 0 [mR 1] [] (SH, 0, 0) h
  refine sq_at (ms_Ok_m ms_P _) 30 0 ?_
  simp only [sq_c, jp_s, jp_c, rc_0, rc_s, ms_ex, o_iload, o_aload, o_istore, o_astore, o_iinc, o_bin, o_div, o_rem, o_neg, o_and, o_shl, o_shr, o_dup, o_pop, o_dup2, o_if, o_icmp, o_switch, o_sw, o_get, o_put, o_iald, o_iast, o_zald, o_zast, o_aald, o_aast, o_len, ob_s, ob_n, o_call, o_max, o_min, o_copy, o_obj, o_lpush, o_ladd, o_lcmp, o_iret, o_lret, o_vret, i1_c, l1_c, r1_c, st_g0, st_g1, st_g2, st_g3, st_g4, st_g5, st_g6, st_g7, st_g8, st_g9, st_s0, st_s1, st_s2, st_s3, st_s4, st_s5, st_s6, st_s7, st_s8, st_s9, List.length_cons, List.length_nil, List.take_succ_cons, List.take_zero, List.drop_succ_cons, List.drop_zero, List.reverse_cons, List.reverse_nil, List.nil_append, List.cons_append, List.all_cons, List.all_nil, ms_nl, Bool.and_true, Nat.reduceLeDiff, Nat.reduceAdd, Nat.reduceLT, Nat.reduceEqDiff, if_true, if_false, true_and, and_true, ms_rt, List.cons.injEq, exists_eq_left, exists_eq_right, exists_and_left, exists_and_right, ms_one, ite_true, ite_false, reduceIte, imp_self, Nat.zero_add, Nat.add_zero, zero_le_any, Nat.le_refl, Int.zero_add, true_or, or_true, false_implies, Int.reduceLE, Int.reduceLT, Int.reduceNeg, Int.reduceAdd, Int.reduceSub, Int.reduceMul, Int.reduceEq, not_true, not_false_iff, and_self, implies_true, false_and, and_false, or_false, false_or, bX2_take_0, bX2_take_1, bX2_take_2, bX2_take_3, bX2_take_4, bX2_take_5, bX2_take_6, bX2_take_7, bX2_take_100, lX2_take_0, lX2_take_1, lX2_take_2, lX2_take_3, lX2_take_4, lX2_take_5, lX2_take_6, lX2_take_7, lX2_take_100, qX2_take, sh_b]
  exact c_take_lp hx q0 q1 q2 q3 (h 1 1 - i).toNat h (FT_r h) (by omega) (by omega) (by rw [hi]; exact hj)
