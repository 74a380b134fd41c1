/-! The class: lines. -/
def rd (h : ms_H) : S4 := (h 20 1, h 20 2, h 20 4, h 20 3)
def F20 (h g : ms_H) : Prop := (∀ z, z ≠ 20 → g z = h z) ∧ g 20 5 = h 20 5 ∧ g 20 6 = h 20 6 ∧ g 20 0 = h 20 0
theorem F20_hs {h g : ms_H} (hf : F20 h g) {k : Int} (v : Int) (hk : 1 ≤ k ∧ k ≤ 4) : F20 h (hs g 20 k v) := by
  refine ⟨fun z hz => ?_, ?_, ?_, ?_⟩
  · rw [← hf.1 z hz]; funext b; rw [hs_v, if_neg (by omega)]
  · rw [hs_v, if_neg (by omega)]; exact hf.2.1
  · rw [hs_v, if_neg (by omega)]; exact hf.2.2.1
  · rw [hs_v, if_neg (by omega)]; exact hf.2.2.2
theorem F20_r (h : ms_H) : F20 h h := ⟨fun _ _ => rfl, rfl, rfl, rfl⟩
theorem F20_t {h g f : ms_H} (a : F20 h g) (b : F20 g f) : F20 h f := ⟨fun z hz => by rw [b.1 z hz, a.1 z hz], by rw [b.2.1, a.2.1], by rw [b.2.2.1, a.2.2.1], by rw [b.2.2.2, a.2.2.2]⟩
theorem CV_20 {t u : Int} {h g : ms_H} (hv : CV t u h) (hg : ∀ z, z ≠ 20 → g z = h z) : CV t u g := by
  have hb := hv.2.2.1
  unfold CB at hb
  have e := hg 21 (by decide)
  refine CV_chg hv (fun z b hz => by rw [hg z (by unfold cvr at hz; omega)]) ?_ ?_
  · rw [e]; exact hb.2.2.2.2.1
  · rw [e]; exact hb.2.2.2.2.2
def J5 (A B : Int) (s : S4) (x y z : Int) : S4 := (if A ≤ 2 * y ∧ B ≤ 2 * z then s.1 + 1 else s.1, if (A ≤ 2 * y ∧ B ≤ 2 * z) ∧ s.1 = 0 then x else s.2.1, if s.2.2.1 < (if y < z then y else z) then (if y < z then y else z) else s.2.2.1, if s.2.2.1 < (if y < z then y else z) then x else s.2.2.2)
theorem J45 (A B : Int) (hw sw : Int → Int) (s : S4) (p : List Int) : J4 A B hw sw s p = J5 A B s (lnn p) (hil hw p) (sea sw p) := rfl
theorem mn_if (y z : Int) : min y z = if y < z then y else z := by
  rw [Int.min_def]
  split <;> split <;> omega
theorem c_judgeOne {d : Nat} {x y z : Int} {h : ms_H} {Q : ms_Q} (hn : 0 ≤ h 20 1 ∧ h 20 1 ≤ 1000000000) (hy : 0 ≤ y ∧ y ≤ 1000) (hz : 0 ≤ z ∧ z ≤ 1000) (q : ∀ g, F20 h g → rd g = J5 (h 20 5) (h 20 6) (rd h) x y z → Q none SH g) : ms_Ok ms_P (d + 1) 3 [mR 20, mI x, mI y, mI z] SH (h) Q := by
  refine ok_in (k := 30) MX0_judgeOne rfl rfl ?_
  show sq (ms_Ok ms_P (d)) ms_X1 MX0_judgeOne Q 30 (M_bl MX0_judgeOne 0) [mR 20, mI x, mI y, mI z, mL 0] [] (SH, 0, 0) (h)
  simp only [sq_c, jp_s, jp_c, rc_0, rc_s, ms_ex, o_iload, o_aload, o_istore, o_astore, o_iinc, o_bin, o_div, o_rem, o_neg, o_and, o_shl, o_shr, o_dup, o_pop, o_dup2, o_if, o_icmp, o_switch, o_sw, o_get, o_put, o_iald, o_iast, o_zald, o_zast, o_aald, o_aast, o_len, ob_s, ob_n, o_call, o_max, o_min, o_copy, o_obj, o_lpush, o_ladd, o_lcmp, o_iret, o_lret, o_vret, i1_c, l1_c, r1_c, st_g0, st_g1, st_g2, st_g3, st_g4, st_g5, st_g6, st_g7, st_g8, st_g9, st_s0, st_s1, st_s2, st_s3, st_s4, st_s5, st_s6, st_s7, st_s8, st_s9, List.length_cons, List.length_nil, List.take_succ_cons, List.take_zero, List.drop_succ_cons, List.drop_zero, List.reverse_cons, List.reverse_nil, List.nil_append, List.cons_append, List.all_cons, List.all_nil, ms_nl, Bool.and_true, Nat.reduceLeDiff, Nat.reduceAdd, Nat.reduceLT, Nat.reduceEqDiff, if_true, if_false, true_and, and_true, ms_rt, List.cons.injEq, exists_eq_left, exists_eq_right, exists_and_left, exists_and_right, ms_one, ite_true, ite_false, reduceIte, imp_self, Nat.zero_add, Nat.add_zero, zero_le_any, Nat.le_refl, Int.zero_add, true_or, or_true, false_implies, Int.reduceLE, Int.reduceLT, Int.reduceNeg, Int.reduceAdd, Int.reduceSub, Int.reduceMul, Int.reduceEq, not_true, not_false_iff, and_self, implies_true, false_and, and_false, or_false, false_or, bX0_judgeOne_0, bX0_judgeOne_1, bX0_judgeOne_2, bX0_judgeOne_3, lX0_judgeOne_0, lX0_judgeOne_1, lX0_judgeOne_2, lX0_judgeOne_3, qX0_judgeOne, sh_b, hs_v]
  rw [mn_if]
  have fr := F20_r h
  have q' : ∀ g, F20 h g → (g 20 1, g 20 2, g 20 4, g 20 3) = J5 (h 20 5) (h 20 6) (rd h) x y z → Q none SH g := fun g hf he => q g hf he
  have j : J5 (h 20 5) (h 20 6) (rd h) x y z = (if h 20 5 ≤ 2 * y ∧ h 20 6 ≤ 2 * z then h 20 1 + 1 else h 20 1, if (h 20 5 ≤ 2 * y ∧ h 20 6 ≤ 2 * z) ∧ h 20 1 = 0 then x else h 20 2, if h 20 4 < (if y < z then y else z) then (if y < z then y else z) else h 20 4, if h 20 4 < (if y < z then y else z) then x else h 20 3) := rfl
  rw [j] at q'
  clear q j
  generalize (if y < z then y else z) = m at q' ⊢
  refine ⟨rg_of (by omega) (by omega), fun f1 => ⟨fun f2 => ?_, fun f2 => ?_⟩, fun f1 => ⟨rg_of (by omega) (by omega), fun f2 => ⟨fun f3 => ?_, fun f3 => ?_⟩, fun f2 => ⟨fun f3 => ⟨rg_of (by omega) (by omega), fun f4 => ?_, fun f4 => ?_⟩, fun f3 => ⟨rg_of (by omega) (by omega), fun f4 => ?_, fun f4 => ?_⟩⟩⟩⟩
  all_goals
    refine q' _ (by repeat' first | exact fr | refine F20_hs ?_ _ (by omega)) ?_
    try simp only [hs_v, Int.reduceEq, and_false, and_true, if_true, if_false]
  · rw [if_neg (by omega), if_neg (by omega), if_neg (by omega), if_neg (by omega)]
  · rw [if_neg (by omega), if_neg (by omega), if_pos (by omega), if_pos (by omega)]
  · rw [if_neg (by omega), if_neg (by omega), if_neg (by omega), if_neg (by omega)]
  · rw [if_neg (by omega), if_neg (by omega), if_pos (by omega), if_pos (by omega)]
  · rw [if_pos (by omega), if_neg (by omega), if_neg (by omega), if_neg (by omega)]
  · rw [if_pos (by omega), if_neg (by omega), if_pos (by omega), if_pos (by omega)]
  · rw [if_pos (by omega), if_pos (by omega), if_neg (by omega), if_neg (by omega)]
  · rw [if_pos (by omega), if_pos (by omega), if_pos (by omega), if_pos (by omega)]
theorem J4_b (A B : Int) (hw sw : Int → Int) (s : S4) (p : List Int) (hs1 : 0 ≤ s.1 ∧ s.1 ≤ lnn p) : 0 ≤ (J4 A B hw sw s p).1 ∧ (J4 A B hw sw s p).1 ≤ lnn p + 1 := by
  have j1 : (J4 A B hw sw s p).1 = if A ≤ 2 * hil hw p ∧ B ≤ 2 * sea sw p then s.1 + 1 else s.1 := rfl
  rw [j1]
  split <;> omega
theorem dr_b {A B : Int} {hw sw : Int → Int} : ∀ (k : Nat) (p : List Int) (s : S4), gd p → (0 ≤ s.1 ∧ s.1 ≤ lnn p * 10 ^ k) → 0 ≤ (drw (J4 A B hw sw) k s p).1 ∧ (drw (J4 A B hw sw) k s p).1 ≤ (lnn p + 1) * 10 ^ k := by
  intro k
  induction k with
  | zero =>
    intro p s hg hs1
    rw [Int.pow_zero, Int.mul_one] at hs1 ⊢
    exact J4_b A B hw sw s p hs1
  | succ k ih =>
    have key : ∀ (n : Nat) (p : List Int) (s : S4) (x : Int), gd p → 0 ≤ x → x + n ≤ 9 → (0 ≤ s.1 ∧ s.1 ≤ (lnn p * 10 + x) * 10 ^ k) → 0 ≤ (lpf (fun s x => drw (J4 A B hw sw) k s (x :: p)) s x n).1 ∧ (lpf (fun s x => drw (J4 A B hw sw) k s (x :: p)) s x n).1 ≤ (lnn p * 10 + (x + n)) * 10 ^ k := by
      intro n
      induction n with
      | zero =>
        intro p s x hg h0 hx hs1
        rw [show x + ((0 : Nat) : Int) = x by omega]
        exact hs1
      | succ n ihn =>
        intro p s x hg h0 hx hs1
        have a := ih (x :: p) s ⟨⟨h0, by omega⟩, hg⟩ hs1
        have e : lnn (x :: p) + 1 = lnn p * 10 + (x + 1) := by show lnn p * 10 + x + 1 = _; omega
        rw [e] at a
        have b := ihn p (drw (J4 A B hw sw) k s (x :: p)) (x + 1) hg (by omega) (by omega) a
        rw [show x + ((n + 1 : Nat) : Int) = x + 1 + n by omega]
        exact b
    intro p s hg hs1
    have hb := gd_b hg
    have h3 : (0 : Int) ≤ 10 ^ k := Int.pow_nonneg (by decide)
    have e1 : lnn p * 10 ^ (k + 1) = lnn p * 10 * 10 ^ k := by rw [Int.pow_succ, Int.mul_comm (10 ^ k) 10, ← Int.mul_assoc]
    have e2 : (lnn p + 1) * 10 ^ (k + 1) = (lnn p + 1) * 10 * 10 ^ k := by rw [Int.pow_succ, Int.mul_comm (10 ^ k) 10, ← Int.mul_assoc]
    have h4 : lnn p * 10 * 10 ^ k ≤ (lnn p * 10 + dn p) * 10 ^ k := Int.mul_le_mul_of_nonneg_right (by omega) h3
    have a := key (mo p - dn p + 1).toNat p s (dn p) hg hb.1.1 (by omega) (by rw [e1] at hs1; omega)
    have h5 : (lnn p * 10 + (dn p + ((mo p - dn p + 1).toNat : Int))) * 10 ^ k ≤ (lnn p + 1) * 10 * 10 ^ k := Int.mul_le_mul_of_nonneg_right (by omega) h3
    rw [e2]
    show 0 ≤ (lpf (fun s x => drw (J4 A B hw sw) k s (x :: p)) s (dn p) (mo p - dn p + 1).toNat).1 ∧ (lpf (fun s x => drw (J4 A B hw sw) k s (x :: p)) s (dn p) (mo p - dn p + 1).toNat).1 ≤ _
    omega
def cJ (t : Int) (h : ms_H) : S4 → List Int → S4 := J4 (h 20 5) (h 20 6) (h (t + 2)) (h (t + 3))
theorem lnn_m {y : Int} {p : List Int} (hg : gd (y :: p)) (hl : p.length ≤ 8) : (lnn (y :: p)).tmod 10 = y := by
  have h1 := gd_nn p hg.2 hl
  have h2 := hg.1
  have e : lnn (y :: p) = lnn p * 10 + y := rfl
  rw [e, tmod_p (by omega)]
  omega
theorem mx0 (a b : Int) : max a b = if a ≤ b then b else a := Int.max_def a b
theorem mn0 (a b : Int) : min a b = if a ≤ b then a else b := Int.min_def a b
theorem c_drawFrom {t u : Int} {h : ms_H} (hv : CV t u h) : ∀ (k : Nat) (d : Nat) (p : List Int) (g : ms_H) (Q : ms_Q), F20 h g → ((p.length + k : Nat) : Int) = h t 0 → gd p → (0 ≤ g 20 1 ∧ g 20 1 ≤ lnn p * 10 ^ k) → (∀ f, F20 h f → rd f = drw (cJ t h) k (rd g) p → Q none SH f) → ms_Ok ms_P (d + k + 2) 2 [mR 20, mR t, mI p.length, mI (lnn p), mI (hil (h (t + 2)) p), mI (sea (h (t + 3)) p)] SH (g) Q := by
  have hb := hv.2.2.1.1
  have hA := hv.2.2.2.2.1
  have hT := hv.1
  unfold TU at hT
  have hR := hv.2.1
  unfold RC at hR
  intro k
  induction k with
  | zero =>
    intro d p g Q hf hp hg hn q
    have et := hf.1 t (by omega)
    have bh := (gd_hil (w := h (t + 2)) (N := h t 0) (fun i h0 h1 => (hA i h0 h1).2.1) p hg (by omega)).1
    have bs := (gd_hil (w := h (t + 3)) (N := h t 0) (fun i h0 h1 => (hA i h0 h1).2.2) p hg (by omega)).2
    have bl := gd_nn p hg (by omega)
    have bl2 := p10_9 (n := p.length) (by omega)
    rw [Int.pow_zero, Int.mul_one] at hn
    have hp' : h t 0 ≤ p.length := by omega
    have q' : ∀ f, F20 g f → rd f = J5 (g 20 5) (g 20 6) (rd g) (lnn p) (hil (h (t + 2)) p) (sea (h (t + 3)) p) → Q none SH f := fun f hf2 he => q f (F20_t hf hf2) (by rw [he, hf.2.1, hf.2.2.1]; rfl)
    refine ok_in (k := 30) MX0_drawFrom rfl rfl ?_
    show sq (ms_Ok ms_P (d + 0 + 1)) ms_X1 MX0_drawFrom Q 30 (M_bl MX0_drawFrom 0) [mR 20, mR t, mI p.length, mI (lnn p), mI (hil (h (t + 2)) p), mI (sea (h (t + 3)) p), mL 0, mL 0, mL 0, mL 0] [] (SH, 0, 0) g
    simp only [sq_c, jp_s, jp_c, rc_0, rc_s, ms_ex, o_iload, o_aload, o_istore, o_astore, o_iinc, o_bin, o_div, o_rem, o_neg, o_and, o_shl, o_shr, o_dup, o_pop, o_dup2, o_if, o_icmp, o_switch, o_sw, o_get, o_put, o_iald, o_iast, o_zald, o_zast, o_aald, o_aast, o_len, ob_s, ob_n, o_call, o_max, o_min, o_copy, o_obj, o_lpush, o_ladd, o_lcmp, o_iret, o_lret, o_vret, i1_c, l1_c, r1_c, st_g0, st_g1, st_g2, st_g3, st_g4, st_g5, st_g6, st_g7, st_g8, st_g9, st_s0, st_s1, st_s2, st_s3, st_s4, st_s5, st_s6, st_s7, st_s8, st_s9, List.length_cons, List.length_nil, List.take_succ_cons, List.take_zero, List.drop_succ_cons, List.drop_zero, List.reverse_cons, List.reverse_nil, List.nil_append, List.cons_append, List.all_cons, List.all_nil, ms_nl, Bool.and_true, Nat.reduceLeDiff, Nat.reduceAdd, Nat.reduceLT, Nat.reduceEqDiff, if_true, if_false, true_and, and_true, ms_rt, List.cons.injEq, exists_eq_left, exists_eq_right, exists_and_left, exists_and_right, ms_one, ite_true, ite_false, reduceIte, imp_self, Nat.zero_add, Nat.add_zero, zero_le_any, Nat.le_refl, Int.zero_add, true_or, or_true, false_implies, Int.reduceLE, Int.reduceLT, Int.reduceNeg, Int.reduceAdd, Int.reduceSub, Int.reduceMul, Int.reduceEq, not_true, not_false_iff, and_self, implies_true, false_and, and_false, or_false, false_or, bX0_drawFrom_0, bX0_drawFrom_1, bX0_drawFrom_2, bX0_drawFrom_3, bX0_drawFrom_4, bX0_drawFrom_5, bX0_drawFrom_6, bX0_drawFrom_7, bX0_drawFrom_100, lX0_drawFrom_0, lX0_drawFrom_1, lX0_drawFrom_2, lX0_drawFrom_3, lX0_drawFrom_4, lX0_drawFrom_5, lX0_drawFrom_6, lX0_drawFrom_7, lX0_drawFrom_100, qX0_drawFrom, sh_b, et, hR, tok hv.1, tok0 hv.1]
    refine ⟨fun h1 => ?_, fun h1 => ⟨fun h2 => by omega, fun h2 => ?_⟩⟩
    · refine c_judgeOne (by omega) (by omega) (by omega) (fun f hf2 he => ?_)
      simp only [sq_c, jp_s, jp_c, rc_0, rc_s, ms_ex, o_iload, o_aload, o_istore, o_astore, o_iinc, o_bin, o_div, o_rem, o_neg, o_and, o_shl, o_shr, o_dup, o_pop, o_dup2, o_if, o_icmp, o_switch, o_sw, o_get, o_put, o_iald, o_iast, o_zald, o_zast, o_aald, o_aast, o_len, ob_s, ob_n, o_call, o_max, o_min, o_copy, o_obj, o_lpush, o_ladd, o_lcmp, o_iret, o_lret, o_vret, i1_c, l1_c, r1_c, st_g0, st_g1, st_g2, st_g3, st_g4, st_g5, st_g6, st_g7, st_g8, st_g9, st_s0, st_s1, st_s2, st_s3, st_s4, st_s5, st_s6, st_s7, st_s8, st_s9, List.length_cons, List.length_nil, List.take_succ_cons, List.take_zero, List.drop_succ_cons, List.drop_zero, List.reverse_cons, List.reverse_nil, List.nil_append, List.cons_append, List.all_cons, List.all_nil, ms_nl, Bool.and_true, Nat.reduceLeDiff, Nat.reduceAdd, Nat.reduceLT, Nat.reduceEqDiff, if_true, if_false, true_and, and_true, ms_rt, List.cons.injEq, exists_eq_left, exists_eq_right, exists_and_left, exists_and_right, ms_one, ite_true, ite_false, reduceIte, imp_self, Nat.zero_add, Nat.add_zero, zero_le_any, Nat.le_refl, Int.zero_add, true_or, or_true, false_implies, Int.reduceLE, Int.reduceLT, Int.reduceNeg, Int.reduceAdd, Int.reduceSub, Int.reduceMul, Int.reduceEq, not_true, not_false_iff, and_self, implies_true, false_and, and_false, or_false, false_or, bX0_drawFrom_0, bX0_drawFrom_1, bX0_drawFrom_2, bX0_drawFrom_3, bX0_drawFrom_4, bX0_drawFrom_5, bX0_drawFrom_6, bX0_drawFrom_7, bX0_drawFrom_100, lX0_drawFrom_0, lX0_drawFrom_1, lX0_drawFrom_2, lX0_drawFrom_3, lX0_drawFrom_4, lX0_drawFrom_5, lX0_drawFrom_6, lX0_drawFrom_7, lX0_drawFrom_100, qX0_drawFrom, sh_b]
      exact q' f hf2 he
    · refine c_judgeOne (by omega) (by omega) (by omega) (fun f hf2 he => ?_)
      simp only [sq_c, jp_s, jp_c, rc_0, rc_s, ms_ex, o_iload, o_aload, o_istore, o_astore, o_iinc, o_bin, o_div, o_rem, o_neg, o_and, o_shl, o_shr, o_dup, o_pop, o_dup2, o_if, o_icmp, o_switch, o_sw, o_get, o_put, o_iald, o_iast, o_zald, o_zast, o_aald, o_aast, o_len, ob_s, ob_n, o_call, o_max, o_min, o_copy, o_obj, o_lpush, o_ladd, o_lcmp, o_iret, o_lret, o_vret, i1_c, l1_c, r1_c, st_g0, st_g1, st_g2, st_g3, st_g4, st_g5, st_g6, st_g7, st_g8, st_g9, st_s0, st_s1, st_s2, st_s3, st_s4, st_s5, st_s6, st_s7, st_s8, st_s9, List.length_cons, List.length_nil, List.take_succ_cons, List.take_zero, List.drop_succ_cons, List.drop_zero, List.reverse_cons, List.reverse_nil, List.nil_append, List.cons_append, List.all_cons, List.all_nil, ms_nl, Bool.and_true, Nat.reduceLeDiff, Nat.reduceAdd, Nat.reduceLT, Nat.reduceEqDiff, if_true, if_false, true_and, and_true, ms_rt, List.cons.injEq, exists_eq_left, exists_eq_right, exists_and_left, exists_and_right, ms_one, ite_true, ite_false, reduceIte, imp_self, Nat.zero_add, Nat.add_zero, zero_le_any, Nat.le_refl, Int.zero_add, true_or, or_true, false_implies, Int.reduceLE, Int.reduceLT, Int.reduceNeg, Int.reduceAdd, Int.reduceSub, Int.reduceMul, Int.reduceEq, not_true, not_false_iff, and_self, implies_true, false_and, and_false, or_false, false_or, bX0_drawFrom_0, bX0_drawFrom_1, bX0_drawFrom_2, bX0_drawFrom_3, bX0_drawFrom_4, bX0_drawFrom_5, bX0_drawFrom_6, bX0_drawFrom_7, bX0_drawFrom_100, lX0_drawFrom_0, lX0_drawFrom_1, lX0_drawFrom_2, lX0_drawFrom_3, lX0_drawFrom_4, lX0_drawFrom_5, lX0_drawFrom_6, lX0_drawFrom_7, lX0_drawFrom_100, qX0_drawFrom, sh_b]
      exact q' f hf2 he
  | succ k ih =>
    have key : ∀ (n : Nat) (d : Nat) (p : List Int) (g : ms_H) (Q : ms_Q) (x a b : Int), F20 h g → ((p.length + (k + 1) : Nat) : Int) = h t 0 → gd p → 0 ≤ x → x + n = mo p + 1 → (0 ≤ g 20 1 ∧ g 20 1 ≤ (lnn p * 10 + x) * 10 ^ k) → (∀ f, F20 h f → rd f = lpf (fun s x => drw (cJ t h) k s (x :: p)) (rd g) x n → Q none SH f) → ms_at (ms_Ok ms_P (d + (k + 1) + 1)) ms_X1 MX0_drawFrom Q 100 [mR 20, mR t, mI p.length, mI (lnn p), mI (hil (h (t + 2)) p), mI (sea (h (t + 3)) p), mI a, mI b, mI (mo p), mI x] [] (SH, 0, 0) (g) := by
      intro n
      induction n with
      | zero =>
        intro d p g Q x a b hf hp hg h0 hx hn q
        have et := hf.1 t (by omega)
        have et2 := hf.1 (t + 2) (by omega)
        have et3 := hf.1 (t + 3) (by omega)
        refine sq_at (ms_Ok_m ms_P _) 30 100 ?_
        simp only [sq_c, jp_s, jp_c, rc_0, rc_s, ms_ex, o_iload, o_aload, o_istore, o_astore, o_iinc, o_bin, o_div, o_rem, o_neg, o_and, o_shl, o_shr, o_dup, o_pop, o_dup2, o_if, o_icmp, o_switch, o_sw, o_get, o_put, o_iald, o_iast, o_zald, o_zast, o_aald, o_aast, o_len, ob_s, ob_n, o_call, o_max, o_min, o_copy, o_obj, o_lpush, o_ladd, o_lcmp, o_iret, o_lret, o_vret, i1_c, l1_c, r1_c, st_g0, st_g1, st_g2, st_g3, st_g4, st_g5, st_g6, st_g7, st_g8, st_g9, st_s0, st_s1, st_s2, st_s3, st_s4, st_s5, st_s6, st_s7, st_s8, st_s9, List.length_cons, List.length_nil, List.take_succ_cons, List.take_zero, List.drop_succ_cons, List.drop_zero, List.reverse_cons, List.reverse_nil, List.nil_append, List.cons_append, List.all_cons, List.all_nil, ms_nl, Bool.and_true, Nat.reduceLeDiff, Nat.reduceAdd, Nat.reduceLT, Nat.reduceEqDiff, if_true, if_false, true_and, and_true, ms_rt, List.cons.injEq, exists_eq_left, exists_eq_right, exists_and_left, exists_and_right, ms_one, ite_true, ite_false, reduceIte, imp_self, Nat.zero_add, Nat.add_zero, zero_le_any, Nat.le_refl, Int.zero_add, true_or, or_true, false_implies, Int.reduceLE, Int.reduceLT, Int.reduceNeg, Int.reduceAdd, Int.reduceSub, Int.reduceMul, Int.reduceEq, not_true, not_false_iff, and_self, implies_true, false_and, and_false, or_false, false_or, bX0_drawFrom_0, bX0_drawFrom_1, bX0_drawFrom_2, bX0_drawFrom_3, bX0_drawFrom_4, bX0_drawFrom_5, bX0_drawFrom_6, bX0_drawFrom_7, bX0_drawFrom_100, lX0_drawFrom_0, lX0_drawFrom_1, lX0_drawFrom_2, lX0_drawFrom_3, lX0_drawFrom_4, lX0_drawFrom_5, lX0_drawFrom_6, lX0_drawFrom_7, lX0_drawFrom_100, qX0_drawFrom, sh_b, et, et2, et3, hR, tok hv.1, tok0 hv.1]
        exact ⟨fun _ => q g hf rfl, fun h1 => by omega⟩
      | succ n ihn =>
        intro d p g Q x a b hf hp hg h0 hx hn q
        have et := hf.1 t (by omega)
        have et2 := hf.1 (t + 2) (by omega)
        have et3 := hf.1 (t + 3) (by omega)
        have hbp := gd_b hg
        have bh := (gd_hil (w := h (t + 2)) (N := h t 0) (fun i h0 h1 => (hA i h0 h1).2.1) p hg (by omega)).1
        have bs := (gd_hil (w := h (t + 3)) (N := h t 0) (fun i h0 h1 => (hA i h0 h1).2.2) p hg (by omega)).2
        have bl := gd_nn p hg (by omega)
        have bl2 := p10_8 (n := p.length) (by omega)
        have hAc := hA p.length (by omega) (by omega)
        have m1 : 0 ≤ h (t + 2) p.length * (8 - x) := Int.mul_nonneg (by omega) (by omega)
        have m2 : h (t + 2) p.length * (8 - x) ≤ 9 * 8 := Int.mul_le_mul (by omega) (by omega) (by omega) (by omega)
        have m3 : 0 ≤ h (t + 3) p.length * x := Int.mul_nonneg (by omega) (by omega)
        have m4 : h (t + 3) p.length * x ≤ 9 * 8 := Int.mul_le_mul (by omega) (by omega) (by omega) (by omega)
        have hgx : gd (x :: p) := ⟨⟨h0, by omega⟩, hg⟩
        have hb2 := dr_b (A := h 20 5) (B := h 20 6) (hw := h (t + 2)) (sw := h (t + 3)) k (x :: p) (rd g) hgx hn
        have hlen : ((x :: p).length : Int) = p.length + 1 := by rw [List.length_cons]; omega
        refine sq_at (ms_Ok_m ms_P _) 30 100 ?_
        simp only [sq_c, jp_s, jp_c, rc_0, rc_s, ms_ex, o_iload, o_aload, o_istore, o_astore, o_iinc, o_bin, o_div, o_rem, o_neg, o_and, o_shl, o_shr, o_dup, o_pop, o_dup2, o_if, o_icmp, o_switch, o_sw, o_get, o_put, o_iald, o_iast, o_zald, o_zast, o_aald, o_aast, o_len, ob_s, ob_n, o_call, o_max, o_min, o_copy, o_obj, o_lpush, o_ladd, o_lcmp, o_iret, o_lret, o_vret, i1_c, l1_c, r1_c, st_g0, st_g1, st_g2, st_g3, st_g4, st_g5, st_g6, st_g7, st_g8, st_g9, st_s0, st_s1, st_s2, st_s3, st_s4, st_s5, st_s6, st_s7, st_s8, st_s9, List.length_cons, List.length_nil, List.take_succ_cons, List.take_zero, List.drop_succ_cons, List.drop_zero, List.reverse_cons, List.reverse_nil, List.nil_append, List.cons_append, List.all_cons, List.all_nil, ms_nl, Bool.and_true, Nat.reduceLeDiff, Nat.reduceAdd, Nat.reduceLT, Nat.reduceEqDiff, if_true, if_false, true_and, and_true, ms_rt, List.cons.injEq, exists_eq_left, exists_eq_right, exists_and_left, exists_and_right, ms_one, ite_true, ite_false, reduceIte, imp_self, Nat.zero_add, Nat.add_zero, zero_le_any, Nat.le_refl, Int.zero_add, true_or, or_true, false_implies, Int.reduceLE, Int.reduceLT, Int.reduceNeg, Int.reduceAdd, Int.reduceSub, Int.reduceMul, Int.reduceEq, not_true, not_false_iff, and_self, implies_true, false_and, and_false, or_false, false_or, bX0_drawFrom_0, bX0_drawFrom_1, bX0_drawFrom_2, bX0_drawFrom_3, bX0_drawFrom_4, bX0_drawFrom_5, bX0_drawFrom_6, bX0_drawFrom_7, bX0_drawFrom_100, lX0_drawFrom_0, lX0_drawFrom_1, lX0_drawFrom_2, lX0_drawFrom_3, lX0_drawFrom_4, lX0_drawFrom_5, lX0_drawFrom_6, lX0_drawFrom_7, lX0_drawFrom_100, qX0_drawFrom, sh_b, et, et2, et3, hR, tok hv.1, tok0 hv.1]
        refine ⟨fun h1 => by omega, fun h1 => ⟨rg_of (by omega) (by omega), rg_of (by omega) (by omega), rg_of (by omega) (by omega), by omega, by omega, rg_of (by omega) (by omega), rg_of (by omega) (by omega), rg_of (by omega) (by omega), by omega, by omega, rg_of (by omega) (by omega), rg_of (by omega) (by omega), ?_⟩⟩
        rw [show d + (k + 1) + 1 = d + k + 2 by omega, ← hlen]
        refine ih d (x :: p) g _ hf (by rw [List.length_cons]; omega) hgx hn (fun f hf2 he => ?_)
        simp only [sq_c, jp_s, jp_c, rc_0, rc_s, ms_ex, o_iload, o_aload, o_istore, o_astore, o_iinc, o_bin, o_div, o_rem, o_neg, o_and, o_shl, o_shr, o_dup, o_pop, o_dup2, o_if, o_icmp, o_switch, o_sw, o_get, o_put, o_iald, o_iast, o_zald, o_zast, o_aald, o_aast, o_len, ob_s, ob_n, o_call, o_max, o_min, o_copy, o_obj, o_lpush, o_ladd, o_lcmp, o_iret, o_lret, o_vret, i1_c, l1_c, r1_c, st_g0, st_g1, st_g2, st_g3, st_g4, st_g5, st_g6, st_g7, st_g8, st_g9, st_s0, st_s1, st_s2, st_s3, st_s4, st_s5, st_s6, st_s7, st_s8, st_s9, List.length_cons, List.length_nil, List.take_succ_cons, List.take_zero, List.drop_succ_cons, List.drop_zero, List.reverse_cons, List.reverse_nil, List.nil_append, List.cons_append, List.all_cons, List.all_nil, ms_nl, Bool.and_true, Nat.reduceLeDiff, Nat.reduceAdd, Nat.reduceLT, Nat.reduceEqDiff, if_true, if_false, true_and, and_true, ms_rt, List.cons.injEq, exists_eq_left, exists_eq_right, exists_and_left, exists_and_right, ms_one, ite_true, ite_false, reduceIte, imp_self, Nat.zero_add, Nat.add_zero, zero_le_any, Nat.le_refl, Int.zero_add, true_or, or_true, false_implies, Int.reduceLE, Int.reduceLT, Int.reduceNeg, Int.reduceAdd, Int.reduceSub, Int.reduceMul, Int.reduceEq, not_true, not_false_iff, and_self, implies_true, false_and, and_false, or_false, false_or, bX0_drawFrom_0, bX0_drawFrom_1, bX0_drawFrom_2, bX0_drawFrom_3, bX0_drawFrom_4, bX0_drawFrom_5, bX0_drawFrom_6, bX0_drawFrom_7, bX0_drawFrom_100, lX0_drawFrom_0, lX0_drawFrom_1, lX0_drawFrom_2, lX0_drawFrom_3, lX0_drawFrom_4, lX0_drawFrom_5, lX0_drawFrom_6, lX0_drawFrom_7, lX0_drawFrom_100, qX0_drawFrom, sh_b]
        refine ⟨rg_of (by omega) (by omega), ?_⟩
        have hn2 : f 20 1 = (drw (cJ t h) k (rd g) (x :: p)).1 := by rw [← he]; rfl
        rw [show d + k + 2 = d + (k + 1) + 1 by omega]
        refine ihn d p f Q (x + 1) a b hf2 hp hg (by omega) (by omega) ?_ (fun f2 hf3 he2 => q f2 hf3 (by rw [he2, he]; rfl))
        rw [hn2]
        have e : lnn (x :: p) + 1 = lnn p * 10 + (x + 1) := by show lnn p * 10 + x + 1 = _; omega
        rw [e] at hb2
        exact hb2
    intro d p g Q hf hp hg hn q
    have et := hf.1 t (by omega)
    have hbp := gd_b hg
    have h3 : (0 : Int) ≤ 10 ^ k := Int.pow_nonneg (by decide)
    have e1 : lnn p * 10 ^ (k + 1) = lnn p * 10 * 10 ^ k := by rw [Int.pow_succ, Int.mul_comm (10 ^ k) 10, ← Int.mul_assoc]
    have h4 : lnn p * 10 * 10 ^ k ≤ (lnn p * 10 + dn p) * 10 ^ k := Int.mul_le_mul_of_nonneg_right (by omega) h3
    have K := fun a b => key (mo p - dn p + 1).toNat d p g Q (dn p) a b hf hp hg hbp.1.1 (by omega) (by rw [e1] at hn; omega) q
    refine ok_in (k := 30) MX0_drawFrom rfl rfl ?_
    show sq (ms_Ok ms_P (d + (k + 1) + 1)) ms_X1 MX0_drawFrom Q 30 (M_bl MX0_drawFrom 0) [mR 20, mR t, mI p.length, mI (lnn p), mI (hil (h (t + 2)) p), mI (sea (h (t + 3)) p), mL 0, mL 0, mL 0, mL 0] [] (SH, 0, 0) g
    simp only [sq_c, jp_s, jp_c, rc_0, rc_s, ms_ex, o_iload, o_aload, o_istore, o_astore, o_iinc, o_bin, o_div, o_rem, o_neg, o_and, o_shl, o_shr, o_dup, o_pop, o_dup2, o_if, o_icmp, o_switch, o_sw, o_get, o_put, o_iald, o_iast, o_zald, o_zast, o_aald, o_aast, o_len, ob_s, ob_n, o_call, o_max, o_min, o_copy, o_obj, o_lpush, o_ladd, o_lcmp, o_iret, o_lret, o_vret, i1_c, l1_c, r1_c, st_g0, st_g1, st_g2, st_g3, st_g4, st_g5, st_g6, st_g7, st_g8, st_g9, st_s0, st_s1, st_s2, st_s3, st_s4, st_s5, st_s6, st_s7, st_s8, st_s9, List.length_cons, List.length_nil, List.take_succ_cons, List.take_zero, List.drop_succ_cons, List.drop_zero, List.reverse_cons, List.reverse_nil, List.nil_append, List.cons_append, List.all_cons, List.all_nil, ms_nl, Bool.and_true, Nat.reduceLeDiff, Nat.reduceAdd, Nat.reduceLT, Nat.reduceEqDiff, if_true, if_false, true_and, and_true, ms_rt, List.cons.injEq, exists_eq_left, exists_eq_right, exists_and_left, exists_and_right, ms_one, ite_true, ite_false, reduceIte, imp_self, Nat.zero_add, Nat.add_zero, zero_le_any, Nat.le_refl, Int.zero_add, true_or, or_true, false_implies, Int.reduceLE, Int.reduceLT, Int.reduceNeg, Int.reduceAdd, Int.reduceSub, Int.reduceMul, Int.reduceEq, not_true, not_false_iff, and_self, implies_true, false_and, and_false, or_false, false_or, bX0_drawFrom_0, bX0_drawFrom_1, bX0_drawFrom_2, bX0_drawFrom_3, bX0_drawFrom_4, bX0_drawFrom_5, bX0_drawFrom_6, bX0_drawFrom_7, bX0_drawFrom_100, lX0_drawFrom_0, lX0_drawFrom_1, lX0_drawFrom_2, lX0_drawFrom_3, lX0_drawFrom_4, lX0_drawFrom_5, lX0_drawFrom_6, lX0_drawFrom_7, lX0_drawFrom_100, qX0_drawFrom, sh_b, et, hR, tok hv.1, tok0 hv.1]
    refine ⟨fun h1 => by omega, fun h1 => ⟨fun h2 => ⟨fun h5 => ?_, fun h5 => ⟨fun h6 => absurd h5 h6, fun _ => ?_⟩⟩, fun h2 => by omega⟩⟩
    · cases p with
      | nil => exact absurd rfl h5
      | cons y p =>
        have hy := hg.1
        have em : (lnn (y :: p)).tmod 10 = y := lnn_m hg (by rw [List.length_cons] at hp; omega)
        rw [em]
        have ed : max (y - 1) 0 = dn (y :: p) := by
          rw [mx0]
          show _ = if 0 < y then y - 1 else 0
          split <;> split <;> omega
        have eo : min (y + 1) 8 = mo (y :: p) := by
          rw [mn0]
          show _ = if 8 ≤ y then 8 else y + 1
          split <;> split <;> omega
        rw [ed, eo]
        exact ⟨rg_of (by omega) (by omega), fun _ => ⟨rg_of (by omega) (by omega), K _ _⟩, fun h6 => absurd h6 h5⟩
    · cases p with
      | nil => exact K _ _
      | cons y p => exact absurd h5 (by rw [List.length_cons]; omega)
