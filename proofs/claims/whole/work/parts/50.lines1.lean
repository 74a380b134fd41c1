/-! All lines in their order: a line is a list, its last column first. -/
def dn : List Int → Int
  | [] => 0
  | y :: _ => if 0 < y then y - 1 else 0
def mo : List Int → Int
  | [] => 8
  | y :: _ => if 8 ≤ y then 8 else y + 1
def fil : Nat → List Int → List Int
  | 0, p => p
  | k + 1, p => fil k (dn p :: p)
def nx : Nat → List Int → Option (List Int)
  | _, [] => none
  | k, x :: p => if x < mo p then some (fil k ((x + 1) :: p)) else nx (k + 1) p
def gd : List Int → Prop
  | [] => True
  | x :: p => (0 ≤ x ∧ x ≤ 8) ∧ gd p
theorem gd_b {p : List Int} (h : gd p) : (0 ≤ dn p ∧ dn p ≤ 8) ∧ (0 ≤ mo p ∧ mo p ≤ 8) ∧ dn p ≤ mo p := by
  cases p with
  | nil => exact ⟨by decide, by decide, by decide⟩
  | cons y p =>
    have := h.1
    show (0 ≤ (if 0 < y then y - 1 else 0) ∧ (if 0 < y then y - 1 else 0) ≤ 8) ∧ (0 ≤ (if 8 ≤ y then 8 else y + 1) ∧ (if 8 ≤ y then 8 else y + 1) ≤ 8) ∧ (if 0 < y then y - 1 else 0) ≤ (if 8 ≤ y then 8 else y + 1)
    split <;> split <;> omega
theorem fil_gd : ∀ (k : Nat) (p : List Int), gd p → gd (fil k p)
  | 0, _, h => h
  | k + 1, p, h => fil_gd k (dn p :: p) ⟨(gd_b h).1, h⟩
theorem fil_ln : ∀ (k : Nat) (p : List Int), (fil k p).length = k + p.length
  | 0, _ => by rw [Nat.zero_add]; rfl
  | k + 1, p => by
    have := fil_ln k (dn p :: p)
    rw [List.length_cons] at this
    show (fil k (dn p :: p)).length = _
    omega
theorem nx_gd : ∀ (p : List Int) (k : Nat) (p' : List Int), gd p → nx k p = some p' → gd p' ∧ p'.length = k + p.length
  | [], _, _, _, h => by cases h
  | x :: p, k, p', hg, h => by
    rw [nx] at h
    have hb := gd_b hg.2
    have hx := hg.1
    by_cases h1 : x < mo p
    · rw [if_pos h1] at h
      cases h
      exact ⟨fil_gd k _ ⟨⟨by omega, by omega⟩, hg.2⟩, by rw [fil_ln]; rfl⟩
    · rw [if_neg h1] at h
      have := nx_gd p (k + 1) p' hg.2 h
      refine ⟨this.1, ?_⟩
      rw [this.2, List.length_cons]
      omega
def lpf {S : Type} (f : S → Int → S) : S → Int → Nat → S
  | s, _, 0 => s
  | s, x, n + 1 => lpf f (f s x) (x + 1) n
def drw {S : Type} (J : S → List Int → S) : Nat → S → List Int → S
  | 0, s, p => J s p
  | k + 1, s, p => lpf (fun s x => drw J k s (x :: p)) s (dn p) (mo p - dn p + 1).toNat
theorem drw_ok {S : Type} {J : S → List Int → S} {P : List Int → S → Prop} {R : S → Prop} (h1 : ∀ p s, nx 0 p = none → R (J s p) → P p s) (h2 : ∀ p p' s, nx 0 p = some p' → P p' (J s p) → P p s) : ∀ (k : Nat) (p : List Int) (s : S), gd p → ((nx k p = none → R (drw J k s p)) ∧ ∀ p', nx k p = some p' → P p' (drw J k s p)) → P (fil k p) s := by
  intro k
  induction k with
  | zero =>
    intro p s _ hc
    show P p s
    cases e : nx 0 p with
    | none => exact h1 p s e (hc.1 e)
    | some p' => exact h2 p p' s e (hc.2 p' e)
  | succ k ih =>
    have key : ∀ (n : Nat) (p : List Int) (s : S) (x : Int), gd p → 0 ≤ x → x + n = mo p → ((nx (k + 1) p = none → R (lpf (fun s x => drw J k s (x :: p)) s x (n + 1))) ∧ ∀ p', nx (k + 1) p = some p' → P p' (lpf (fun s x => drw J k s (x :: p)) s x (n + 1))) → P (fil k (x :: p)) s := by
      intro n
      induction n with
      | zero =>
        intro p s x hg h0 hx hc
        have hb := gd_b hg
        refine ih (x :: p) s ⟨⟨h0, by omega⟩, hg⟩ ?_
        have e : nx k (x :: p) = nx (k + 1) p := by rw [nx, if_neg (by omega)]
        rw [e]
        exact hc
      | succ n ihn =>
        intro p s x hg h0 hx hc
        have hb := gd_b hg
        refine ih (x :: p) s ⟨⟨h0, by omega⟩, hg⟩ ?_
        have e : nx k (x :: p) = some (fil k ((x + 1) :: p)) := by rw [nx, if_pos (by omega)]
        rw [e]
        refine And.intro (fun h => absurd h (fun w => by cases w)) (fun p' h => ?_)
        cases h
        exact ihn p _ (x + 1) hg (by omega) (by omega) hc
    intro p s hg hc
    have hb := gd_b hg
    refine key (mo p - dn p).toNat p s (dn p) hg hb.1.1 (by omega) ?_
    have e : (mo p - dn p).toNat + 1 = (mo p - dn p + 1).toNat := by omega
    rw [e]
    exact hc
theorem drw_all {S : Type} {J : S → List Int → S} {P : List Int → S → Prop} {R : S → Prop} (h1 : ∀ p s, nx 0 p = none → R (J s p) → P p s) (h2 : ∀ p p' s, nx 0 p = some p' → P p' (J s p) → P p s) (k : Nat) (s : S) (r : R (drw J k s [])) : P (fil k []) s := drw_ok h1 h2 k [] s trivial ⟨fun _ => r, fun p' h => by rw [nx] at h; cases h⟩
def lnn : List Int → Int
  | [] => 0
  | x :: p => lnn p * 10 + x
def hil (w : Int → Int) : List Int → Int
  | [] => 0
  | x :: p => hil w p + w p.length * (8 - x)
def sea (w : Int → Int) : List Int → Int
  | [] => 0
  | x :: p => sea w p + w p.length * x
abbrev S4 : Type := Int × Int × Int × Int
def lss (hw sw : Int → Int) (p : List Int) : Int := if hil hw p < sea sw p then hil hw p else sea sw p
def J4 (A B : Int) (hw sw : Int → Int) (s : S4) (p : List Int) : S4 := (if A ≤ 2 * hil hw p ∧ B ≤ 2 * sea sw p then s.1 + 1 else s.1, if (A ≤ 2 * hil hw p ∧ B ≤ 2 * sea sw p) ∧ s.1 = 0 then lnn p else s.2.1, if s.2.2.1 < lss hw sw p then lss hw sw p else s.2.2.1, if s.2.2.1 < lss hw sw p then lnn p else s.2.2.2)
theorem gd_nn : ∀ (p : List Int), gd p → p.length ≤ 8 → 0 ≤ lnn p ∧ lnn p ≤ 10 ^ p.length - 1
  | [], _, _ => by decide
  | x :: p, h, hl => by
    rw [List.length_cons] at hl
    have := gd_nn p h.2 (by omega)
    have h1 := h.1
    rw [lnn, List.length_cons, Int.pow_succ]
    omega
theorem gd_hil {w : Int → Int} {N : Int} (hw : ∀ i, 0 ≤ i → i < N → 0 ≤ w i ∧ w i ≤ 9) : ∀ (p : List Int), gd p → (p.length : Int) ≤ N → (0 ≤ hil w p ∧ hil w p ≤ 72 * p.length) ∧ (0 ≤ sea w p ∧ sea w p ≤ 72 * p.length)
  | [], _, _ => ⟨⟨Int.le_refl 0, Int.le_refl 0⟩, ⟨Int.le_refl 0, Int.le_refl 0⟩⟩
  | x :: p, h, hl => by
    rw [List.length_cons] at hl
    have := gd_hil hw p h.2 (by omega)
    have h1 := h.1
    have h2 := hw p.length (by omega) (by omega)
    have h3 : 0 ≤ w p.length * (8 - x) := Int.mul_nonneg (by omega) (by omega)
    have h4 : w p.length * (8 - x) ≤ 9 * 8 := Int.mul_le_mul (by omega) (by omega) (by omega) (by omega)
    have h5 : 0 ≤ w p.length * x := Int.mul_nonneg (by omega) (by omega)
    have h6 : w p.length * x ≤ 9 * 8 := Int.mul_le_mul (by omega) (by omega) (by omega) (by omega)
    rw [hil, sea, List.length_cons]
    omega
def LN (g : Int → Int) : List Int → Prop
  | [] => True
  | x :: p => g p.length = x ∧ LN g p
theorem LN_c {g g' : Int → Int} : ∀ (p : List Int), (∀ i : Int, 0 ≤ i → i < p.length → g i = g' i) → LN g p → LN g' p
  | [], _, _ => trivial
  | x :: p, hg, h => ⟨by rw [← hg p.length (by omega) (by rw [List.length_cons]; omega)]; exact h.1, LN_c p (fun i h0 h1 => hg i h0 (by rw [List.length_cons]; omega)) h.2⟩
def lnS (g : Int → Int) : Nat → Int
  | 0 => 0
  | n + 1 => 10 * lnS g n + g n
theorem LN_ln {g : Int → Int} : ∀ (p : List Int), LN g p → lnS g p.length = lnn p
  | [], _ => rfl
  | x :: p, h => by
    show 10 * lnS g p.length + g p.length = lnn p * 10 + x
    rw [LN_ln p h.2, h.1, Int.mul_comm]
theorem LN_hil {g w : Int → Int} : ∀ (p : List Int), LN g p → sm (fun c => (8 - g c) * w c) p.length = hil w p
  | [], _ => rfl
  | x :: p, h => by
    show sm (fun c => (8 - g c) * w c) p.length + (8 - g p.length) * w p.length = hil w p + w p.length * (8 - x)
    rw [LN_hil p h.2, h.1, Int.mul_comm]
theorem LN_sea {g w : Int → Int} : ∀ (p : List Int), LN g p → sm (fun c => g c * w c) p.length = sea w p
  | [], _ => rfl
  | x :: p, h => by
    show sm (fun c => g c * w c) p.length + g p.length * w p.length = sea w p + w p.length * x
    rw [LN_sea p h.2, h.1, Int.mul_comm x]
theorem LN_b {g : Int → Int} : ∀ (p : List Int), gd p → LN g p → ∀ i : Int, 0 ≤ i → i < p.length → 0 ≤ g i ∧ g i ≤ 8
  | [], _, _, i, h0, h1 => by
    rw [List.length_nil] at h1
    omega
  | x :: p, h, hl, i, h0, h1 => by
    rw [List.length_cons] at h1
    by_cases e : i = p.length
    · rw [e, hl.1]; exact h.1
    · exact LN_b p h.2 hl.2 i h0 (by omega)
theorem lnS_b {g : Int → Int} : ∀ (n : Nat), n ≤ 8 → (∀ i : Int, 0 ≤ i → i < n → 0 ≤ g i ∧ g i ≤ 8) → 0 ≤ lnS g n ∧ lnS g n ≤ 10 ^ n - 1
  | 0, _, _ => ⟨Int.le_refl 0, Int.le_refl 0⟩
  | n + 1, hn, h => by
    have := lnS_b n (by omega) (fun i h0 h1 => h i h0 (by omega))
    have h1 := h n (by omega) (by omega)
    rw [lnS, Int.pow_succ]
    omega
theorem p10_8 {n : Nat} (h : n ≤ 7) : (10 : Int) ^ n ≤ 10000000 := by
  have : n = 0 ∨ n = 1 ∨ n = 2 ∨ n = 3 ∨ n = 4 ∨ n = 5 ∨ n = 6 ∨ n = 7 := by omega
  rcases this with rfl | rfl | rfl | rfl | rfl | rfl | rfl | rfl <;> decide
/-! The model: its loops over a line. -/
theorem m_firstLine_lp {d : Nat} {h : ms_H} {Q : ms_Q} (hR : RM h) (q : ∀ h' : ms_H, (∀ z, z ≠ 54 → h' z = h z) → (∀ i, 0 ≤ i → i < 8 → h' 54 i = 0) → Q none SH h') : ∀ (j : Nat) (c : Int) (g : ms_H), c + j = 8 → 0 ≤ c → (∀ z, z ≠ 54 → g z = h z) → (∀ i, 0 ≤ i → i < c → g 54 i = 0) → ms_at (ms_Ok ms_P (d)) ms_X1 MX5_firstLine Q 100 [mR 38, mI c] [] (SH, 0, 0) (g) := by
  unfold RM at hR
  intro j
  induction j with
  | zero =>
    intro c g hc h0 hg hz
    have : c = 8 := by omega
    subst this
    have e := hg 38 (by decide)
    refine sq_at (ms_Ok_m ms_P _) 30 100 ?_
    simp only [sq_c, jp_s, jp_c, rc_0, rc_s, ms_ex, o_iload, o_aload, o_istore, o_astore, o_iinc, o_bin, o_div, o_rem, o_neg, o_and, o_shl, o_shr, o_dup, o_pop, o_dup2, o_if, o_icmp, o_switch, o_sw, o_get, o_put, o_iald, o_iast, o_zald, o_zast, o_aald, o_aast, o_len, ob_s, ob_n, o_call, o_max, o_min, o_copy, o_obj, o_lpush, o_ladd, o_lcmp, o_iret, o_lret, o_vret, i1_c, l1_c, r1_c, st_g0, st_g1, st_g2, st_g3, st_g4, st_g5, st_g6, st_g7, st_g8, st_g9, st_s0, st_s1, st_s2, st_s3, st_s4, st_s5, st_s6, st_s7, st_s8, st_s9, List.length_cons, List.length_nil, List.take_succ_cons, List.take_zero, List.drop_succ_cons, List.drop_zero, List.reverse_cons, List.reverse_nil, List.nil_append, List.cons_append, List.all_cons, List.all_nil, ms_nl, Bool.and_true, Nat.reduceLeDiff, Nat.reduceAdd, Nat.reduceLT, Nat.reduceEqDiff, if_true, if_false, true_and, and_true, ms_rt, List.cons.injEq, exists_eq_left, exists_eq_right, exists_and_left, exists_and_right, ms_one, ite_true, ite_false, reduceIte, imp_self, Nat.zero_add, Nat.add_zero, zero_le_any, Nat.le_refl, Int.zero_add, true_or, or_true, false_implies, Int.reduceLE, Int.reduceLT, Int.reduceNeg, Int.reduceAdd, Int.reduceSub, Int.reduceMul, Int.reduceEq, not_true, not_false_iff, and_self, implies_true, false_and, and_false, or_false, false_or, bX5_firstLine_0, bX5_firstLine_1, bX5_firstLine_100, lX5_firstLine_0, lX5_firstLine_1, lX5_firstLine_100, qX5_firstLine, sh_b, e, hR]
    exact q g hg hz
  | succ j ih =>
    intro c g hc h0 hg hz
    have e := hg 38 (by decide)
    refine sq_at (ms_Ok_m ms_P _) 30 100 ?_
    simp only [sq_c, jp_s, jp_c, rc_0, rc_s, ms_ex, o_iload, o_aload, o_istore, o_astore, o_iinc, o_bin, o_div, o_rem, o_neg, o_and, o_shl, o_shr, o_dup, o_pop, o_dup2, o_if, o_icmp, o_switch, o_sw, o_get, o_put, o_iald, o_iast, o_zald, o_zast, o_aald, o_aast, o_len, ob_s, ob_n, o_call, o_max, o_min, o_copy, o_obj, o_lpush, o_ladd, o_lcmp, o_iret, o_lret, o_vret, i1_c, l1_c, r1_c, st_g0, st_g1, st_g2, st_g3, st_g4, st_g5, st_g6, st_g7, st_g8, st_g9, st_s0, st_s1, st_s2, st_s3, st_s4, st_s5, st_s6, st_s7, st_s8, st_s9, List.length_cons, List.length_nil, List.take_succ_cons, List.take_zero, List.drop_succ_cons, List.drop_zero, List.reverse_cons, List.reverse_nil, List.nil_append, List.cons_append, List.all_cons, List.all_nil, ms_nl, Bool.and_true, Nat.reduceLeDiff, Nat.reduceAdd, Nat.reduceLT, Nat.reduceEqDiff, if_true, if_false, true_and, and_true, ms_rt, List.cons.injEq, exists_eq_left, exists_eq_right, exists_and_left, exists_and_right, ms_one, ite_true, ite_false, reduceIte, imp_self, Nat.zero_add, Nat.add_zero, zero_le_any, Nat.le_refl, Int.zero_add, true_or, or_true, false_implies, Int.reduceLE, Int.reduceLT, Int.reduceNeg, Int.reduceAdd, Int.reduceSub, Int.reduceMul, Int.reduceEq, not_true, not_false_iff, and_self, implies_true, false_and, and_false, or_false, false_or, bX5_firstLine_0, bX5_firstLine_1, bX5_firstLine_100, lX5_firstLine_0, lX5_firstLine_1, lX5_firstLine_100, qX5_firstLine, sh_b, e, hR, ar_54]
    refine ⟨fun h1 => by omega, fun h1 => ⟨by omega, by omega, rg_of (by omega) (by omega), ?_⟩⟩
    refine ih (c + 1) _ (by omega) (by omega) (fun z hz => ?_) (fun i h0 h1 => ?_)
    · rw [← hg z hz]
      funext b
      rw [hs_v, if_neg (by omega)]
    · rw [hs_v]
      split
      · rfl
      · exact hz i h0 (by omega)
theorem m_firstLine {d : Nat} {h : ms_H} {Q : ms_Q} (hR : RM h) (q : ∀ h' : ms_H, (∀ z, z ≠ 54 → h' z = h z) → (∀ i, 0 ≤ i → i < 8 → h' 54 i = 0) → Q none SH h') : ms_Ok ms_P (d + 1) 136 [mR 38] SH (h) Q := by
  refine ok_in (k := 30) MX5_firstLine rfl rfl ?_
  show sq (ms_Ok ms_P (d)) ms_X1 MX5_firstLine Q 30 (M_bl MX5_firstLine 0) [mR 38, mL 0] [] (SH, 0, 0) (h)
  simp only [sq_c, jp_s, jp_c, rc_0, rc_s, ms_ex, o_iload, o_aload, o_istore, o_astore, o_iinc, o_bin, o_div, o_rem, o_neg, o_and, o_shl, o_shr, o_dup, o_pop, o_dup2, o_if, o_icmp, o_switch, o_sw, o_get, o_put, o_iald, o_iast, o_zald, o_zast, o_aald, o_aast, o_len, ob_s, ob_n, o_call, o_max, o_min, o_copy, o_obj, o_lpush, o_ladd, o_lcmp, o_iret, o_lret, o_vret, i1_c, l1_c, r1_c, st_g0, st_g1, st_g2, st_g3, st_g4, st_g5, st_g6, st_g7, st_g8, st_g9, st_s0, st_s1, st_s2, st_s3, st_s4, st_s5, st_s6, st_s7, st_s8, st_s9, List.length_cons, List.length_nil, List.take_succ_cons, List.take_zero, List.drop_succ_cons, List.drop_zero, List.reverse_cons, List.reverse_nil, List.nil_append, List.cons_append, List.all_cons, List.all_nil, ms_nl, Bool.and_true, Nat.reduceLeDiff, Nat.reduceAdd, Nat.reduceLT, Nat.reduceEqDiff, if_true, if_false, true_and, and_true, ms_rt, List.cons.injEq, exists_eq_left, exists_eq_right, exists_and_left, exists_and_right, ms_one, ite_true, ite_false, reduceIte, imp_self, Nat.zero_add, Nat.add_zero, zero_le_any, Nat.le_refl, Int.zero_add, true_or, or_true, false_implies, Int.reduceLE, Int.reduceLT, Int.reduceNeg, Int.reduceAdd, Int.reduceSub, Int.reduceMul, Int.reduceEq, not_true, not_false_iff, and_self, implies_true, false_and, and_false, or_false, false_or, bX5_firstLine_0, bX5_firstLine_1, bX5_firstLine_100, lX5_firstLine_0, lX5_firstLine_1, lX5_firstLine_100, qX5_firstLine, sh_b]
  exact m_firstLine_lp hR q 8 0 h (by omega) (by omega) (fun _ _ => rfl) (fun i h0 h1 => by omega)
theorem m_lineNumber_lp {d : Nat} {h : ms_H} {Q : ms_Q} (hv : MV h) (hl : ∀ i : Int, 0 ≤ i → i < h 38 0 → 0 ≤ h 54 i ∧ h 54 i ≤ 8) (q : Q (some (mI (lnS (h 54) (h 38 0).toNat))) SH h) : ∀ (j k : Nat), k + j = (h 38 0).toNat → ms_at (ms_Ok ms_P (d)) ms_X1 MX5_lineNumber Q 100 [mR 38, mI (lnS (h 54) k), mI k] [] (SH, 0, 0) (h) := by
  have hb := hv.2.1.1
  have hR := hv.1
  unfold RM at hR
  intro j
  induction j with
  | zero =>
    intro k hk
    refine sq_at (ms_Ok_m ms_P _) 30 100 ?_
    simp only [sq_c, jp_s, jp_c, rc_0, rc_s, ms_ex, o_iload, o_aload, o_istore, o_astore, o_iinc, o_bin, o_div, o_rem, o_neg, o_and, o_shl, o_shr, o_dup, o_pop, o_dup2, o_if, o_icmp, o_switch, o_sw, o_get, o_put, o_iald, o_iast, o_zald, o_zast, o_aald, o_aast, o_len, ob_s, ob_n, o_call, o_max, o_min, o_copy, o_obj, o_lpush, o_ladd, o_lcmp, o_iret, o_lret, o_vret, i1_c, l1_c, r1_c, st_g0, st_g1, st_g2, st_g3, st_g4, st_g5, st_g6, st_g7, st_g8, st_g9, st_s0, st_s1, st_s2, st_s3, st_s4, st_s5, st_s6, st_s7, st_s8, st_s9, List.length_cons, List.length_nil, List.take_succ_cons, List.take_zero, List.drop_succ_cons, List.drop_zero, List.reverse_cons, List.reverse_nil, List.nil_append, List.cons_append, List.all_cons, List.all_nil, ms_nl, Bool.and_true, Nat.reduceLeDiff, Nat.reduceAdd, Nat.reduceLT, Nat.reduceEqDiff, if_true, if_false, true_and, and_true, ms_rt, List.cons.injEq, exists_eq_left, exists_eq_right, exists_and_left, exists_and_right, ms_one, ite_true, ite_false, reduceIte, imp_self, Nat.zero_add, Nat.add_zero, zero_le_any, Nat.le_refl, Int.zero_add, true_or, or_true, false_implies, Int.reduceLE, Int.reduceLT, Int.reduceNeg, Int.reduceAdd, Int.reduceSub, Int.reduceMul, Int.reduceEq, not_true, not_false_iff, and_self, implies_true, false_and, and_false, or_false, false_or, bX5_lineNumber_0, bX5_lineNumber_1, bX5_lineNumber_100, lX5_lineNumber_0, lX5_lineNumber_1, lX5_lineNumber_100, qX5_lineNumber, sh_b, hR, ar_54]
    refine ⟨fun _ => ?_, fun h1 => by omega⟩
    rw [show k = (h 38 0).toNat by omega]
    exact q
  | succ j ih =>
    intro k hk
    have ih' := ih (k + 1) (by omega)
    have hsb := lnS_b k (by omega) (fun i h0 h1 => hl i h0 (by omega))
    have hp := p10_8 (n := k) (by omega)
    have hk2 := hl k (by omega) (by omega)
    refine sq_at (ms_Ok_m ms_P _) 30 100 ?_
    simp only [sq_c, jp_s, jp_c, rc_0, rc_s, ms_ex, o_iload, o_aload, o_istore, o_astore, o_iinc, o_bin, o_div, o_rem, o_neg, o_and, o_shl, o_shr, o_dup, o_pop, o_dup2, o_if, o_icmp, o_switch, o_sw, o_get, o_put, o_iald, o_iast, o_zald, o_zast, o_aald, o_aast, o_len, ob_s, ob_n, o_call, o_max, o_min, o_copy, o_obj, o_lpush, o_ladd, o_lcmp, o_iret, o_lret, o_vret, i1_c, l1_c, r1_c, st_g0, st_g1, st_g2, st_g3, st_g4, st_g5, st_g6, st_g7, st_g8, st_g9, st_s0, st_s1, st_s2, st_s3, st_s4, st_s5, st_s6, st_s7, st_s8, st_s9, List.length_cons, List.length_nil, List.take_succ_cons, List.take_zero, List.drop_succ_cons, List.drop_zero, List.reverse_cons, List.reverse_nil, List.nil_append, List.cons_append, List.all_cons, List.all_nil, ms_nl, Bool.and_true, Nat.reduceLeDiff, Nat.reduceAdd, Nat.reduceLT, Nat.reduceEqDiff, if_true, if_false, true_and, and_true, ms_rt, List.cons.injEq, exists_eq_left, exists_eq_right, exists_and_left, exists_and_right, ms_one, ite_true, ite_false, reduceIte, imp_self, Nat.zero_add, Nat.add_zero, zero_le_any, Nat.le_refl, Int.zero_add, true_or, or_true, false_implies, Int.reduceLE, Int.reduceLT, Int.reduceNeg, Int.reduceAdd, Int.reduceSub, Int.reduceMul, Int.reduceEq, not_true, not_false_iff, and_self, implies_true, false_and, and_false, or_false, false_or, bX5_lineNumber_0, bX5_lineNumber_1, bX5_lineNumber_100, lX5_lineNumber_0, lX5_lineNumber_1, lX5_lineNumber_100, qX5_lineNumber, sh_b, hR, ar_54]
    exact ⟨fun h1 => by omega, fun h1 => ⟨rg_of (by omega) (by omega), by omega, by omega, rg_of (by omega) (by omega), rg_of (by omega) (by omega), ih'⟩⟩
theorem m_lineNumber {d : Nat} {h : ms_H} {Q : ms_Q} (hv : MV h) (hl : ∀ i : Int, 0 ≤ i → i < h 38 0 → 0 ≤ h 54 i ∧ h 54 i ≤ 8) (q : Q (some (mI (lnS (h 54) (h 38 0).toNat))) SH h) : ms_Ok ms_P (d + 1) 138 [mR 38] SH (h) Q := by
  refine ok_in (k := 30) MX5_lineNumber rfl rfl ?_
  show sq (ms_Ok ms_P (d)) ms_X1 MX5_lineNumber Q 30 (M_bl MX5_lineNumber 0) [mR 38, mL 0, mL 0] [] (SH, 0, 0) (h)
  have hb := hv.2.1.1
  simp only [sq_c, jp_s, jp_c, rc_0, rc_s, ms_ex, o_iload, o_aload, o_istore, o_astore, o_iinc, o_bin, o_div, o_rem, o_neg, o_and, o_shl, o_shr, o_dup, o_pop, o_dup2, o_if, o_icmp, o_switch, o_sw, o_get, o_put, o_iald, o_iast, o_zald, o_zast, o_aald, o_aast, o_len, ob_s, ob_n, o_call, o_max, o_min, o_copy, o_obj, o_lpush, o_ladd, o_lcmp, o_iret, o_lret, o_vret, i1_c, l1_c, r1_c, st_g0, st_g1, st_g2, st_g3, st_g4, st_g5, st_g6, st_g7, st_g8, st_g9, st_s0, st_s1, st_s2, st_s3, st_s4, st_s5, st_s6, st_s7, st_s8, st_s9, List.length_cons, List.length_nil, List.take_succ_cons, List.take_zero, List.drop_succ_cons, List.drop_zero, List.reverse_cons, List.reverse_nil, List.nil_append, List.cons_append, List.all_cons, List.all_nil, ms_nl, Bool.and_true, Nat.reduceLeDiff, Nat.reduceAdd, Nat.reduceLT, Nat.reduceEqDiff, if_true, if_false, true_and, and_true, ms_rt, List.cons.injEq, exists_eq_left, exists_eq_right, exists_and_left, exists_and_right, ms_one, ite_true, ite_false, reduceIte, imp_self, Nat.zero_add, Nat.add_zero, zero_le_any, Nat.le_refl, Int.zero_add, true_or, or_true, false_implies, Int.reduceLE, Int.reduceLT, Int.reduceNeg, Int.reduceAdd, Int.reduceSub, Int.reduceMul, Int.reduceEq, not_true, not_false_iff, and_self, implies_true, false_and, and_false, or_false, false_or, bX5_lineNumber_0, bX5_lineNumber_1, bX5_lineNumber_100, lX5_lineNumber_0, lX5_lineNumber_1, lX5_lineNumber_100, qX5_lineNumber, sh_b]
  exact m_lineNumber_lp hv hl q (h 38 0).toNat 0 (by omega)
theorem m_hasHill_lp {d : Nat} {h : ms_H} {Q : ms_Q} (hv : MV h) (hl : ∀ i : Int, 0 ≤ i → i < h 38 0 → 0 ≤ h 54 i ∧ h 54 i ≤ 8) (q : Q (some (mI (sm (fun c => (8 - h 54 c) * h 41 c) (h 38 0).toNat))) SH h) : ∀ (j k : Nat), k + j = (h 38 0).toNat → ms_at (ms_Ok ms_P (d)) ms_X1 MX5_hasHill Q 100 [mR 38, mI (sm (fun c => (8 - h 54 c) * h 41 c) k), mI k] [] (SH, 0, 0) (h) := by
  have hb := hv.2.1.1
  have hA := hv.2.2.2.1
  have hR := hv.1
  unfold RM at hR
  have hm : ∀ i : Int, 0 ≤ i → i < h 38 0 → 0 ≤ (8 - h 54 i) * h 41 i ∧ (8 - h 54 i) * h 41 i ≤ 72 := fun i h0 h1 => by
    have a := hl i h0 h1
    have b := hA i h0 h1
    exact ⟨Int.mul_nonneg (by omega) (by omega), Int.le_trans (Int.mul_le_mul (show 8 - h 54 i ≤ 8 by omega) (show h 41 i ≤ 9 by omega) (by omega) (by omega)) (by omega)⟩
  intro j
  induction j with
  | zero =>
    intro k hk
    refine sq_at (ms_Ok_m ms_P _) 30 100 ?_
    simp only [sq_c, jp_s, jp_c, rc_0, rc_s, ms_ex, o_iload, o_aload, o_istore, o_astore, o_iinc, o_bin, o_div, o_rem, o_neg, o_and, o_shl, o_shr, o_dup, o_pop, o_dup2, o_if, o_icmp, o_switch, o_sw, o_get, o_put, o_iald, o_iast, o_zald, o_zast, o_aald, o_aast, o_len, ob_s, ob_n, o_call, o_max, o_min, o_copy, o_obj, o_lpush, o_ladd, o_lcmp, o_iret, o_lret, o_vret, i1_c, l1_c, r1_c, st_g0, st_g1, st_g2, st_g3, st_g4, st_g5, st_g6, st_g7, st_g8, st_g9, st_s0, st_s1, st_s2, st_s3, st_s4, st_s5, st_s6, st_s7, st_s8, st_s9, List.length_cons, List.length_nil, List.take_succ_cons, List.take_zero, List.drop_succ_cons, List.drop_zero, List.reverse_cons, List.reverse_nil, List.nil_append, List.cons_append, List.all_cons, List.all_nil, ms_nl, Bool.and_true, Nat.reduceLeDiff, Nat.reduceAdd, Nat.reduceLT, Nat.reduceEqDiff, if_true, if_false, true_and, and_true, ms_rt, List.cons.injEq, exists_eq_left, exists_eq_right, exists_and_left, exists_and_right, ms_one, ite_true, ite_false, reduceIte, imp_self, Nat.zero_add, Nat.add_zero, zero_le_any, Nat.le_refl, Int.zero_add, true_or, or_true, false_implies, Int.reduceLE, Int.reduceLT, Int.reduceNeg, Int.reduceAdd, Int.reduceSub, Int.reduceMul, Int.reduceEq, not_true, not_false_iff, and_self, implies_true, false_and, and_false, or_false, false_or, bX5_hasHill_0, bX5_hasHill_1, bX5_hasHill_100, lX5_hasHill_0, lX5_hasHill_1, lX5_hasHill_100, qX5_hasHill, sh_b, hR, ar_54, ar_41]
    refine ⟨fun _ => ?_, fun h1 => by omega⟩
    rw [show k = (h 38 0).toNat by omega]
    exact q
  | succ j ih =>
    intro k hk
    have ih' := ih (k + 1) (by omega)
    have hsb := sm_b (g := fun c => (8 - h 54 c) * h 41 c) (lo := 0) (hi := 72) k (fun i h0 h1 => hm i h0 (by omega))
    have hk1 := hm k (by omega) (by omega)
    have hk2 := hl k (by omega) (by omega)
    refine sq_at (ms_Ok_m ms_P _) 30 100 ?_
    simp only [sq_c, jp_s, jp_c, rc_0, rc_s, ms_ex, o_iload, o_aload, o_istore, o_astore, o_iinc, o_bin, o_div, o_rem, o_neg, o_and, o_shl, o_shr, o_dup, o_pop, o_dup2, o_if, o_icmp, o_switch, o_sw, o_get, o_put, o_iald, o_iast, o_zald, o_zast, o_aald, o_aast, o_len, ob_s, ob_n, o_call, o_max, o_min, o_copy, o_obj, o_lpush, o_ladd, o_lcmp, o_iret, o_lret, o_vret, i1_c, l1_c, r1_c, st_g0, st_g1, st_g2, st_g3, st_g4, st_g5, st_g6, st_g7, st_g8, st_g9, st_s0, st_s1, st_s2, st_s3, st_s4, st_s5, st_s6, st_s7, st_s8, st_s9, List.length_cons, List.length_nil, List.take_succ_cons, List.take_zero, List.drop_succ_cons, List.drop_zero, List.reverse_cons, List.reverse_nil, List.nil_append, List.cons_append, List.all_cons, List.all_nil, ms_nl, Bool.and_true, Nat.reduceLeDiff, Nat.reduceAdd, Nat.reduceLT, Nat.reduceEqDiff, if_true, if_false, true_and, and_true, ms_rt, List.cons.injEq, exists_eq_left, exists_eq_right, exists_and_left, exists_and_right, ms_one, ite_true, ite_false, reduceIte, imp_self, Nat.zero_add, Nat.add_zero, zero_le_any, Nat.le_refl, Int.zero_add, true_or, or_true, false_implies, Int.reduceLE, Int.reduceLT, Int.reduceNeg, Int.reduceAdd, Int.reduceSub, Int.reduceMul, Int.reduceEq, not_true, not_false_iff, and_self, implies_true, false_and, and_false, or_false, false_or, bX5_hasHill_0, bX5_hasHill_1, bX5_hasHill_100, lX5_hasHill_0, lX5_hasHill_1, lX5_hasHill_100, qX5_hasHill, sh_b, hR, ar_54, ar_41]
    exact ⟨fun h1 => by omega, fun h1 => ⟨by omega, by omega, rg_of (by omega) (by omega), by omega, by omega, rg_of (by omega) (by omega), rg_of (by omega) (by omega), rg_of (by omega) (by omega), ih'⟩⟩
theorem m_hasHill {d : Nat} {h : ms_H} {Q : ms_Q} (hv : MV h) (hl : ∀ i : Int, 0 ≤ i → i < h 38 0 → 0 ≤ h 54 i ∧ h 54 i ≤ 8) (q : Q (some (mI (sm (fun c => (8 - h 54 c) * h 41 c) (h 38 0).toNat))) SH h) : ms_Ok ms_P (d + 1) 139 [mR 38] SH (h) Q := by
  refine ok_in (k := 30) MX5_hasHill rfl rfl ?_
  show sq (ms_Ok ms_P (d)) ms_X1 MX5_hasHill Q 30 (M_bl MX5_hasHill 0) [mR 38, mL 0, mL 0] [] (SH, 0, 0) (h)
  have hb := hv.2.1.1
  simp only [sq_c, jp_s, jp_c, rc_0, rc_s, ms_ex, o_iload, o_aload, o_istore, o_astore, o_iinc, o_bin, o_div, o_rem, o_neg, o_and, o_shl, o_shr, o_dup, o_pop, o_dup2, o_if, o_icmp, o_switch, o_sw, o_get, o_put, o_iald, o_iast, o_zald, o_zast, o_aald, o_aast, o_len, ob_s, ob_n, o_call, o_max, o_min, o_copy, o_obj, o_lpush, o_ladd, o_lcmp, o_iret, o_lret, o_vret, i1_c, l1_c, r1_c, st_g0, st_g1, st_g2, st_g3, st_g4, st_g5, st_g6, st_g7, st_g8, st_g9, st_s0, st_s1, st_s2, st_s3, st_s4, st_s5, st_s6, st_s7, st_s8, st_s9, List.length_cons, List.length_nil, List.take_succ_cons, List.take_zero, List.drop_succ_cons, List.drop_zero, List.reverse_cons, List.reverse_nil, List.nil_append, List.cons_append, List.all_cons, List.all_nil, ms_nl, Bool.and_true, Nat.reduceLeDiff, Nat.reduceAdd, Nat.reduceLT, Nat.reduceEqDiff, if_true, if_false, true_and, and_true, ms_rt, List.cons.injEq, exists_eq_left, exists_eq_right, exists_and_left, exists_and_right, ms_one, ite_true, ite_false, reduceIte, imp_self, Nat.zero_add, Nat.add_zero, zero_le_any, Nat.le_refl, Int.zero_add, true_or, or_true, false_implies, Int.reduceLE, Int.reduceLT, Int.reduceNeg, Int.reduceAdd, Int.reduceSub, Int.reduceMul, Int.reduceEq, not_true, not_false_iff, and_self, implies_true, false_and, and_false, or_false, false_or, bX5_hasHill_0, bX5_hasHill_1, bX5_hasHill_100, lX5_hasHill_0, lX5_hasHill_1, lX5_hasHill_100, qX5_hasHill, sh_b]
  exact m_hasHill_lp hv hl q (h 38 0).toNat 0 (by omega)
theorem m_hasSea_lp {d : Nat} {h : ms_H} {Q : ms_Q} (hv : MV h) (hl : ∀ i : Int, 0 ≤ i → i < h 38 0 → 0 ≤ h 54 i ∧ h 54 i ≤ 8) (q : Q (some (mI (sm (fun c => h 54 c * h 42 c) (h 38 0).toNat))) SH h) : ∀ (j k : Nat), k + j = (h 38 0).toNat → ms_at (ms_Ok ms_P (d)) ms_X1 MX5_hasSea Q 100 [mR 38, mI (sm (fun c => h 54 c * h 42 c) k), mI k] [] (SH, 0, 0) (h) := by
  have hb := hv.2.1.1
  have hA := hv.2.2.2.1
  have hR := hv.1
  unfold RM at hR
  have hm : ∀ i : Int, 0 ≤ i → i < h 38 0 → 0 ≤ h 54 i * h 42 i ∧ h 54 i * h 42 i ≤ 72 := fun i h0 h1 => by
    have a := hl i h0 h1
    have b := hA i h0 h1
    exact ⟨Int.mul_nonneg (by omega) (by omega), Int.le_trans (Int.mul_le_mul (show h 54 i ≤ 8 by omega) (show h 42 i ≤ 9 by omega) (by omega) (by omega)) (by omega)⟩
  intro j
  induction j with
  | zero =>
    intro k hk
    refine sq_at (ms_Ok_m ms_P _) 30 100 ?_
    simp only [sq_c, jp_s, jp_c, rc_0, rc_s, ms_ex, o_iload, o_aload, o_istore, o_astore, o_iinc, o_bin, o_div, o_rem, o_neg, o_and, o_shl, o_shr, o_dup, o_pop, o_dup2, o_if, o_icmp, o_switch, o_sw, o_get, o_put, o_iald, o_iast, o_zald, o_zast, o_aald, o_aast, o_len, ob_s, ob_n, o_call, o_max, o_min, o_copy, o_obj, o_lpush, o_ladd, o_lcmp, o_iret, o_lret, o_vret, i1_c, l1_c, r1_c, st_g0, st_g1, st_g2, st_g3, st_g4, st_g5, st_g6, st_g7, st_g8, st_g9, st_s0, st_s1, st_s2, st_s3, st_s4, st_s5, st_s6, st_s7, st_s8, st_s9, List.length_cons, List.length_nil, List.take_succ_cons, List.take_zero, List.drop_succ_cons, List.drop_zero, List.reverse_cons, List.reverse_nil, List.nil_append, List.cons_append, List.all_cons, List.all_nil, ms_nl, Bool.and_true, Nat.reduceLeDiff, Nat.reduceAdd, Nat.reduceLT, Nat.reduceEqDiff, if_true, if_false, true_and, and_true, ms_rt, List.cons.injEq, exists_eq_left, exists_eq_right, exists_and_left, exists_and_right, ms_one, ite_true, ite_false, reduceIte, imp_self, Nat.zero_add, Nat.add_zero, zero_le_any, Nat.le_refl, Int.zero_add, true_or, or_true, false_implies, Int.reduceLE, Int.reduceLT, Int.reduceNeg, Int.reduceAdd, Int.reduceSub, Int.reduceMul, Int.reduceEq, not_true, not_false_iff, and_self, implies_true, false_and, and_false, or_false, false_or, bX5_hasSea_0, bX5_hasSea_1, bX5_hasSea_100, lX5_hasSea_0, lX5_hasSea_1, lX5_hasSea_100, qX5_hasSea, sh_b, hR, ar_54, ar_42]
    refine ⟨fun _ => ?_, fun h1 => by omega⟩
    rw [show k = (h 38 0).toNat by omega]
    exact q
  | succ j ih =>
    intro k hk
    have ih' := ih (k + 1) (by omega)
    have hsb := sm_b (g := fun c => h 54 c * h 42 c) (lo := 0) (hi := 72) k (fun i h0 h1 => hm i h0 (by omega))
    have hk1 := hm k (by omega) (by omega)
    refine sq_at (ms_Ok_m ms_P _) 30 100 ?_
    simp only [sq_c, jp_s, jp_c, rc_0, rc_s, ms_ex, o_iload, o_aload, o_istore, o_astore, o_iinc, o_bin, o_div, o_rem, o_neg, o_and, o_shl, o_shr, o_dup, o_pop, o_dup2, o_if, o_icmp, o_switch, o_sw, o_get, o_put, o_iald, o_iast, o_zald, o_zast, o_aald, o_aast, o_len, ob_s, ob_n, o_call, o_max, o_min, o_copy, o_obj, o_lpush, o_ladd, o_lcmp, o_iret, o_lret, o_vret, i1_c, l1_c, r1_c, st_g0, st_g1, st_g2, st_g3, st_g4, st_g5, st_g6, st_g7, st_g8, st_g9, st_s0, st_s1, st_s2, st_s3, st_s4, st_s5, st_s6, st_s7, st_s8, st_s9, List.length_cons, List.length_nil, List.take_succ_cons, List.take_zero, List.drop_succ_cons, List.drop_zero, List.reverse_cons, List.reverse_nil, List.nil_append, List.cons_append, List.all_cons, List.all_nil, ms_nl, Bool.and_true, Nat.reduceLeDiff, Nat.reduceAdd, Nat.reduceLT, Nat.reduceEqDiff, if_true, if_false, true_and, and_true, ms_rt, List.cons.injEq, exists_eq_left, exists_eq_right, exists_and_left, exists_and_right, ms_one, ite_true, ite_false, reduceIte, imp_self, Nat.zero_add, Nat.add_zero, zero_le_any, Nat.le_refl, Int.zero_add, true_or, or_true, false_implies, Int.reduceLE, Int.reduceLT, Int.reduceNeg, Int.reduceAdd, Int.reduceSub, Int.reduceMul, Int.reduceEq, not_true, not_false_iff, and_self, implies_true, false_and, and_false, or_false, false_or, bX5_hasSea_0, bX5_hasSea_1, bX5_hasSea_100, lX5_hasSea_0, lX5_hasSea_1, lX5_hasSea_100, qX5_hasSea, sh_b, hR, ar_54, ar_42]
    exact ⟨fun h1 => by omega, fun h1 => ⟨by omega, by omega, by omega, by omega, rg_of (by omega) (by omega), rg_of (by omega) (by omega), rg_of (by omega) (by omega), ih'⟩⟩
theorem m_hasSea {d : Nat} {h : ms_H} {Q : ms_Q} (hv : MV h) (hl : ∀ i : Int, 0 ≤ i → i < h 38 0 → 0 ≤ h 54 i ∧ h 54 i ≤ 8) (q : Q (some (mI (sm (fun c => h 54 c * h 42 c) (h 38 0).toNat))) SH h) : ms_Ok ms_P (d + 1) 140 [mR 38] SH (h) Q := by
  refine ok_in (k := 30) MX5_hasSea rfl rfl ?_
  show sq (ms_Ok ms_P (d)) ms_X1 MX5_hasSea Q 30 (M_bl MX5_hasSea 0) [mR 38, mL 0, mL 0] [] (SH, 0, 0) (h)
  have hb := hv.2.1.1
  simp only [sq_c, jp_s, jp_c, rc_0, rc_s, ms_ex, o_iload, o_aload, o_istore, o_astore, o_iinc, o_bin, o_div, o_rem, o_neg, o_and, o_shl, o_shr, o_dup, o_pop, o_dup2, o_if, o_icmp, o_switch, o_sw, o_get, o_put, o_iald, o_iast, o_zald, o_zast, o_aald, o_aast, o_len, ob_s, ob_n, o_call, o_max, o_min, o_copy, o_obj, o_lpush, o_ladd, o_lcmp, o_iret, o_lret, o_vret, i1_c, l1_c, r1_c, st_g0, st_g1, st_g2, st_g3, st_g4, st_g5, st_g6, st_g7, st_g8, st_g9, st_s0, st_s1, st_s2, st_s3, st_s4, st_s5, st_s6, st_s7, st_s8, st_s9, List.length_cons, List.length_nil, List.take_succ_cons, List.take_zero, List.drop_succ_cons, List.drop_zero, List.reverse_cons, List.reverse_nil, List.nil_append, List.cons_append, List.all_cons, List.all_nil, ms_nl, Bool.and_true, Nat.reduceLeDiff, Nat.reduceAdd, Nat.reduceLT, Nat.reduceEqDiff, if_true, if_false, true_and, and_true, ms_rt, List.cons.injEq, exists_eq_left, exists_eq_right, exists_and_left, exists_and_right, ms_one, ite_true, ite_false, reduceIte, imp_self, Nat.zero_add, Nat.add_zero, zero_le_any, Nat.le_refl, Int.zero_add, true_or, or_true, false_implies, Int.reduceLE, Int.reduceLT, Int.reduceNeg, Int.reduceAdd, Int.reduceSub, Int.reduceMul, Int.reduceEq, not_true, not_false_iff, and_self, implies_true, false_and, and_false, or_false, false_or, bX5_hasSea_0, bX5_hasSea_1, bX5_hasSea_100, lX5_hasSea_0, lX5_hasSea_1, lX5_hasSea_100, qX5_hasSea, sh_b]
  exact m_hasSea_lp hv hl q (h 38 0).toNat 0 (by omega)
theorem m_allOf_lp {d : Nat} {h : ms_H} {Q : ms_Q} {z : Int} (hb : 0 ≤ h 38 0 ∧ h 38 0 ≤ 8) (har : ∀ i k, ms_ar SH z 10 i k = (0 ≤ i ∧ i < 8 ∧ k)) (hw : ∀ i, 0 ≤ i → i < h 38 0 → 0 ≤ h z i ∧ h z i ≤ 9) (q : Q (some (mI (sm (fun c => 8 * h z c) (h 38 0).toNat))) SH h) : ∀ (j k : Nat), k + j = (h 38 0).toNat → ms_at (ms_Ok ms_P (d)) ms_X1 MX5_allOf Q 100 [mR 38, mR z, mI (sm (fun c => 8 * h z c) k), mI k] [] (SH, 0, 0) (h) := by
  intro j
  induction j with
  | zero =>
    intro k hk
    refine sq_at (ms_Ok_m ms_P _) 30 100 ?_
    simp only [sq_c, jp_s, jp_c, rc_0, rc_s, ms_ex, o_iload, o_aload, o_istore, o_astore, o_iinc, o_bin, o_div, o_rem, o_neg, o_and, o_shl, o_shr, o_dup, o_pop, o_dup2, o_if, o_icmp, o_switch, o_sw, o_get, o_put, o_iald, o_iast, o_zald, o_zast, o_aald, o_aast, o_len, ob_s, ob_n, o_call, o_max, o_min, o_copy, o_obj, o_lpush, o_ladd, o_lcmp, o_iret, o_lret, o_vret, i1_c, l1_c, r1_c, st_g0, st_g1, st_g2, st_g3, st_g4, st_g5, st_g6, st_g7, st_g8, st_g9, st_s0, st_s1, st_s2, st_s3, st_s4, st_s5, st_s6, st_s7, st_s8, st_s9, List.length_cons, List.length_nil, List.take_succ_cons, List.take_zero, List.drop_succ_cons, List.drop_zero, List.reverse_cons, List.reverse_nil, List.nil_append, List.cons_append, List.all_cons, List.all_nil, ms_nl, Bool.and_true, Nat.reduceLeDiff, Nat.reduceAdd, Nat.reduceLT, Nat.reduceEqDiff, if_true, if_false, true_and, and_true, ms_rt, List.cons.injEq, exists_eq_left, exists_eq_right, exists_and_left, exists_and_right, ms_one, ite_true, ite_false, reduceIte, imp_self, Nat.zero_add, Nat.add_zero, zero_le_any, Nat.le_refl, Int.zero_add, true_or, or_true, false_implies, Int.reduceLE, Int.reduceLT, Int.reduceNeg, Int.reduceAdd, Int.reduceSub, Int.reduceMul, Int.reduceEq, not_true, not_false_iff, and_self, implies_true, false_and, and_false, or_false, false_or, bX5_allOf_0, bX5_allOf_1, bX5_allOf_100, lX5_allOf_0, lX5_allOf_1, lX5_allOf_100, qX5_allOf, sh_b, har]
    refine ⟨fun _ => ?_, fun h1 => by omega⟩
    rw [show k = (h 38 0).toNat by omega]
    exact q
  | succ j ih =>
    intro k hk
    have ih' := ih (k + 1) (by omega)
    have hsb := sm_b (g := fun c => 8 * h z c) (lo := 0) (hi := 72) k (fun i h0 h1 => by have := hw i h0 (by omega); omega)
    have hk1 := hw k (by omega) (by omega)
    refine sq_at (ms_Ok_m ms_P _) 30 100 ?_
    simp only [sq_c, jp_s, jp_c, rc_0, rc_s, ms_ex, o_iload, o_aload, o_istore, o_astore, o_iinc, o_bin, o_div, o_rem, o_neg, o_and, o_shl, o_shr, o_dup, o_pop, o_dup2, o_if, o_icmp, o_switch, o_sw, o_get, o_put, o_iald, o_iast, o_zald, o_zast, o_aald, o_aast, o_len, ob_s, ob_n, o_call, o_max, o_min, o_copy, o_obj, o_lpush, o_ladd, o_lcmp, o_iret, o_lret, o_vret, i1_c, l1_c, r1_c, st_g0, st_g1, st_g2, st_g3, st_g4, st_g5, st_g6, st_g7, st_g8, st_g9, st_s0, st_s1, st_s2, st_s3, st_s4, st_s5, st_s6, st_s7, st_s8, st_s9, List.length_cons, List.length_nil, List.take_succ_cons, List.take_zero, List.drop_succ_cons, List.drop_zero, List.reverse_cons, List.reverse_nil, List.nil_append, List.cons_append, List.all_cons, List.all_nil, ms_nl, Bool.and_true, Nat.reduceLeDiff, Nat.reduceAdd, Nat.reduceLT, Nat.reduceEqDiff, if_true, if_false, true_and, and_true, ms_rt, List.cons.injEq, exists_eq_left, exists_eq_right, exists_and_left, exists_and_right, ms_one, ite_true, ite_false, reduceIte, imp_self, Nat.zero_add, Nat.add_zero, zero_le_any, Nat.le_refl, Int.zero_add, true_or, or_true, false_implies, Int.reduceLE, Int.reduceLT, Int.reduceNeg, Int.reduceAdd, Int.reduceSub, Int.reduceMul, Int.reduceEq, not_true, not_false_iff, and_self, implies_true, false_and, and_false, or_false, false_or, bX5_allOf_0, bX5_allOf_1, bX5_allOf_100, lX5_allOf_0, lX5_allOf_1, lX5_allOf_100, qX5_allOf, sh_b, har]
    exact ⟨fun h1 => by omega, fun h1 => ⟨by omega, by omega, rg_of (by omega) (by omega), rg_of (by omega) (by omega), rg_of (by omega) (by omega), ih'⟩⟩
theorem m_allOf {d : Nat} {h : ms_H} {Q : ms_Q} {z : Int} (hb : 0 ≤ h 38 0 ∧ h 38 0 ≤ 8) (har : ∀ i k, ms_ar SH z 10 i k = (0 ≤ i ∧ i < 8 ∧ k)) (hw : ∀ i, 0 ≤ i → i < h 38 0 → 0 ≤ h z i ∧ h z i ≤ 9) (q : Q (some (mI (sm (fun c => 8 * h z c) (h 38 0).toNat))) SH h) : ms_Ok ms_P (d + 1) 141 [mR 38, mR z] SH (h) Q := by
  refine ok_in (k := 30) MX5_allOf rfl rfl ?_
  show sq (ms_Ok ms_P (d)) ms_X1 MX5_allOf Q 30 (M_bl MX5_allOf 0) [mR 38, mR z, mL 0, mL 0] [] (SH, 0, 0) (h)
  simp only [sq_c, jp_s, jp_c, rc_0, rc_s, ms_ex, o_iload, o_aload, o_istore, o_astore, o_iinc, o_bin, o_div, o_rem, o_neg, o_and, o_shl, o_shr, o_dup, o_pop, o_dup2, o_if, o_icmp, o_switch, o_sw, o_get, o_put, o_iald, o_iast, o_zald, o_zast, o_aald, o_aast, o_len, ob_s, ob_n, o_call, o_max, o_min, o_copy, o_obj, o_lpush, o_ladd, o_lcmp, o_iret, o_lret, o_vret, i1_c, l1_c, r1_c, st_g0, st_g1, st_g2, st_g3, st_g4, st_g5, st_g6, st_g7, st_g8, st_g9, st_s0, st_s1, st_s2, st_s3, st_s4, st_s5, st_s6, st_s7, st_s8, st_s9, List.length_cons, List.length_nil, List.take_succ_cons, List.take_zero, List.drop_succ_cons, List.drop_zero, List.reverse_cons, List.reverse_nil, List.nil_append, List.cons_append, List.all_cons, List.all_nil, ms_nl, Bool.and_true, Nat.reduceLeDiff, Nat.reduceAdd, Nat.reduceLT, Nat.reduceEqDiff, if_true, if_false, true_and, and_true, ms_rt, List.cons.injEq, exists_eq_left, exists_eq_right, exists_and_left, exists_and_right, ms_one, ite_true, ite_false, reduceIte, imp_self, Nat.zero_add, Nat.add_zero, zero_le_any, Nat.le_refl, Int.zero_add, true_or, or_true, false_implies, Int.reduceLE, Int.reduceLT, Int.reduceNeg, Int.reduceAdd, Int.reduceSub, Int.reduceMul, Int.reduceEq, not_true, not_false_iff, and_self, implies_true, false_and, and_false, or_false, false_or, bX5_allOf_0, bX5_allOf_1, bX5_allOf_100, lX5_allOf_0, lX5_allOf_1, lX5_allOf_100, qX5_allOf, sh_b]
  exact m_allOf_lp hb har hw q (h 38 0).toNat 0 (by omega)
