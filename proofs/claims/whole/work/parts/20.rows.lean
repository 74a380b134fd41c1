/-! Walks over blocks: rows for simp (by program, wip/whole/rows.py). -/
def ms_at (O : ms_O) (X : ms_Z) (M : ms_M) (Q : ms_Q) (t : Nat) : ms_K := ms_WP O X M Q (M_bl M t)
def sq (O : ms_O) (X : ms_Z) (M : ms_M) (Q : ms_Q) (k : Nat) (B : ms_B) : ms_K := ms_seq O X M Q (ms_run O X M Q (ms_at O X M Q) k) B
def jp (O : ms_O) (X : ms_Z) (M : ms_M) (Q : ms_Q) (k t : Nat) : ms_K := ms_run O X M Q (ms_at O X M Q) k t
theorem sq_c (O : ms_O) (X : ms_Z) (M : ms_M) (Q : ms_Q) (k pc len : Nat) (raw : Instr) (x : ms_X) (rest : ms_B) (L st : List ms_V) (G : ms_G) (h : ms_H) : sq O X M Q k ((pc, raw, len, x) :: rest) L st G h = ms_ex O X (M_mc M) (M_ms M) Q (jp O X M Q k) (sq O X M Q k rest) raw x L st G h := rfl
theorem jp_c (O : ms_O) (X : ms_Z) (M : ms_M) (Q : ms_Q) (k t : Nat) (ht : 100 ≤ t) (L st : List ms_V) (G : ms_G) (h : ms_H) : jp O X M Q (k + 1) t L st G h = ms_at O X M Q t L st G h := by
  show (if 100 ≤ t then _ else _ : ms_K) L st G h = _
  rw [if_pos ht]
theorem jp_s (O : ms_O) (X : ms_Z) (M : ms_M) (Q : ms_Q) (k t : Nat) (ht : t < 100) (L st : List ms_V) (G : ms_G) (h : ms_H) : jp O X M Q (k + 1) t L st G h = sq O X M Q k (M_bl M t) L st G h := by
  show (if 100 ≤ t then _ else _ : ms_K) L st G h = _
  rw [if_neg (by omega)]
  rfl
theorem sq_at {O : ms_O} {X : ms_Z} {M : ms_M} {Q : ms_Q} (hO : ms_mono O) (k t : Nat) {L st : List ms_V} {G : ms_G} {h : ms_H} (q : sq O X M Q k (M_bl M t) L st G h) : ms_at O X M Q t L st G h := ms_go hO k t q
/-- into a method, within d frames -/
theorem ok_in {d y k : Nat} (M : ms_M) {args : List ms_V} {S : ms_S} {h : ms_H} {Q : ms_Q} (hy : ms_P[y]? = some M) (ha : args.length = M_na M) (q : sq (ms_Ok ms_P d) ms_X1 M Q k (M_bl M 0) (ms_pad (M_ml M) args) [] (S, 0, 0) h) : ms_Ok ms_P (d + 1) y args S h Q := ⟨M, hy, ha, ms_go (ms_Ok_m ms_P d) k 0 q⟩
theorem ok_at {d y : Nat} (M : ms_M) {args : List ms_V} {S : ms_S} {h : ms_H} {Q : ms_Q} (hy : ms_P[y]? = some M) (ha : args.length = M_na M) (q : ms_at (ms_Ok ms_P d) ms_X1 M Q 0 (ms_pad (M_ml M) args) [] (S, 0, 0) h) : ms_Ok ms_P (d + 1) y args S h Q := ⟨M, hy, ha, q⟩
theorem ob_s (kc ks : Nat) (K : ms_K) (L r : List ms_V) (G : ms_G) (v : ms_V) (S : ms_S) (h : ms_H) : o_back kc ks K L r G (some v) S h = K L (v :: r) (S, G.2.1 + kc, G.2.2 + ks) h := rfl
theorem ob_n (kc ks : Nat) (K : ms_K) (L r : List ms_V) (G : ms_G) (S : ms_S) (h : ms_H) : o_back kc ks K L r G none S h = K L r (S, G.2.1 + kc, G.2.2 + ks) h := rfl
theorem zero_le_any (n : Nat) : (0 ≤ n) = True := eq_true (Nat.zero_le n)
theorem ms_rt (c : Prop) : (True → c) = c := propext ⟨fun f => f trivial, fun h _ => h⟩
theorem ms_one (c : Prop) : ((1 : Nat) = 1 → c) = c := propext ⟨fun f => f rfl, fun h _ => h⟩
theorem st_g0 {α : Type} (a0 : α) (l : List α) : (a0 :: l)[0]? = some a0 := rfl
theorem st_s0 {α : Type} (a0 v : α) (l : List α) : (a0 :: l).set 0 v = v :: l := rfl
theorem st_g1 {α : Type} (a0 a1 : α) (l : List α) : (a0 :: a1 :: l)[1]? = some a1 := rfl
theorem st_s1 {α : Type} (a0 a1 v : α) (l : List α) : (a0 :: a1 :: l).set 1 v = a0 :: v :: l := rfl
theorem st_g2 {α : Type} (a0 a1 a2 : α) (l : List α) : (a0 :: a1 :: a2 :: l)[2]? = some a2 := rfl
theorem st_s2 {α : Type} (a0 a1 a2 v : α) (l : List α) : (a0 :: a1 :: a2 :: l).set 2 v = a0 :: a1 :: v :: l := rfl
theorem st_g3 {α : Type} (a0 a1 a2 a3 : α) (l : List α) : (a0 :: a1 :: a2 :: a3 :: l)[3]? = some a3 := rfl
theorem st_s3 {α : Type} (a0 a1 a2 a3 v : α) (l : List α) : (a0 :: a1 :: a2 :: a3 :: l).set 3 v = a0 :: a1 :: a2 :: v :: l := rfl
theorem st_g4 {α : Type} (a0 a1 a2 a3 a4 : α) (l : List α) : (a0 :: a1 :: a2 :: a3 :: a4 :: l)[4]? = some a4 := rfl
theorem st_s4 {α : Type} (a0 a1 a2 a3 a4 v : α) (l : List α) : (a0 :: a1 :: a2 :: a3 :: a4 :: l).set 4 v = a0 :: a1 :: a2 :: a3 :: v :: l := rfl
theorem st_g5 {α : Type} (a0 a1 a2 a3 a4 a5 : α) (l : List α) : (a0 :: a1 :: a2 :: a3 :: a4 :: a5 :: l)[5]? = some a5 := rfl
theorem st_s5 {α : Type} (a0 a1 a2 a3 a4 a5 v : α) (l : List α) : (a0 :: a1 :: a2 :: a3 :: a4 :: a5 :: l).set 5 v = a0 :: a1 :: a2 :: a3 :: a4 :: v :: l := rfl
theorem st_g6 {α : Type} (a0 a1 a2 a3 a4 a5 a6 : α) (l : List α) : (a0 :: a1 :: a2 :: a3 :: a4 :: a5 :: a6 :: l)[6]? = some a6 := rfl
theorem st_s6 {α : Type} (a0 a1 a2 a3 a4 a5 a6 v : α) (l : List α) : (a0 :: a1 :: a2 :: a3 :: a4 :: a5 :: a6 :: l).set 6 v = a0 :: a1 :: a2 :: a3 :: a4 :: a5 :: v :: l := rfl
theorem st_g7 {α : Type} (a0 a1 a2 a3 a4 a5 a6 a7 : α) (l : List α) : (a0 :: a1 :: a2 :: a3 :: a4 :: a5 :: a6 :: a7 :: l)[7]? = some a7 := rfl
theorem st_s7 {α : Type} (a0 a1 a2 a3 a4 a5 a6 a7 v : α) (l : List α) : (a0 :: a1 :: a2 :: a3 :: a4 :: a5 :: a6 :: a7 :: l).set 7 v = a0 :: a1 :: a2 :: a3 :: a4 :: a5 :: a6 :: v :: l := rfl
theorem st_g8 {α : Type} (a0 a1 a2 a3 a4 a5 a6 a7 a8 : α) (l : List α) : (a0 :: a1 :: a2 :: a3 :: a4 :: a5 :: a6 :: a7 :: a8 :: l)[8]? = some a8 := rfl
theorem st_s8 {α : Type} (a0 a1 a2 a3 a4 a5 a6 a7 a8 v : α) (l : List α) : (a0 :: a1 :: a2 :: a3 :: a4 :: a5 :: a6 :: a7 :: a8 :: l).set 8 v = a0 :: a1 :: a2 :: a3 :: a4 :: a5 :: a6 :: a7 :: v :: l := rfl
theorem st_g9 {α : Type} (a0 a1 a2 a3 a4 a5 a6 a7 a8 a9 : α) (l : List α) : (a0 :: a1 :: a2 :: a3 :: a4 :: a5 :: a6 :: a7 :: a8 :: a9 :: l)[9]? = some a9 := rfl
theorem st_s9 {α : Type} (a0 a1 a2 a3 a4 a5 a6 a7 a8 a9 v : α) (l : List α) : (a0 :: a1 :: a2 :: a3 :: a4 :: a5 :: a6 :: a7 :: a8 :: a9 :: l).set 9 v = a0 :: a1 :: a2 :: a3 :: a4 :: a5 :: a6 :: a7 :: a8 :: v :: l := rfl
theorem lX0_init_0 : M_bl MX0_init 0 = bX0_init_0 := rfl
theorem qX0_init : M_mc MX0_init = 0 ∧ M_ms MX0_init = 0 := ⟨rfl, rfl⟩
theorem lX0_judge_0 : M_bl MX0_judge 0 = bX0_judge_0 := rfl
theorem lX0_judge_1 : M_bl MX0_judge 1 = bX0_judge_1 := rfl
theorem lX0_judge_2 : M_bl MX0_judge 2 = bX0_judge_2 := rfl
theorem lX0_judge_100 : M_bl MX0_judge 100 = bX0_judge_100 := rfl
theorem qX0_judge : M_mc MX0_judge = 0 ∧ M_ms MX0_judge = 0 := ⟨rfl, rfl⟩
theorem lX0_drawFrom_0 : M_bl MX0_drawFrom 0 = bX0_drawFrom_0 := rfl
theorem lX0_drawFrom_1 : M_bl MX0_drawFrom 1 = bX0_drawFrom_1 := rfl
theorem lX0_drawFrom_2 : M_bl MX0_drawFrom 2 = bX0_drawFrom_2 := rfl
theorem lX0_drawFrom_3 : M_bl MX0_drawFrom 3 = bX0_drawFrom_3 := rfl
theorem lX0_drawFrom_4 : M_bl MX0_drawFrom 4 = bX0_drawFrom_4 := rfl
theorem lX0_drawFrom_5 : M_bl MX0_drawFrom 5 = bX0_drawFrom_5 := rfl
theorem lX0_drawFrom_6 : M_bl MX0_drawFrom 6 = bX0_drawFrom_6 := rfl
theorem lX0_drawFrom_7 : M_bl MX0_drawFrom 7 = bX0_drawFrom_7 := rfl
theorem lX0_drawFrom_100 : M_bl MX0_drawFrom 100 = bX0_drawFrom_100 := rfl
theorem qX0_drawFrom : M_mc MX0_drawFrom = 0 ∧ M_ms MX0_drawFrom = 0 := ⟨rfl, rfl⟩
theorem lX0_judgeOne_0 : M_bl MX0_judgeOne 0 = bX0_judgeOne_0 := rfl
theorem lX0_judgeOne_1 : M_bl MX0_judgeOne 1 = bX0_judgeOne_1 := rfl
theorem lX0_judgeOne_2 : M_bl MX0_judgeOne 2 = bX0_judgeOne_2 := rfl
theorem lX0_judgeOne_3 : M_bl MX0_judgeOne 3 = bX0_judgeOne_3 := rfl
theorem qX0_judgeOne : M_mc MX0_judgeOne = 0 ∧ M_ms MX0_judgeOne = 0 := ⟨rfl, rfl⟩
theorem lX1_init_0 : M_bl MX1_init 0 = bX1_init_0 := rfl
theorem qX1_init : M_mc MX1_init = 4 ∧ M_ms MX1_init = 38 := ⟨rfl, rfl⟩
theorem lX1_begin_0 : M_bl MX1_begin 0 = bX1_begin_0 := rfl
theorem lX1_begin_1 : M_bl MX1_begin 1 = bX1_begin_1 := rfl
theorem lX1_begin_100 : M_bl MX1_begin 100 = bX1_begin_100 := rfl
theorem qX1_begin : M_mc MX1_begin = 0 ∧ M_ms MX1_begin = 0 := ⟨rfl, rfl⟩
theorem lX1_become_0 : M_bl MX1_become 0 = bX1_become_0 := rfl
theorem qX1_become : M_mc MX1_become = 0 ∧ M_ms MX1_become = 0 := ⟨rfl, rfl⟩
theorem lX1_remember_0 : M_bl MX1_remember 0 = bX1_remember_0 := rfl
theorem lX1_remember_1 : M_bl MX1_remember 1 = bX1_remember_1 := rfl
theorem qX1_remember : M_mc MX1_remember = 0 ∧ M_ms MX1_remember = 0 := ⟨rfl, rfl⟩
theorem lX1_loseOldest_0 : M_bl MX1_loseOldest 0 = bX1_loseOldest_0 := rfl
theorem qX1_loseOldest : M_mc MX1_loseOldest = 0 ∧ M_ms MX1_loseOldest = 0 := ⟨rfl, rfl⟩
theorem lX1_takeBack_0 : M_bl MX1_takeBack 0 = bX1_takeBack_0 := rfl
theorem lX1_takeBack_1 : M_bl MX1_takeBack 1 = bX1_takeBack_1 := rfl
theorem lX1_takeBack_2 : M_bl MX1_takeBack 2 = bX1_takeBack_2 := rfl
theorem lX1_takeBack_3 : M_bl MX1_takeBack 3 = bX1_takeBack_3 := rfl
theorem lX1_takeBack_4 : M_bl MX1_takeBack 4 = bX1_takeBack_4 := rfl
theorem lX1_takeBack_5 : M_bl MX1_takeBack 5 = bX1_takeBack_5 := rfl
theorem qX1_takeBack : M_mc MX1_takeBack = 0 ∧ M_ms MX1_takeBack = 0 := ⟨rfl, rfl⟩
theorem lX1_standing_0 : M_bl MX1_standing 0 = bX1_standing_0 := rfl
theorem lX1_standing_1 : M_bl MX1_standing 1 = bX1_standing_1 := rfl
theorem lX1_standing_2 : M_bl MX1_standing 2 = bX1_standing_2 := rfl
theorem lX1_standing_100 : M_bl MX1_standing 100 = bX1_standing_100 := rfl
theorem qX1_standing : M_mc MX1_standing = 0 ∧ M_ms MX1_standing = 0 := ⟨rfl, rfl⟩
theorem lX2_init_0 : M_bl MX2_init 0 = bX2_init_0 := rfl
theorem qX2_init : M_mc MX2_init = 2 ∧ M_ms MX2_init = 143 := ⟨rfl, rfl⟩
theorem lX2_add_0 : M_bl MX2_add 0 = bX2_add_0 := rfl
theorem lX2_add_1 : M_bl MX2_add 1 = bX2_add_1 := rfl
theorem qX2_add : M_mc MX2_add = 0 ∧ M_ms MX2_add = 0 := ⟨rfl, rfl⟩
theorem lX2_tell_0 : M_bl MX2_tell 0 = bX2_tell_0 := rfl
theorem lX2_tell_1 : M_bl MX2_tell 1 = bX2_tell_1 := rfl
theorem lX2_tell_2 : M_bl MX2_tell 2 = bX2_tell_2 := rfl
theorem lX2_tell_3 : M_bl MX2_tell 3 = bX2_tell_3 := rfl
theorem lX2_tell_100 : M_bl MX2_tell 100 = bX2_tell_100 := rfl
theorem qX2_tell : M_mc MX2_tell = 0 ∧ M_ms MX2_tell = 0 := ⟨rfl, rfl⟩
theorem lX2_readItem_0 : M_bl MX2_readItem 0 = bX2_readItem_0 := rfl
theorem lX2_readItem_1 : M_bl MX2_readItem 1 = bX2_readItem_1 := rfl
theorem lX2_readItem_2 : M_bl MX2_readItem 2 = bX2_readItem_2 := rfl
theorem lX2_readItem_3 : M_bl MX2_readItem 3 = bX2_readItem_3 := rfl
theorem lX2_readItem_4 : M_bl MX2_readItem 4 = bX2_readItem_4 := rfl
theorem lX2_readItem_5 : M_bl MX2_readItem 5 = bX2_readItem_5 := rfl
theorem lX2_readItem_6 : M_bl MX2_readItem 6 = bX2_readItem_6 := rfl
theorem lX2_readItem_7 : M_bl MX2_readItem 7 = bX2_readItem_7 := rfl
theorem qX2_readItem : M_mc MX2_readItem = 0 ∧ M_ms MX2_readItem = 0 := ⟨rfl, rfl⟩
theorem lX2_readColumn_0 : M_bl MX2_readColumn 0 = bX2_readColumn_0 := rfl
theorem lX2_readColumn_1 : M_bl MX2_readColumn 1 = bX2_readColumn_1 := rfl
theorem lX2_readColumn_2 : M_bl MX2_readColumn 2 = bX2_readColumn_2 := rfl
theorem lX2_readColumn_3 : M_bl MX2_readColumn 3 = bX2_readColumn_3 := rfl
theorem qX2_readColumn : M_mc MX2_readColumn = 0 ∧ M_ms MX2_readColumn = 0 := ⟨rfl, rfl⟩
theorem lX2_readGap_0 : M_bl MX2_readGap 0 = bX2_readGap_0 := rfl
theorem lX2_readGap_1 : M_bl MX2_readGap 1 = bX2_readGap_1 := rfl
theorem lX2_readGap_2 : M_bl MX2_readGap 2 = bX2_readGap_2 := rfl
theorem qX2_readGap : M_mc MX2_readGap = 0 ∧ M_ms MX2_readGap = 0 := ⟨rfl, rfl⟩
theorem lX2_readHands_0 : M_bl MX2_readHands 0 = bX2_readHands_0 := rfl
theorem lX2_readHands_1 : M_bl MX2_readHands 1 = bX2_readHands_1 := rfl
theorem lX2_readHands_2 : M_bl MX2_readHands 2 = bX2_readHands_2 := rfl
theorem qX2_readHands : M_mc MX2_readHands = 0 ∧ M_ms MX2_readHands = 0 := ⟨rfl, rfl⟩
theorem lX2_readVoter_0 : M_bl MX2_readVoter 0 = bX2_readVoter_0 := rfl
theorem lX2_readVoter_1 : M_bl MX2_readVoter 1 = bX2_readVoter_1 := rfl
theorem lX2_readVoter_2 : M_bl MX2_readVoter 2 = bX2_readVoter_2 := rfl
theorem lX2_readVoter_3 : M_bl MX2_readVoter 3 = bX2_readVoter_3 := rfl
theorem qX2_readVoter : M_mc MX2_readVoter = 0 ∧ M_ms MX2_readVoter = 0 := ⟨rfl, rfl⟩
theorem lX2_readDay_0 : M_bl MX2_readDay 0 = bX2_readDay_0 := rfl
theorem lX2_readDay_1 : M_bl MX2_readDay 1 = bX2_readDay_1 := rfl
theorem lX2_readDay_2 : M_bl MX2_readDay 2 = bX2_readDay_2 := rfl
theorem qX2_readDay : M_mc MX2_readDay = 0 ∧ M_ms MX2_readDay = 0 := ⟨rfl, rfl⟩
theorem lX2_number_0 : M_bl MX2_number 0 = bX2_number_0 := rfl
theorem lX2_number_1 : M_bl MX2_number 1 = bX2_number_1 := rfl
theorem lX2_number_2 : M_bl MX2_number 2 = bX2_number_2 := rfl
theorem qX2_number : M_mc MX2_number = 0 ∧ M_ms MX2_number = 0 := ⟨rfl, rfl⟩
theorem lX2_ended_0 : M_bl MX2_ended 0 = bX2_ended_0 := rfl
theorem lX2_ended_1 : M_bl MX2_ended 1 = bX2_ended_1 := rfl
theorem lX2_ended_2 : M_bl MX2_ended 2 = bX2_ended_2 := rfl
theorem qX2_ended : M_mc MX2_ended = 0 ∧ M_ms MX2_ended = 0 := ⟨rfl, rfl⟩
theorem lX2_take_0 : M_bl MX2_take 0 = bX2_take_0 := rfl
theorem lX2_take_1 : M_bl MX2_take 1 = bX2_take_1 := rfl
theorem lX2_take_2 : M_bl MX2_take 2 = bX2_take_2 := rfl
theorem lX2_take_3 : M_bl MX2_take 3 = bX2_take_3 := rfl
theorem lX2_take_4 : M_bl MX2_take 4 = bX2_take_4 := rfl
theorem lX2_take_5 : M_bl MX2_take 5 = bX2_take_5 := rfl
theorem lX2_take_6 : M_bl MX2_take 6 = bX2_take_6 := rfl
theorem lX2_take_7 : M_bl MX2_take 7 = bX2_take_7 := rfl
theorem lX2_take_100 : M_bl MX2_take 100 = bX2_take_100 := rfl
theorem qX2_take : M_mc MX2_take = 0 ∧ M_ms MX2_take = 0 := ⟨rfl, rfl⟩
theorem lX2_takeLetters_0 : M_bl MX2_takeLetters 0 = bX2_takeLetters_0 := rfl
theorem lX2_takeLetters_1 : M_bl MX2_takeLetters 1 = bX2_takeLetters_1 := rfl
theorem lX2_takeLetters_2 : M_bl MX2_takeLetters 2 = bX2_takeLetters_2 := rfl
theorem lX2_takeLetters_100 : M_bl MX2_takeLetters 100 = bX2_takeLetters_100 := rfl
theorem qX2_takeLetters : M_mc MX2_takeLetters = 0 ∧ M_ms MX2_takeLetters = 0 := ⟨rfl, rfl⟩
theorem lX2_takeNumber_0 : M_bl MX2_takeNumber 0 = bX2_takeNumber_0 := rfl
theorem lX2_takeNumber_1 : M_bl MX2_takeNumber 1 = bX2_takeNumber_1 := rfl
theorem lX2_takeNumber_2 : M_bl MX2_takeNumber 2 = bX2_takeNumber_2 := rfl
theorem lX2_takeNumber_3 : M_bl MX2_takeNumber 3 = bX2_takeNumber_3 := rfl
theorem lX2_takeNumber_4 : M_bl MX2_takeNumber 4 = bX2_takeNumber_4 := rfl
theorem lX2_takeNumber_5 : M_bl MX2_takeNumber 5 = bX2_takeNumber_5 := rfl
theorem lX2_takeNumber_6 : M_bl MX2_takeNumber 6 = bX2_takeNumber_6 := rfl
theorem lX2_takeNumber_7 : M_bl MX2_takeNumber 7 = bX2_takeNumber_7 := rfl
theorem lX2_takeNumber_100 : M_bl MX2_takeNumber 100 = bX2_takeNumber_100 := rfl
theorem qX2_takeNumber : M_mc MX2_takeNumber = 0 ∧ M_ms MX2_takeNumber = 0 := ⟨rfl, rfl⟩
theorem lX3_init_0 : M_bl MX3_init 0 = bX3_init_0 := rfl
theorem qX3_init : M_mc MX3_init = 7 ∧ M_ms MX3_init = 46 := ⟨rfl, rfl⟩
theorem lX3_begin_0 : M_bl MX3_begin 0 = bX3_begin_0 := rfl
theorem qX3_begin : M_mc MX3_begin = 0 ∧ M_ms MX3_begin = 0 := ⟨rfl, rfl⟩
theorem lX3_addColumn_0 : M_bl MX3_addColumn 0 = bX3_addColumn_0 := rfl
theorem lX3_addColumn_1 : M_bl MX3_addColumn 1 = bX3_addColumn_1 := rfl
theorem qX3_addColumn : M_mc MX3_addColumn = 0 ∧ M_ms MX3_addColumn = 0 := ⟨rfl, rfl⟩
theorem lX3_addVoter_0 : M_bl MX3_addVoter 0 = bX3_addVoter_0 := rfl
theorem lX3_addVoter_1 : M_bl MX3_addVoter 1 = bX3_addVoter_1 := rfl
theorem qX3_addVoter : M_mc MX3_addVoter = 0 ∧ M_ms MX3_addVoter = 0 := ⟨rfl, rfl⟩
theorem lX3_addDay_0 : M_bl MX3_addDay 0 = bX3_addDay_0 := rfl
theorem lX3_addDay_1 : M_bl MX3_addDay 1 = bX3_addDay_1 := rfl
theorem qX3_addDay : M_mc MX3_addDay = 0 ∧ M_ms MX3_addDay = 0 := ⟨rfl, rfl⟩
theorem lX3_warmOn_0 : M_bl MX3_warmOn 0 = bX3_warmOn_0 := rfl
theorem lX3_warmOn_1 : M_bl MX3_warmOn 1 = bX3_warmOn_1 := rfl
theorem lX3_warmOn_2 : M_bl MX3_warmOn 2 = bX3_warmOn_2 := rfl
theorem qX3_warmOn : M_mc MX3_warmOn = 0 ∧ M_ms MX3_warmOn = 0 := ⟨rfl, rfl⟩
theorem lX3_snowLimit_0 : M_bl MX3_snowLimit 0 = bX3_snowLimit_0 := rfl
theorem qX3_snowLimit : M_mc MX3_snowLimit = 0 ∧ M_ms MX3_snowLimit = 0 := ⟨rfl, rfl⟩
theorem lX4_init_0 : M_bl MX4_init 0 = bX4_init_0 := rfl
theorem qX4_init : M_mc MX4_init = 37 ∧ M_ms MX4_init = 412 := ⟨rfl, rfl⟩
theorem lX4_type_0 : M_bl MX4_type 0 = bX4_type_0 := rfl
theorem lX4_type_1 : M_bl MX4_type 1 = bX4_type_1 := rfl
theorem lX4_type_2 : M_bl MX4_type 2 = bX4_type_2 := rfl
theorem lX4_type_3 : M_bl MX4_type 3 = bX4_type_3 := rfl
theorem qX4_type : M_mc MX4_type = 0 ∧ M_ms MX4_type = 0 := ⟨rfl, rfl⟩
theorem lX4_clear_0 : M_bl MX4_clear 0 = bX4_clear_0 := rfl
theorem qX4_clear : M_mc MX4_clear = 0 ∧ M_ms MX4_clear = 0 := ⟨rfl, rfl⟩
theorem lX4_wold_0 : M_bl MX4_wold 0 = bX4_wold_0 := rfl
theorem lX4_wold_1 : M_bl MX4_wold 1 = bX4_wold_1 := rfl
theorem lX4_wold_2 : M_bl MX4_wold 2 = bX4_wold_2 := rfl
theorem lX4_wold_100 : M_bl MX4_wold 100 = bX4_wold_100 := rfl
theorem qX4_wold : M_mc MX4_wold = 0 ∧ M_ms MX4_wold = 0 := ⟨rfl, rfl⟩
theorem lX4_column_0 : M_bl MX4_column 0 = bX4_column_0 := rfl
theorem lX4_column_1 : M_bl MX4_column 1 = bX4_column_1 := rfl
theorem lX4_column_2 : M_bl MX4_column 2 = bX4_column_2 := rfl
theorem lX4_column_3 : M_bl MX4_column 3 = bX4_column_3 := rfl
theorem lX4_column_4 : M_bl MX4_column 4 = bX4_column_4 := rfl
theorem lX4_column_5 : M_bl MX4_column 5 = bX4_column_5 := rfl
theorem lX4_column_6 : M_bl MX4_column 6 = bX4_column_6 := rfl
theorem lX4_column_7 : M_bl MX4_column 7 = bX4_column_7 := rfl
theorem lX4_column_8 : M_bl MX4_column 8 = bX4_column_8 := rfl
theorem lX4_column_9 : M_bl MX4_column 9 = bX4_column_9 := rfl
theorem lX4_column_10 : M_bl MX4_column 10 = bX4_column_10 := rfl
theorem lX4_column_11 : M_bl MX4_column 11 = bX4_column_11 := rfl
theorem lX4_column_12 : M_bl MX4_column 12 = bX4_column_12 := rfl
theorem qX4_column : M_mc MX4_column = 0 ∧ M_ms MX4_column = 0 := ⟨rfl, rfl⟩
theorem lX4_field_0 : M_bl MX4_field 0 = bX4_field_0 := rfl
theorem lX4_field_1 : M_bl MX4_field 1 = bX4_field_1 := rfl
theorem lX4_field_2 : M_bl MX4_field 2 = bX4_field_2 := rfl
theorem lX4_field_3 : M_bl MX4_field 3 = bX4_field_3 := rfl
theorem lX4_field_4 : M_bl MX4_field 4 = bX4_field_4 := rfl
theorem lX4_field_5 : M_bl MX4_field 5 = bX4_field_5 := rfl
theorem lX4_field_6 : M_bl MX4_field 6 = bX4_field_6 := rfl
theorem lX4_field_7 : M_bl MX4_field 7 = bX4_field_7 := rfl
theorem lX4_field_8 : M_bl MX4_field 8 = bX4_field_8 := rfl
theorem lX4_field_9 : M_bl MX4_field 9 = bX4_field_9 := rfl
theorem lX4_field_10 : M_bl MX4_field 10 = bX4_field_10 := rfl
theorem qX4_field : M_mc MX4_field = 0 ∧ M_ms MX4_field = 0 := ⟨rfl, rfl⟩
theorem lX4_voter_0 : M_bl MX4_voter 0 = bX4_voter_0 := rfl
theorem lX4_voter_1 : M_bl MX4_voter 1 = bX4_voter_1 := rfl
theorem lX4_voter_2 : M_bl MX4_voter 2 = bX4_voter_2 := rfl
theorem lX4_voter_3 : M_bl MX4_voter 3 = bX4_voter_3 := rfl
theorem lX4_voter_4 : M_bl MX4_voter 4 = bX4_voter_4 := rfl
theorem qX4_voter : M_mc MX4_voter = 0 ∧ M_ms MX4_voter = 0 := ⟨rfl, rfl⟩
theorem lX4_days_0 : M_bl MX4_days 0 = bX4_days_0 := rfl
theorem lX4_days_1 : M_bl MX4_days 1 = bX4_days_1 := rfl
theorem lX4_days_2 : M_bl MX4_days 2 = bX4_days_2 := rfl
theorem qX4_days : M_mc MX4_days = 0 ∧ M_ms MX4_days = 0 := ⟨rfl, rfl⟩
theorem lX4_warms_0 : M_bl MX4_warms 0 = bX4_warms_0 := rfl
theorem lX4_warms_1 : M_bl MX4_warms 1 = bX4_warms_1 := rfl
theorem lX4_warms_2 : M_bl MX4_warms 2 = bX4_warms_2 := rfl
theorem lX4_warms_3 : M_bl MX4_warms 3 = bX4_warms_3 := rfl
theorem qX4_warms : M_mc MX4_warms = 0 ∧ M_ms MX4_warms = 0 := ⟨rfl, rfl⟩
theorem lX4_stakes_0 : M_bl MX4_stakes 0 = bX4_stakes_0 := rfl
theorem lX4_stakes_1 : M_bl MX4_stakes 1 = bX4_stakes_1 := rfl
theorem lX4_stakes_2 : M_bl MX4_stakes 2 = bX4_stakes_2 := rfl
theorem qX4_stakes : M_mc MX4_stakes = 0 ∧ M_ms MX4_stakes = 0 := ⟨rfl, rfl⟩
theorem lX4_pulls_0 : M_bl MX4_pulls 0 = bX4_pulls_0 := rfl
theorem lX4_pulls_1 : M_bl MX4_pulls 1 = bX4_pulls_1 := rfl
theorem lX4_pulls_2 : M_bl MX4_pulls 2 = bX4_pulls_2 := rfl
theorem qX4_pulls : M_mc MX4_pulls = 0 ∧ M_ms MX4_pulls = 0 := ⟨rfl, rfl⟩
theorem lX4_undo_0 : M_bl MX4_undo 0 = bX4_undo_0 := rfl
theorem lX4_undo_1 : M_bl MX4_undo 1 = bX4_undo_1 := rfl
theorem qX4_undo : M_mc MX4_undo = 0 ∧ M_ms MX4_undo = 0 := ⟨rfl, rfl⟩
theorem lX4_now_0 : M_bl MX4_now 0 = bX4_now_0 := rfl
theorem lX4_now_1 : M_bl MX4_now 1 = bX4_now_1 := rfl
theorem lX4_now_2 : M_bl MX4_now 2 = bX4_now_2 := rfl
theorem lX4_now_3 : M_bl MX4_now 3 = bX4_now_3 := rfl
theorem lX4_now_4 : M_bl MX4_now 4 = bX4_now_4 := rfl
theorem lX4_now_5 : M_bl MX4_now 5 = bX4_now_5 := rfl
theorem lX4_now_6 : M_bl MX4_now 6 = bX4_now_6 := rfl
theorem lX4_now_7 : M_bl MX4_now 7 = bX4_now_7 := rfl
theorem lX4_now_8 : M_bl MX4_now 8 = bX4_now_8 := rfl
theorem lX4_now_9 : M_bl MX4_now 9 = bX4_now_9 := rfl
theorem qX4_now : M_mc MX4_now = 0 ∧ M_ms MX4_now = 0 := ⟨rfl, rfl⟩
theorem lX4_first_0 : M_bl MX4_first 0 = bX4_first_0 := rfl
theorem lX4_first_1 : M_bl MX4_first 1 = bX4_first_1 := rfl
theorem lX4_first_2 : M_bl MX4_first 2 = bX4_first_2 := rfl
theorem lX4_first_3 : M_bl MX4_first 3 = bX4_first_3 := rfl
theorem lX4_first_100 : M_bl MX4_first 100 = bX4_first_100 := rfl
theorem qX4_first : M_mc MX4_first = 0 ∧ M_ms MX4_first = 0 := ⟨rfl, rfl⟩
theorem lX4_fair_0 : M_bl MX4_fair 0 = bX4_fair_0 := rfl
theorem lX4_fair_1 : M_bl MX4_fair 1 = bX4_fair_1 := rfl
theorem lX4_fair_2 : M_bl MX4_fair 2 = bX4_fair_2 := rfl
theorem lX4_fair_3 : M_bl MX4_fair 3 = bX4_fair_3 := rfl
theorem qX4_fair : M_mc MX4_fair = 0 ∧ M_ms MX4_fair = 0 := ⟨rfl, rfl⟩
theorem lX4_best_0 : M_bl MX4_best 0 = bX4_best_0 := rfl
theorem lX4_best_1 : M_bl MX4_best 1 = bX4_best_1 := rfl
theorem lX4_best_2 : M_bl MX4_best 2 = bX4_best_2 := rfl
theorem lX4_best_3 : M_bl MX4_best 3 = bX4_best_3 := rfl
theorem qX4_best : M_mc MX4_best = 0 ∧ M_ms MX4_best = 0 := ⟨rfl, rfl⟩
theorem lX4_power_0 : M_bl MX4_power 0 = bX4_power_0 := rfl
theorem lX4_power_1 : M_bl MX4_power 1 = bX4_power_1 := rfl
theorem lX4_power_2 : M_bl MX4_power 2 = bX4_power_2 := rfl
theorem qX4_power : M_mc MX4_power = 0 ∧ M_ms MX4_power = 0 := ⟨rfl, rfl⟩
theorem lX4_duel_0 : M_bl MX4_duel 0 = bX4_duel_0 := rfl
theorem lX4_duel_1 : M_bl MX4_duel 1 = bX4_duel_1 := rfl
theorem lX4_duel_2 : M_bl MX4_duel 2 = bX4_duel_2 := rfl
theorem lX4_duel_3 : M_bl MX4_duel 3 = bX4_duel_3 := rfl
theorem lX4_duel_4 : M_bl MX4_duel 4 = bX4_duel_4 := rfl
theorem lX4_duel_100 : M_bl MX4_duel 100 = bX4_duel_100 := rfl
theorem qX4_duel : M_mc MX4_duel = 0 ∧ M_ms MX4_duel = 0 := ⟨rfl, rfl⟩
theorem lX4_odds_0 : M_bl MX4_odds 0 = bX4_odds_0 := rfl
theorem lX4_odds_1 : M_bl MX4_odds 1 = bX4_odds_1 := rfl
theorem lX4_odds_2 : M_bl MX4_odds 2 = bX4_odds_2 := rfl
theorem lX4_odds_3 : M_bl MX4_odds 3 = bX4_odds_3 := rfl
theorem lX4_odds_100 : M_bl MX4_odds 100 = bX4_odds_100 := rfl
theorem qX4_odds : M_mc MX4_odds = 0 ∧ M_ms MX4_odds = 0 := ⟨rfl, rfl⟩
theorem lX4_hears_0 : M_bl MX4_hears 0 = bX4_hears_0 := rfl
theorem lX4_hears_1 : M_bl MX4_hears 1 = bX4_hears_1 := rfl
theorem lX4_hears_2 : M_bl MX4_hears 2 = bX4_hears_2 := rfl
theorem lX4_hears_3 : M_bl MX4_hears 3 = bX4_hears_3 := rfl
theorem lX4_hears_4 : M_bl MX4_hears 4 = bX4_hears_4 := rfl
theorem lX4_hears_5 : M_bl MX4_hears 5 = bX4_hears_5 := rfl
theorem qX4_hears : M_mc MX4_hears = 0 ∧ M_ms MX4_hears = 0 := ⟨rfl, rfl⟩
theorem lX4_forget_0 : M_bl MX4_forget 0 = bX4_forget_0 := rfl
theorem qX4_forget : M_mc MX4_forget = 0 ∧ M_ms MX4_forget = 0 := ⟨rfl, rfl⟩
theorem lX4_warmth_0 : M_bl MX4_warmth 0 = bX4_warmth_0 := rfl
theorem lX4_warmth_1 : M_bl MX4_warmth 1 = bX4_warmth_1 := rfl
theorem lX4_warmth_2 : M_bl MX4_warmth 2 = bX4_warmth_2 := rfl
theorem lX4_warmth_3 : M_bl MX4_warmth 3 = bX4_warmth_3 := rfl
theorem lX4_warmth_4 : M_bl MX4_warmth 4 = bX4_warmth_4 := rfl
theorem qX4_warmth : M_mc MX4_warmth = 0 ∧ M_ms MX4_warmth = 0 := ⟨rfl, rfl⟩
theorem lX4_ask_0 : M_bl MX4_ask 0 = bX4_ask_0 := rfl
theorem lX4_ask_1 : M_bl MX4_ask 1 = bX4_ask_1 := rfl
theorem lX4_ask_2 : M_bl MX4_ask 2 = bX4_ask_2 := rfl
theorem lX4_ask_3 : M_bl MX4_ask 3 = bX4_ask_3 := rfl
theorem lX4_ask_4 : M_bl MX4_ask 4 = bX4_ask_4 := rfl
theorem lX4_ask_100 : M_bl MX4_ask 100 = bX4_ask_100 := rfl
theorem lX4_ask_101 : M_bl MX4_ask 101 = bX4_ask_101 := rfl
theorem lX4_ask_102 : M_bl MX4_ask 102 = bX4_ask_102 := rfl
theorem qX4_ask : M_mc MX4_ask = 0 ∧ M_ms MX4_ask = 0 := ⟨rfl, rfl⟩
theorem lX4_mark_0 : M_bl MX4_mark 0 = bX4_mark_0 := rfl
theorem lX4_mark_1 : M_bl MX4_mark 1 = bX4_mark_1 := rfl
theorem lX4_mark_2 : M_bl MX4_mark 2 = bX4_mark_2 := rfl
theorem lX4_mark_3 : M_bl MX4_mark 3 = bX4_mark_3 := rfl
theorem lX4_mark_4 : M_bl MX4_mark 4 = bX4_mark_4 := rfl
theorem lX4_mark_5 : M_bl MX4_mark 5 = bX4_mark_5 := rfl
theorem lX4_mark_6 : M_bl MX4_mark 6 = bX4_mark_6 := rfl
theorem lX4_mark_7 : M_bl MX4_mark 7 = bX4_mark_7 := rfl
theorem lX4_mark_8 : M_bl MX4_mark 8 = bX4_mark_8 := rfl
theorem qX4_mark : M_mc MX4_mark = 0 ∧ M_ms MX4_mark = 0 := ⟨rfl, rfl⟩
theorem lX4_keep_0 : M_bl MX4_keep 0 = bX4_keep_0 := rfl
theorem lX4_keep_1 : M_bl MX4_keep 1 = bX4_keep_1 := rfl
theorem qX4_keep : M_mc MX4_keep = 0 ∧ M_ms MX4_keep = 0 := ⟨rfl, rfl⟩
theorem lX4_back_0 : M_bl MX4_back 0 = bX4_back_0 := rfl
theorem lX4_back_1 : M_bl MX4_back 1 = bX4_back_1 := rfl
theorem lX4_back_2 : M_bl MX4_back 2 = bX4_back_2 := rfl
theorem qX4_back : M_mc MX4_back = 0 ∧ M_ms MX4_back = 0 := ⟨rfl, rfl⟩
theorem lX4_count_0 : M_bl MX4_count 0 = bX4_count_0 := rfl
theorem lX4_count_1 : M_bl MX4_count 1 = bX4_count_1 := rfl
theorem lX4_count_2 : M_bl MX4_count 2 = bX4_count_2 := rfl
theorem lX4_count_3 : M_bl MX4_count 3 = bX4_count_3 := rfl
theorem lX4_count_4 : M_bl MX4_count 4 = bX4_count_4 := rfl
theorem lX4_count_5 : M_bl MX4_count 5 = bX4_count_5 := rfl
theorem lX4_count_6 : M_bl MX4_count 6 = bX4_count_6 := rfl
theorem lX4_count_7 : M_bl MX4_count 7 = bX4_count_7 := rfl
theorem lX4_count_8 : M_bl MX4_count 8 = bX4_count_8 := rfl
theorem qX4_count : M_mc MX4_count = 0 ∧ M_ms MX4_count = 0 := ⟨rfl, rfl⟩
theorem lX4_trace_0 : M_bl MX4_trace 0 = bX4_trace_0 := rfl
theorem qX4_trace : M_mc MX4_trace = 0 ∧ M_ms MX4_trace = 0 := ⟨rfl, rfl⟩
theorem lX4_within_0 : M_bl MX4_within 0 = bX4_within_0 := rfl
theorem lX4_within_1 : M_bl MX4_within 1 = bX4_within_1 := rfl
theorem lX4_within_2 : M_bl MX4_within 2 = bX4_within_2 := rfl
theorem qX4_within : M_mc MX4_within = 0 ∧ M_ms MX4_within = 0 := ⟨rfl, rfl⟩
theorem lX4_isColumn_0 : M_bl MX4_isColumn 0 = bX4_isColumn_0 := rfl
theorem lX4_isColumn_1 : M_bl MX4_isColumn 1 = bX4_isColumn_1 := rfl
theorem lX4_isColumn_2 : M_bl MX4_isColumn 2 = bX4_isColumn_2 := rfl
theorem qX4_isColumn : M_mc MX4_isColumn = 0 ∧ M_ms MX4_isColumn = 0 := ⟨rfl, rfl⟩
theorem lX4_isField_0 : M_bl MX4_isField 0 = bX4_isField_0 := rfl
theorem lX4_isField_1 : M_bl MX4_isField 1 = bX4_isField_1 := rfl
theorem lX4_isField_2 : M_bl MX4_isField 2 = bX4_isField_2 := rfl
theorem qX4_isField : M_mc MX4_isField = 0 ∧ M_ms MX4_isField = 0 := ⟨rfl, rfl⟩
theorem lX4_isVoter_0 : M_bl MX4_isVoter 0 = bX4_isVoter_0 := rfl
theorem lX4_isVoter_1 : M_bl MX4_isVoter 1 = bX4_isVoter_1 := rfl
theorem lX4_isVoter_2 : M_bl MX4_isVoter 2 = bX4_isVoter_2 := rfl
theorem qX4_isVoter : M_mc MX4_isVoter = 0 ∧ M_ms MX4_isVoter = 0 := ⟨rfl, rfl⟩
theorem lX4_warmToday_0 : M_bl MX4_warmToday 0 = bX4_warmToday_0 := rfl
theorem qX4_warmToday : M_mc MX4_warmToday = 0 ∧ M_ms MX4_warmToday = 0 := ⟨rfl, rfl⟩
theorem lX4_mild_0 : M_bl MX4_mild 0 = bX4_mild_0 := rfl
theorem qX4_mild : M_mc MX4_mild = 0 ∧ M_ms MX4_mild = 0 := ⟨rfl, rfl⟩
theorem lX4_falls_0 : M_bl MX4_falls 0 = bX4_falls_0 := rfl
theorem lX4_falls_1 : M_bl MX4_falls 1 = bX4_falls_1 := rfl
theorem lX4_falls_2 : M_bl MX4_falls 2 = bX4_falls_2 := rfl
theorem lX4_falls_3 : M_bl MX4_falls 3 = bX4_falls_3 := rfl
theorem qX4_falls : M_mc MX4_falls = 0 ∧ M_ms MX4_falls = 0 := ⟨rfl, rfl⟩
theorem lX4_lowestUpTo_0 : M_bl MX4_lowestUpTo 0 = bX4_lowestUpTo_0 := rfl
theorem lX4_lowestUpTo_1 : M_bl MX4_lowestUpTo 1 = bX4_lowestUpTo_1 := rfl
theorem lX4_lowestUpTo_2 : M_bl MX4_lowestUpTo 2 = bX4_lowestUpTo_2 := rfl
theorem lX4_lowestUpTo_100 : M_bl MX4_lowestUpTo 100 = bX4_lowestUpTo_100 := rfl
theorem qX4_lowestUpTo : M_mc MX4_lowestUpTo = 0 ∧ M_ms MX4_lowestUpTo = 0 := ⟨rfl, rfl⟩
theorem lX4_edge_0 : M_bl MX4_edge 0 = bX4_edge_0 := rfl
theorem qX4_edge : M_mc MX4_edge = 0 ∧ M_ms MX4_edge = 0 := ⟨rfl, rfl⟩
theorem lX4_wet_0 : M_bl MX4_wet 0 = bX4_wet_0 := rfl
theorem qX4_wet : M_mc MX4_wet = 0 ∧ M_ms MX4_wet = 0 := ⟨rfl, rfl⟩
theorem lX4_claim_0 : M_bl MX4_claim 0 = bX4_claim_0 := rfl
theorem qX4_claim : M_mc MX4_claim = 0 ∧ M_ms MX4_claim = 0 := ⟨rfl, rfl⟩
theorem lX4_halves_0 : M_bl MX4_halves 0 = bX4_halves_0 := rfl
theorem lX4_halves_1 : M_bl MX4_halves 1 = bX4_halves_1 := rfl
theorem lX4_halves_2 : M_bl MX4_halves 2 = bX4_halves_2 := rfl
theorem lX4_halves_3 : M_bl MX4_halves 3 = bX4_halves_3 := rfl
theorem lX4_halves_4 : M_bl MX4_halves 4 = bX4_halves_4 := rfl
theorem lX4_halves_5 : M_bl MX4_halves 5 = bX4_halves_5 := rfl
theorem lX4_halves_100 : M_bl MX4_halves 100 = bX4_halves_100 := rfl
theorem qX4_halves : M_mc MX4_halves = 0 ∧ M_ms MX4_halves = 0 := ⟨rfl, rfl⟩
theorem lX4_greaterHalf_0 : M_bl MX4_greaterHalf 0 = bX4_greaterHalf_0 := rfl
theorem lX4_greaterHalf_1 : M_bl MX4_greaterHalf 1 = bX4_greaterHalf_1 := rfl
theorem lX4_greaterHalf_2 : M_bl MX4_greaterHalf 2 = bX4_greaterHalf_2 := rfl
theorem qX4_greaterHalf : M_mc MX4_greaterHalf = 0 ∧ M_ms MX4_greaterHalf = 0 := ⟨rfl, rfl⟩
theorem lX4_snowyFields_0 : M_bl MX4_snowyFields 0 = bX4_snowyFields_0 := rfl
theorem lX4_snowyFields_1 : M_bl MX4_snowyFields 1 = bX4_snowyFields_1 := rfl
theorem lX4_snowyFields_100 : M_bl MX4_snowyFields 100 = bX4_snowyFields_100 := rfl
theorem qX4_snowyFields : M_mc MX4_snowyFields = 0 ∧ M_ms MX4_snowyFields = 0 := ⟨rfl, rfl⟩
theorem lX4_rainyFields_0 : M_bl MX4_rainyFields 0 = bX4_rainyFields_0 := rfl
theorem lX4_rainyFields_1 : M_bl MX4_rainyFields 1 = bX4_rainyFields_1 := rfl
theorem lX4_rainyFields_100 : M_bl MX4_rainyFields 100 = bX4_rainyFields_100 := rfl
theorem qX4_rainyFields : M_mc MX4_rainyFields = 0 ∧ M_ms MX4_rainyFields = 0 := ⟨rfl, rfl⟩
theorem lX4_widest_0 : M_bl MX4_widest 0 = bX4_widest_0 := rfl
theorem lX4_widest_1 : M_bl MX4_widest 1 = bX4_widest_1 := rfl
theorem lX4_widest_100 : M_bl MX4_widest 100 = bX4_widest_100 := rfl
theorem qX4_widest : M_mc MX4_widest = 0 ∧ M_ms MX4_widest = 0 := ⟨rfl, rfl⟩
theorem lX4_vote_0 : M_bl MX4_vote 0 = bX4_vote_0 := rfl
theorem lX4_vote_1 : M_bl MX4_vote 1 = bX4_vote_1 := rfl
theorem lX4_vote_2 : M_bl MX4_vote 2 = bX4_vote_2 := rfl
theorem lX4_vote_3 : M_bl MX4_vote 3 = bX4_vote_3 := rfl
theorem lX4_vote_100 : M_bl MX4_vote 100 = bX4_vote_100 := rfl
theorem qX4_vote : M_mc MX4_vote = 0 ∧ M_ms MX4_vote = 0 := ⟨rfl, rfl⟩
theorem lX4_decidedOrders_0 : M_bl MX4_decidedOrders 0 = bX4_decidedOrders_0 := rfl
theorem lX4_decidedOrders_1 : M_bl MX4_decidedOrders 1 = bX4_decidedOrders_1 := rfl
theorem lX4_decidedOrders_2 : M_bl MX4_decidedOrders 2 = bX4_decidedOrders_2 := rfl
theorem lX4_decidedOrders_3 : M_bl MX4_decidedOrders 3 = bX4_decidedOrders_3 := rfl
theorem lX4_decidedOrders_100 : M_bl MX4_decidedOrders 100 = bX4_decidedOrders_100 := rfl
theorem qX4_decidedOrders : M_mc MX4_decidedOrders = 0 ∧ M_ms MX4_decidedOrders = 0 := ⟨rfl, rfl⟩
theorem lX4_weightOf_0 : M_bl MX4_weightOf 0 = bX4_weightOf_0 := rfl
theorem lX4_weightOf_1 : M_bl MX4_weightOf 1 = bX4_weightOf_1 := rfl
theorem lX4_weightOf_2 : M_bl MX4_weightOf 2 = bX4_weightOf_2 := rfl
theorem lX4_weightOf_100 : M_bl MX4_weightOf 100 = bX4_weightOf_100 := rfl
theorem qX4_weightOf : M_mc MX4_weightOf = 0 ∧ M_ms MX4_weightOf = 0 := ⟨rfl, rfl⟩
theorem lX4_snowyWays_0 : M_bl MX4_snowyWays 0 = bX4_snowyWays_0 := rfl
theorem lX4_snowyWays_1 : M_bl MX4_snowyWays 1 = bX4_snowyWays_1 := rfl
theorem lX4_snowyWays_2 : M_bl MX4_snowyWays 2 = bX4_snowyWays_2 := rfl
theorem lX4_snowyWays_3 : M_bl MX4_snowyWays 3 = bX4_snowyWays_3 := rfl
theorem qX4_snowyWays : M_mc MX4_snowyWays = 0 ∧ M_ms MX4_snowyWays = 0 := ⟨rfl, rfl⟩
theorem lX4_leastTerms_0 : M_bl MX4_leastTerms 0 = bX4_leastTerms_0 := rfl
theorem lX4_leastTerms_1 : M_bl MX4_leastTerms 1 = bX4_leastTerms_1 := rfl
theorem lX4_leastTerms_2 : M_bl MX4_leastTerms 2 = bX4_leastTerms_2 := rfl
theorem lX4_leastTerms_3 : M_bl MX4_leastTerms 3 = bX4_leastTerms_3 := rfl
theorem qX4_leastTerms : M_mc MX4_leastTerms = 0 ∧ M_ms MX4_leastTerms = 0 := ⟨rfl, rfl⟩
theorem lX4_greatestShared_0 : M_bl MX4_greatestShared 0 = bX4_greatestShared_0 := rfl
theorem lX4_greatestShared_1 : M_bl MX4_greatestShared 1 = bX4_greatestShared_1 := rfl
theorem lX4_greatestShared_100 : M_bl MX4_greatestShared 100 = bX4_greatestShared_100 := rfl
theorem qX4_greatestShared : M_mc MX4_greatestShared = 0 ∧ M_ms MX4_greatestShared = 0 := ⟨rfl, rfl⟩
theorem lX4_hearNothing_0 : M_bl MX4_hearNothing 0 = bX4_hearNothing_0 := rfl
theorem qX4_hearNothing : M_mc MX4_hearNothing = 0 ∧ M_ms MX4_hearNothing = 0 := ⟨rfl, rfl⟩
theorem lX4_warmths_0 : M_bl MX4_warmths 0 = bX4_warmths_0 := rfl
theorem qX4_warmths : M_mc MX4_warmths = 0 ∧ M_ms MX4_warmths = 0 := ⟨rfl, rfl⟩
theorem lX4_greaterPart_0 : M_bl MX4_greaterPart 0 = bX4_greaterPart_0 := rfl
theorem qX4_greaterPart : M_mc MX4_greaterPart = 0 ∧ M_ms MX4_greaterPart = 0 := ⟨rfl, rfl⟩
theorem lX4_columnMark_0 : M_bl MX4_columnMark 0 = bX4_columnMark_0 := rfl
theorem qX4_columnMark : M_mc MX4_columnMark = 0 ∧ M_ms MX4_columnMark = 0 := ⟨rfl, rfl⟩
theorem lX4_moorMark_0 : M_bl MX4_moorMark 0 = bX4_moorMark_0 := rfl
theorem qX4_moorMark : M_mc MX4_moorMark = 0 ∧ M_ms MX4_moorMark = 0 := ⟨rfl, rfl⟩
theorem lX4_fenMark_0 : M_bl MX4_fenMark 0 = bX4_fenMark_0 := rfl
theorem qX4_fenMark : M_mc MX4_fenMark = 0 ∧ M_ms MX4_fenMark = 0 := ⟨rfl, rfl⟩
theorem lX4_fellMark_0 : M_bl MX4_fellMark 0 = bX4_fellMark_0 := rfl
theorem qX4_fellMark : M_mc MX4_fellMark = 0 ∧ M_ms MX4_fellMark = 0 := ⟨rfl, rfl⟩
theorem lX4_saltingMark_0 : M_bl MX4_saltingMark 0 = bX4_saltingMark_0 := rfl
theorem qX4_saltingMark : M_mc MX4_saltingMark = 0 ∧ M_ms MX4_saltingMark = 0 := ⟨rfl, rfl⟩
theorem lX4_woodMark_0 : M_bl MX4_woodMark 0 = bX4_woodMark_0 := rfl
theorem qX4_woodMark : M_mc MX4_woodMark = 0 ∧ M_ms MX4_woodMark = 0 := ⟨rfl, rfl⟩
theorem lX5_in_0 : M_bl MX5_in 0 = bX5_in_0 := rfl
theorem lX5_in_1 : M_bl MX5_in 1 = bX5_in_1 := rfl
theorem lX5_in_2 : M_bl MX5_in 2 = bX5_in_2 := rfl
theorem qX5_in : M_mc MX5_in = 0 ∧ M_ms MX5_in = 0 := ⟨rfl, rfl⟩
theorem lX5_common_0 : M_bl MX5_common 0 = bX5_common_0 := rfl
theorem lX5_common_1 : M_bl MX5_common 1 = bX5_common_1 := rfl
theorem lX5_common_100 : M_bl MX5_common 100 = bX5_common_100 := rfl
theorem qX5_common : M_mc MX5_common = 0 ∧ M_ms MX5_common = 0 := ⟨rfl, rfl⟩
theorem lX5_init_0 : M_bl MX5_init 0 = bX5_init_0 := rfl
theorem qX5_init : M_mc MX5_init = 19 ∧ M_ms MX5_init = 634 := ⟨rfl, rfl⟩
theorem lX5_isColumn_0 : M_bl MX5_isColumn 0 = bX5_isColumn_0 := rfl
theorem qX5_isColumn : M_mc MX5_isColumn = 0 ∧ M_ms MX5_isColumn = 0 := ⟨rfl, rfl⟩
theorem lX5_isField_0 : M_bl MX5_isField 0 = bX5_isField_0 := rfl
theorem qX5_isField : M_mc MX5_isField = 0 ∧ M_ms MX5_isField = 0 := ⟨rfl, rfl⟩
theorem lX5_type_0 : M_bl MX5_type 0 = bX5_type_0 := rfl
theorem lX5_type_1 : M_bl MX5_type 1 = bX5_type_1 := rfl
theorem lX5_type_2 : M_bl MX5_type 2 = bX5_type_2 := rfl
theorem qX5_type : M_mc MX5_type = 0 ∧ M_ms MX5_type = 0 := ⟨rfl, rfl⟩
theorem lX5_clear_0 : M_bl MX5_clear 0 = bX5_clear_0 := rfl
theorem qX5_clear : M_mc MX5_clear = 0 ∧ M_ms MX5_clear = 0 := ⟨rfl, rfl⟩
theorem lX5_here_0 : M_bl MX5_here 0 = bX5_here_0 := rfl
theorem lX5_here_1 : M_bl MX5_here 1 = bX5_here_1 := rfl
theorem lX5_here_2 : M_bl MX5_here 2 = bX5_here_2 := rfl
theorem qX5_here : M_mc MX5_here = 0 ∧ M_ms MX5_here = 0 := ⟨rfl, rfl⟩
theorem lX5_skip_0 : M_bl MX5_skip 0 = bX5_skip_0 := rfl
theorem lX5_skip_1 : M_bl MX5_skip 1 = bX5_skip_1 := rfl
theorem lX5_skip_100 : M_bl MX5_skip 100 = bX5_skip_100 := rfl
theorem qX5_skip : M_mc MX5_skip = 0 ∧ M_ms MX5_skip = 0 := ⟨rfl, rfl⟩
theorem lX5_number_0 : M_bl MX5_number 0 = bX5_number_0 := rfl
theorem lX5_number_1 : M_bl MX5_number 1 = bX5_number_1 := rfl
theorem lX5_number_2 : M_bl MX5_number 2 = bX5_number_2 := rfl
theorem lX5_number_3 : M_bl MX5_number 3 = bX5_number_3 := rfl
theorem lX5_number_4 : M_bl MX5_number 4 = bX5_number_4 := rfl
theorem lX5_number_5 : M_bl MX5_number 5 = bX5_number_5 := rfl
theorem lX5_number_6 : M_bl MX5_number 6 = bX5_number_6 := rfl
theorem lX5_number_100 : M_bl MX5_number 100 = bX5_number_100 := rfl
theorem qX5_number : M_mc MX5_number = 0 ∧ M_ms MX5_number = 0 := ⟨rfl, rfl⟩
theorem lX5_ends_0 : M_bl MX5_ends 0 = bX5_ends_0 := rfl
theorem lX5_ends_1 : M_bl MX5_ends 1 = bX5_ends_1 := rfl
theorem qX5_ends : M_mc MX5_ends = 0 ∧ M_ms MX5_ends = 0 := ⟨rfl, rfl⟩
theorem lX5_readsColumn_0 : M_bl MX5_readsColumn 0 = bX5_readsColumn_0 := rfl
theorem lX5_readsColumn_1 : M_bl MX5_readsColumn 1 = bX5_readsColumn_1 := rfl
theorem lX5_readsColumn_2 : M_bl MX5_readsColumn 2 = bX5_readsColumn_2 := rfl
theorem lX5_readsColumn_100 : M_bl MX5_readsColumn 100 = bX5_readsColumn_100 := rfl
theorem qX5_readsColumn : M_mc MX5_readsColumn = 0 ∧ M_ms MX5_readsColumn = 0 := ⟨rfl, rfl⟩
theorem lX5_readsVoter_0 : M_bl MX5_readsVoter 0 = bX5_readsVoter_0 := rfl
theorem lX5_readsVoter_1 : M_bl MX5_readsVoter 1 = bX5_readsVoter_1 := rfl
theorem lX5_readsVoter_2 : M_bl MX5_readsVoter 2 = bX5_readsVoter_2 := rfl
theorem qX5_readsVoter : M_mc MX5_readsVoter = 0 ∧ M_ms MX5_readsVoter = 0 := ⟨rfl, rfl⟩
theorem lX5_readsDay_0 : M_bl MX5_readsDay 0 = bX5_readsDay_0 := rfl
theorem lX5_readsDay_1 : M_bl MX5_readsDay 1 = bX5_readsDay_1 := rfl
theorem qX5_readsDay : M_mc MX5_readsDay = 0 ∧ M_ms MX5_readsDay = 0 := ⟨rfl, rfl⟩
theorem lX5_readsGap_0 : M_bl MX5_readsGap 0 = bX5_readsGap_0 := rfl
theorem lX5_readsGap_1 : M_bl MX5_readsGap 1 = bX5_readsGap_1 := rfl
theorem qX5_readsGap : M_mc MX5_readsGap = 0 ∧ M_ms MX5_readsGap = 0 := ⟨rfl, rfl⟩
theorem lX5_readsHands_0 : M_bl MX5_readsHands 0 = bX5_readsHands_0 := rfl
theorem lX5_readsHands_1 : M_bl MX5_readsHands 1 = bX5_readsHands_1 := rfl
theorem lX5_readsHands_2 : M_bl MX5_readsHands 2 = bX5_readsHands_2 := rfl
theorem lX5_readsHands_100 : M_bl MX5_readsHands 100 = bX5_readsHands_100 := rfl
theorem qX5_readsHands : M_mc MX5_readsHands = 0 ∧ M_ms MX5_readsHands = 0 := ⟨rfl, rfl⟩
theorem lX5_readsItem_0 : M_bl MX5_readsItem 0 = bX5_readsItem_0 := rfl
theorem lX5_readsItem_1 : M_bl MX5_readsItem 1 = bX5_readsItem_1 := rfl
theorem lX5_readsItem_2 : M_bl MX5_readsItem 2 = bX5_readsItem_2 := rfl
theorem lX5_readsItem_3 : M_bl MX5_readsItem 3 = bX5_readsItem_3 := rfl
theorem lX5_readsItem_4 : M_bl MX5_readsItem 4 = bX5_readsItem_4 := rfl
theorem lX5_readsItem_5 : M_bl MX5_readsItem 5 = bX5_readsItem_5 := rfl
theorem lX5_readsItem_6 : M_bl MX5_readsItem 6 = bX5_readsItem_6 := rfl
theorem lX5_readsItem_7 : M_bl MX5_readsItem 7 = bX5_readsItem_7 := rfl
theorem lX5_readsItem_8 : M_bl MX5_readsItem 8 = bX5_readsItem_8 := rfl
theorem lX5_readsItem_9 : M_bl MX5_readsItem 9 = bX5_readsItem_9 := rfl
theorem lX5_readsItem_10 : M_bl MX5_readsItem 10 = bX5_readsItem_10 := rfl
theorem lX5_readsItem_11 : M_bl MX5_readsItem 11 = bX5_readsItem_11 := rfl
theorem lX5_readsItem_12 : M_bl MX5_readsItem 12 = bX5_readsItem_12 := rfl
theorem lX5_readsItem_13 : M_bl MX5_readsItem 13 = bX5_readsItem_13 := rfl
theorem lX5_readsItem_14 : M_bl MX5_readsItem 14 = bX5_readsItem_14 := rfl
theorem lX5_readsItem_15 : M_bl MX5_readsItem 15 = bX5_readsItem_15 := rfl
theorem lX5_readsItem_16 : M_bl MX5_readsItem 16 = bX5_readsItem_16 := rfl
theorem lX5_readsItem_17 : M_bl MX5_readsItem 17 = bX5_readsItem_17 := rfl
theorem lX5_readsItem_18 : M_bl MX5_readsItem 18 = bX5_readsItem_18 := rfl
theorem lX5_readsItem_19 : M_bl MX5_readsItem 19 = bX5_readsItem_19 := rfl
theorem lX5_readsItem_20 : M_bl MX5_readsItem 20 = bX5_readsItem_20 := rfl
theorem qX5_readsItem : M_mc MX5_readsItem = 0 ∧ M_ms MX5_readsItem = 0 := ⟨rfl, rfl⟩
theorem lX5_wold_0 : M_bl MX5_wold 0 = bX5_wold_0 := rfl
theorem lX5_wold_1 : M_bl MX5_wold 1 = bX5_wold_1 := rfl
theorem lX5_wold_2 : M_bl MX5_wold 2 = bX5_wold_2 := rfl
theorem lX5_wold_100 : M_bl MX5_wold 100 = bX5_wold_100 := rfl
theorem qX5_wold : M_mc MX5_wold = 0 ∧ M_ms MX5_wold = 0 := ⟨rfl, rfl⟩
theorem lX5_comesRead_0 : M_bl MX5_comesRead 0 = bX5_comesRead_0 := rfl
theorem lX5_comesRead_1 : M_bl MX5_comesRead 1 = bX5_comesRead_1 := rfl
theorem lX5_comesRead_2 : M_bl MX5_comesRead 2 = bX5_comesRead_2 := rfl
theorem lX5_comesRead_3 : M_bl MX5_comesRead 3 = bX5_comesRead_3 := rfl
theorem lX5_comesRead_4 : M_bl MX5_comesRead 4 = bX5_comesRead_4 := rfl
theorem lX5_comesRead_5 : M_bl MX5_comesRead 5 = bX5_comesRead_5 := rfl
theorem lX5_comesRead_6 : M_bl MX5_comesRead 6 = bX5_comesRead_6 := rfl
theorem lX5_comesRead_7 : M_bl MX5_comesRead 7 = bX5_comesRead_7 := rfl
theorem lX5_comesRead_8 : M_bl MX5_comesRead 8 = bX5_comesRead_8 := rfl
theorem lX5_comesRead_9 : M_bl MX5_comesRead 9 = bX5_comesRead_9 := rfl
theorem lX5_comesRead_10 : M_bl MX5_comesRead 10 = bX5_comesRead_10 := rfl
theorem lX5_comesRead_100 : M_bl MX5_comesRead 100 = bX5_comesRead_100 := rfl
theorem lX5_comesRead_101 : M_bl MX5_comesRead 101 = bX5_comesRead_101 := rfl
theorem lX5_comesRead_102 : M_bl MX5_comesRead 102 = bX5_comesRead_102 := rfl
theorem lX5_comesRead_103 : M_bl MX5_comesRead 103 = bX5_comesRead_103 := rfl
theorem qX5_comesRead : M_mc MX5_comesRead = 0 ∧ M_ms MX5_comesRead = 0 := ⟨rfl, rfl⟩
theorem lX5_warmAt_0 : M_bl MX5_warmAt 0 = bX5_warmAt_0 := rfl
theorem lX5_warmAt_1 : M_bl MX5_warmAt 1 = bX5_warmAt_1 := rfl
theorem lX5_warmAt_2 : M_bl MX5_warmAt 2 = bX5_warmAt_2 := rfl
theorem qX5_warmAt : M_mc MX5_warmAt = 0 ∧ M_ms MX5_warmAt = 0 := ⟨rfl, rfl⟩
theorem lX5_mildBy_0 : M_bl MX5_mildBy 0 = bX5_mildBy_0 := rfl
theorem qX5_mildBy : M_mc MX5_mildBy = 0 ∧ M_ms MX5_mildBy = 0 := ⟨rfl, rfl⟩
theorem lX5_warmthNow_0 : M_bl MX5_warmthNow 0 = bX5_warmthNow_0 := rfl
theorem qX5_warmthNow : M_mc MX5_warmthNow = 0 ∧ M_ms MX5_warmthNow = 0 := ⟨rfl, rfl⟩
theorem lX5_mild_0 : M_bl MX5_mild 0 = bX5_mild_0 := rfl
theorem qX5_mild : M_mc MX5_mild = 0 ∧ M_ms MX5_mild = 0 := ⟨rfl, rfl⟩
theorem lX5_lowestBy_0 : M_bl MX5_lowestBy 0 = bX5_lowestBy_0 := rfl
theorem lX5_lowestBy_1 : M_bl MX5_lowestBy 1 = bX5_lowestBy_1 := rfl
theorem lX5_lowestBy_100 : M_bl MX5_lowestBy 100 = bX5_lowestBy_100 := rfl
theorem qX5_lowestBy : M_mc MX5_lowestBy = 0 ∧ M_ms MX5_lowestBy = 0 := ⟨rfl, rfl⟩
theorem lX5_edge_0 : M_bl MX5_edge 0 = bX5_edge_0 := rfl
theorem qX5_edge : M_mc MX5_edge = 0 ∧ M_ms MX5_edge = 0 := ⟨rfl, rfl⟩
theorem lX5_wet_0 : M_bl MX5_wet 0 = bX5_wet_0 := rfl
theorem qX5_wet : M_mc MX5_wet = 0 ∧ M_ms MX5_wet = 0 := ⟨rfl, rfl⟩
theorem lX5_halves_0 : M_bl MX5_halves 0 = bX5_halves_0 := rfl
theorem lX5_halves_1 : M_bl MX5_halves 1 = bX5_halves_1 := rfl
theorem lX5_halves_2 : M_bl MX5_halves 2 = bX5_halves_2 := rfl
theorem lX5_halves_3 : M_bl MX5_halves 3 = bX5_halves_3 := rfl
theorem lX5_halves_4 : M_bl MX5_halves 4 = bX5_halves_4 := rfl
theorem lX5_halves_5 : M_bl MX5_halves 5 = bX5_halves_5 := rfl
theorem lX5_halves_6 : M_bl MX5_halves 6 = bX5_halves_6 := rfl
theorem lX5_halves_7 : M_bl MX5_halves 7 = bX5_halves_7 := rfl
theorem lX5_halves_8 : M_bl MX5_halves 8 = bX5_halves_8 := rfl
theorem lX5_halves_9 : M_bl MX5_halves 9 = bX5_halves_9 := rfl
theorem lX5_halves_100 : M_bl MX5_halves 100 = bX5_halves_100 := rfl
theorem qX5_halves : M_mc MX5_halves = 0 ∧ M_ms MX5_halves = 0 := ⟨rfl, rfl⟩
theorem lX5_column_0 : M_bl MX5_column 0 = bX5_column_0 := rfl
theorem lX5_column_1 : M_bl MX5_column 1 = bX5_column_1 := rfl
theorem lX5_column_2 : M_bl MX5_column 2 = bX5_column_2 := rfl
theorem lX5_column_3 : M_bl MX5_column 3 = bX5_column_3 := rfl
theorem lX5_column_4 : M_bl MX5_column 4 = bX5_column_4 := rfl
theorem lX5_column_5 : M_bl MX5_column 5 = bX5_column_5 := rfl
theorem lX5_column_6 : M_bl MX5_column 6 = bX5_column_6 := rfl
theorem lX5_column_7 : M_bl MX5_column 7 = bX5_column_7 := rfl
theorem lX5_column_8 : M_bl MX5_column 8 = bX5_column_8 := rfl
theorem lX5_column_9 : M_bl MX5_column 9 = bX5_column_9 := rfl
theorem lX5_column_10 : M_bl MX5_column 10 = bX5_column_10 := rfl
theorem lX5_column_11 : M_bl MX5_column 11 = bX5_column_11 := rfl
theorem lX5_column_12 : M_bl MX5_column 12 = bX5_column_12 := rfl
theorem lX5_column_13 : M_bl MX5_column 13 = bX5_column_13 := rfl
theorem qX5_column : M_mc MX5_column = 0 ∧ M_ms MX5_column = 0 := ⟨rfl, rfl⟩
theorem lX5_falls_0 : M_bl MX5_falls 0 = bX5_falls_0 := rfl
theorem lX5_falls_1 : M_bl MX5_falls 1 = bX5_falls_1 := rfl
theorem lX5_falls_2 : M_bl MX5_falls 2 = bX5_falls_2 := rfl
theorem lX5_falls_3 : M_bl MX5_falls 3 = bX5_falls_3 := rfl
theorem qX5_falls : M_mc MX5_falls = 0 ∧ M_ms MX5_falls = 0 := ⟨rfl, rfl⟩
theorem lX5_field_0 : M_bl MX5_field 0 = bX5_field_0 := rfl
theorem lX5_field_1 : M_bl MX5_field 1 = bX5_field_1 := rfl
theorem lX5_field_2 : M_bl MX5_field 2 = bX5_field_2 := rfl
theorem lX5_field_3 : M_bl MX5_field 3 = bX5_field_3 := rfl
theorem lX5_field_4 : M_bl MX5_field 4 = bX5_field_4 := rfl
theorem lX5_field_5 : M_bl MX5_field 5 = bX5_field_5 := rfl
theorem lX5_field_6 : M_bl MX5_field 6 = bX5_field_6 := rfl
theorem qX5_field : M_mc MX5_field = 0 ∧ M_ms MX5_field = 0 := ⟨rfl, rfl⟩
theorem lX5_voter_0 : M_bl MX5_voter 0 = bX5_voter_0 := rfl
theorem lX5_voter_1 : M_bl MX5_voter 1 = bX5_voter_1 := rfl
theorem lX5_voter_2 : M_bl MX5_voter 2 = bX5_voter_2 := rfl
theorem lX5_voter_3 : M_bl MX5_voter 3 = bX5_voter_3 := rfl
theorem lX5_voter_4 : M_bl MX5_voter 4 = bX5_voter_4 := rfl
theorem qX5_voter : M_mc MX5_voter = 0 ∧ M_ms MX5_voter = 0 := ⟨rfl, rfl⟩
theorem lX5_fallMany_0 : M_bl MX5_fallMany 0 = bX5_fallMany_0 := rfl
theorem lX5_fallMany_1 : M_bl MX5_fallMany 1 = bX5_fallMany_1 := rfl
theorem lX5_fallMany_2 : M_bl MX5_fallMany 2 = bX5_fallMany_2 := rfl
theorem lX5_fallMany_3 : M_bl MX5_fallMany 3 = bX5_fallMany_3 := rfl
theorem lX5_fallMany_4 : M_bl MX5_fallMany 4 = bX5_fallMany_4 := rfl
theorem lX5_fallMany_100 : M_bl MX5_fallMany 100 = bX5_fallMany_100 := rfl
theorem lX5_fallMany_101 : M_bl MX5_fallMany 101 = bX5_fallMany_101 := rfl
theorem qX5_fallMany : M_mc MX5_fallMany = 0 ∧ M_ms MX5_fallMany = 0 := ⟨rfl, rfl⟩
theorem lX5_writes_0 : M_bl MX5_writes 0 = bX5_writes_0 := rfl
theorem lX5_writes_1 : M_bl MX5_writes 1 = bX5_writes_1 := rfl
theorem lX5_writes_100 : M_bl MX5_writes 100 = bX5_writes_100 := rfl
theorem qX5_writes : M_mc MX5_writes = 0 ∧ M_ms MX5_writes = 0 := ⟨rfl, rfl⟩
theorem lX5_readsBack_0 : M_bl MX5_readsBack 0 = bX5_readsBack_0 := rfl
theorem lX5_readsBack_1 : M_bl MX5_readsBack 1 = bX5_readsBack_1 := rfl
theorem lX5_readsBack_100 : M_bl MX5_readsBack 100 = bX5_readsBack_100 := rfl
theorem qX5_readsBack : M_mc MX5_readsBack = 0 ∧ M_ms MX5_readsBack = 0 := ⟨rfl, rfl⟩
theorem lX5_notes_0 : M_bl MX5_notes 0 = bX5_notes_0 := rfl
theorem lX5_notes_1 : M_bl MX5_notes 1 = bX5_notes_1 := rfl
theorem lX5_notes_2 : M_bl MX5_notes 2 = bX5_notes_2 := rfl
theorem lX5_notes_100 : M_bl MX5_notes 100 = bX5_notes_100 := rfl
theorem qX5_notes : M_mc MX5_notes = 0 ∧ M_ms MX5_notes = 0 := ⟨rfl, rfl⟩
theorem lX5_days_0 : M_bl MX5_days 0 = bX5_days_0 := rfl
theorem lX5_days_1 : M_bl MX5_days 1 = bX5_days_1 := rfl
theorem lX5_days_2 : M_bl MX5_days 2 = bX5_days_2 := rfl
theorem qX5_days : M_mc MX5_days = 0 ∧ M_ms MX5_days = 0 := ⟨rfl, rfl⟩
theorem lX5_warms_0 : M_bl MX5_warms 0 = bX5_warms_0 := rfl
theorem lX5_warms_1 : M_bl MX5_warms 1 = bX5_warms_1 := rfl
theorem lX5_warms_2 : M_bl MX5_warms 2 = bX5_warms_2 := rfl
theorem lX5_warms_3 : M_bl MX5_warms 3 = bX5_warms_3 := rfl
theorem qX5_warms : M_mc MX5_warms = 0 ∧ M_ms MX5_warms = 0 := ⟨rfl, rfl⟩
theorem lX5_stakes_0 : M_bl MX5_stakes 0 = bX5_stakes_0 := rfl
theorem lX5_stakes_1 : M_bl MX5_stakes 1 = bX5_stakes_1 := rfl
theorem lX5_stakes_2 : M_bl MX5_stakes 2 = bX5_stakes_2 := rfl
theorem qX5_stakes : M_mc MX5_stakes = 0 ∧ M_ms MX5_stakes = 0 := ⟨rfl, rfl⟩
theorem lX5_pulls_0 : M_bl MX5_pulls 0 = bX5_pulls_0 := rfl
theorem lX5_pulls_1 : M_bl MX5_pulls 1 = bX5_pulls_1 := rfl
theorem lX5_pulls_2 : M_bl MX5_pulls 2 = bX5_pulls_2 := rfl
theorem qX5_pulls : M_mc MX5_pulls = 0 ∧ M_ms MX5_pulls = 0 := ⟨rfl, rfl⟩
theorem lX5_undo_0 : M_bl MX5_undo 0 = bX5_undo_0 := rfl
theorem lX5_undo_1 : M_bl MX5_undo 1 = bX5_undo_1 := rfl
theorem qX5_undo : M_mc MX5_undo = 0 ∧ M_ms MX5_undo = 0 := ⟨rfl, rfl⟩
theorem lX5_widest_0 : M_bl MX5_widest 0 = bX5_widest_0 := rfl
theorem lX5_widest_1 : M_bl MX5_widest 1 = bX5_widest_1 := rfl
theorem lX5_widest_2 : M_bl MX5_widest 2 = bX5_widest_2 := rfl
theorem lX5_widest_3 : M_bl MX5_widest 3 = bX5_widest_3 := rfl
theorem lX5_widest_100 : M_bl MX5_widest 100 = bX5_widest_100 := rfl
theorem qX5_widest : M_mc MX5_widest = 0 ∧ M_ms MX5_widest = 0 := ⟨rfl, rfl⟩
theorem lX5_stakeMany_0 : M_bl MX5_stakeMany 0 = bX5_stakeMany_0 := rfl
theorem lX5_stakeMany_1 : M_bl MX5_stakeMany 1 = bX5_stakeMany_1 := rfl
theorem lX5_stakeMany_2 : M_bl MX5_stakeMany 2 = bX5_stakeMany_2 := rfl
theorem lX5_stakeMany_3 : M_bl MX5_stakeMany 3 = bX5_stakeMany_3 := rfl
theorem lX5_stakeMany_100 : M_bl MX5_stakeMany 100 = bX5_stakeMany_100 := rfl
theorem qX5_stakeMany : M_mc MX5_stakeMany = 0 ∧ M_ms MX5_stakeMany = 0 := ⟨rfl, rfl⟩
theorem lX5_vote_0 : M_bl MX5_vote 0 = bX5_vote_0 := rfl
theorem lX5_vote_1 : M_bl MX5_vote 1 = bX5_vote_1 := rfl
theorem lX5_vote_2 : M_bl MX5_vote 2 = bX5_vote_2 := rfl
theorem lX5_vote_3 : M_bl MX5_vote 3 = bX5_vote_3 := rfl
theorem lX5_vote_100 : M_bl MX5_vote 100 = bX5_vote_100 := rfl
theorem qX5_vote : M_mc MX5_vote = 0 ∧ M_ms MX5_vote = 0 := ⟨rfl, rfl⟩
theorem lX5_now_0 : M_bl MX5_now 0 = bX5_now_0 := rfl
theorem lX5_now_1 : M_bl MX5_now 1 = bX5_now_1 := rfl
theorem lX5_now_2 : M_bl MX5_now 2 = bX5_now_2 := rfl
theorem lX5_now_3 : M_bl MX5_now 3 = bX5_now_3 := rfl
theorem lX5_now_4 : M_bl MX5_now 4 = bX5_now_4 := rfl
theorem lX5_now_5 : M_bl MX5_now 5 = bX5_now_5 := rfl
theorem lX5_now_6 : M_bl MX5_now 6 = bX5_now_6 := rfl
theorem lX5_now_7 : M_bl MX5_now 7 = bX5_now_7 := rfl
theorem lX5_now_8 : M_bl MX5_now 8 = bX5_now_8 := rfl
theorem lX5_now_9 : M_bl MX5_now 9 = bX5_now_9 := rfl
theorem qX5_now : M_mc MX5_now = 0 ∧ M_ms MX5_now = 0 := ⟨rfl, rfl⟩
theorem lX5_first_0 : M_bl MX5_first 0 = bX5_first_0 := rfl
theorem lX5_first_1 : M_bl MX5_first 1 = bX5_first_1 := rfl
theorem lX5_first_2 : M_bl MX5_first 2 = bX5_first_2 := rfl
theorem lX5_first_3 : M_bl MX5_first 3 = bX5_first_3 := rfl
theorem lX5_first_4 : M_bl MX5_first 4 = bX5_first_4 := rfl
theorem lX5_first_100 : M_bl MX5_first 100 = bX5_first_100 := rfl
theorem qX5_first : M_mc MX5_first = 0 ∧ M_ms MX5_first = 0 := ⟨rfl, rfl⟩
theorem lX5_firstLine_0 : M_bl MX5_firstLine 0 = bX5_firstLine_0 := rfl
theorem lX5_firstLine_1 : M_bl MX5_firstLine 1 = bX5_firstLine_1 := rfl
theorem lX5_firstLine_100 : M_bl MX5_firstLine 100 = bX5_firstLine_100 := rfl
theorem qX5_firstLine : M_mc MX5_firstLine = 0 ∧ M_ms MX5_firstLine = 0 := ⟨rfl, rfl⟩
theorem lX5_nextLine_0 : M_bl MX5_nextLine 0 = bX5_nextLine_0 := rfl
theorem lX5_nextLine_1 : M_bl MX5_nextLine 1 = bX5_nextLine_1 := rfl
theorem lX5_nextLine_2 : M_bl MX5_nextLine 2 = bX5_nextLine_2 := rfl
theorem lX5_nextLine_3 : M_bl MX5_nextLine 3 = bX5_nextLine_3 := rfl
theorem lX5_nextLine_4 : M_bl MX5_nextLine 4 = bX5_nextLine_4 := rfl
theorem lX5_nextLine_5 : M_bl MX5_nextLine 5 = bX5_nextLine_5 := rfl
theorem lX5_nextLine_6 : M_bl MX5_nextLine 6 = bX5_nextLine_6 := rfl
theorem lX5_nextLine_7 : M_bl MX5_nextLine 7 = bX5_nextLine_7 := rfl
theorem lX5_nextLine_8 : M_bl MX5_nextLine 8 = bX5_nextLine_8 := rfl
theorem lX5_nextLine_100 : M_bl MX5_nextLine 100 = bX5_nextLine_100 := rfl
theorem lX5_nextLine_101 : M_bl MX5_nextLine 101 = bX5_nextLine_101 := rfl
theorem qX5_nextLine : M_mc MX5_nextLine = 0 ∧ M_ms MX5_nextLine = 0 := ⟨rfl, rfl⟩
theorem lX5_lineNumber_0 : M_bl MX5_lineNumber 0 = bX5_lineNumber_0 := rfl
theorem lX5_lineNumber_1 : M_bl MX5_lineNumber 1 = bX5_lineNumber_1 := rfl
theorem lX5_lineNumber_100 : M_bl MX5_lineNumber 100 = bX5_lineNumber_100 := rfl
theorem qX5_lineNumber : M_mc MX5_lineNumber = 0 ∧ M_ms MX5_lineNumber = 0 := ⟨rfl, rfl⟩
theorem lX5_hasHill_0 : M_bl MX5_hasHill 0 = bX5_hasHill_0 := rfl
theorem lX5_hasHill_1 : M_bl MX5_hasHill 1 = bX5_hasHill_1 := rfl
theorem lX5_hasHill_100 : M_bl MX5_hasHill 100 = bX5_hasHill_100 := rfl
theorem qX5_hasHill : M_mc MX5_hasHill = 0 ∧ M_ms MX5_hasHill = 0 := ⟨rfl, rfl⟩
theorem lX5_hasSea_0 : M_bl MX5_hasSea 0 = bX5_hasSea_0 := rfl
theorem lX5_hasSea_1 : M_bl MX5_hasSea 1 = bX5_hasSea_1 := rfl
theorem lX5_hasSea_100 : M_bl MX5_hasSea 100 = bX5_hasSea_100 := rfl
theorem qX5_hasSea : M_mc MX5_hasSea = 0 ∧ M_ms MX5_hasSea = 0 := ⟨rfl, rfl⟩
theorem lX5_allOf_0 : M_bl MX5_allOf 0 = bX5_allOf_0 := rfl
theorem lX5_allOf_1 : M_bl MX5_allOf 1 = bX5_allOf_1 := rfl
theorem lX5_allOf_100 : M_bl MX5_allOf 100 = bX5_allOf_100 := rfl
theorem qX5_allOf : M_mc MX5_allOf = 0 ∧ M_ms MX5_allOf = 0 := ⟨rfl, rfl⟩
theorem lX5_fair_0 : M_bl MX5_fair 0 = bX5_fair_0 := rfl
theorem lX5_fair_1 : M_bl MX5_fair 1 = bX5_fair_1 := rfl
theorem lX5_fair_2 : M_bl MX5_fair 2 = bX5_fair_2 := rfl
theorem lX5_fair_3 : M_bl MX5_fair 3 = bX5_fair_3 := rfl
theorem lX5_fair_4 : M_bl MX5_fair 4 = bX5_fair_4 := rfl
theorem lX5_fair_5 : M_bl MX5_fair 5 = bX5_fair_5 := rfl
theorem lX5_fair_6 : M_bl MX5_fair 6 = bX5_fair_6 := rfl
theorem lX5_fair_7 : M_bl MX5_fair 7 = bX5_fair_7 := rfl
theorem lX5_fair_8 : M_bl MX5_fair 8 = bX5_fair_8 := rfl
theorem lX5_fair_9 : M_bl MX5_fair 9 = bX5_fair_9 := rfl
theorem lX5_fair_10 : M_bl MX5_fair 10 = bX5_fair_10 := rfl
theorem lX5_fair_100 : M_bl MX5_fair 100 = bX5_fair_100 := rfl
theorem qX5_fair : M_mc MX5_fair = 0 ∧ M_ms MX5_fair = 0 := ⟨rfl, rfl⟩
theorem lX5_best_0 : M_bl MX5_best 0 = bX5_best_0 := rfl
theorem lX5_best_1 : M_bl MX5_best 1 = bX5_best_1 := rfl
theorem lX5_best_2 : M_bl MX5_best 2 = bX5_best_2 := rfl
theorem lX5_best_3 : M_bl MX5_best 3 = bX5_best_3 := rfl
theorem lX5_best_4 : M_bl MX5_best 4 = bX5_best_4 := rfl
theorem lX5_best_5 : M_bl MX5_best 5 = bX5_best_5 := rfl
theorem lX5_best_6 : M_bl MX5_best 6 = bX5_best_6 := rfl
theorem lX5_best_7 : M_bl MX5_best 7 = bX5_best_7 := rfl
theorem lX5_best_8 : M_bl MX5_best 8 = bX5_best_8 := rfl
theorem lX5_best_9 : M_bl MX5_best 9 = bX5_best_9 := rfl
theorem lX5_best_10 : M_bl MX5_best 10 = bX5_best_10 := rfl
theorem lX5_best_100 : M_bl MX5_best 100 = bX5_best_100 := rfl
theorem qX5_best : M_mc MX5_best = 0 ∧ M_ms MX5_best = 0 := ⟨rfl, rfl⟩
theorem lX5_orders_0 : M_bl MX5_orders 0 = bX5_orders_0 := rfl
theorem lX5_orders_1 : M_bl MX5_orders 1 = bX5_orders_1 := rfl
theorem lX5_orders_100 : M_bl MX5_orders 100 = bX5_orders_100 := rfl
theorem qX5_orders : M_mc MX5_orders = 0 ∧ M_ms MX5_orders = 0 := ⟨rfl, rfl⟩
theorem lX5_weightOf_0 : M_bl MX5_weightOf 0 = bX5_weightOf_0 := rfl
theorem lX5_weightOf_1 : M_bl MX5_weightOf 1 = bX5_weightOf_1 := rfl
theorem lX5_weightOf_2 : M_bl MX5_weightOf 2 = bX5_weightOf_2 := rfl
theorem lX5_weightOf_3 : M_bl MX5_weightOf 3 = bX5_weightOf_3 := rfl
theorem lX5_weightOf_100 : M_bl MX5_weightOf 100 = bX5_weightOf_100 := rfl
theorem qX5_weightOf : M_mc MX5_weightOf = 0 ∧ M_ms MX5_weightOf = 0 := ⟨rfl, rfl⟩
theorem lX5_power_0 : M_bl MX5_power 0 = bX5_power_0 := rfl
theorem lX5_power_1 : M_bl MX5_power 1 = bX5_power_1 := rfl
theorem lX5_power_2 : M_bl MX5_power 2 = bX5_power_2 := rfl
theorem lX5_power_3 : M_bl MX5_power 3 = bX5_power_3 := rfl
theorem lX5_power_4 : M_bl MX5_power 4 = bX5_power_4 := rfl
theorem lX5_power_5 : M_bl MX5_power 5 = bX5_power_5 := rfl
theorem lX5_power_6 : M_bl MX5_power 6 = bX5_power_6 := rfl
theorem lX5_power_7 : M_bl MX5_power 7 = bX5_power_7 := rfl
theorem lX5_power_100 : M_bl MX5_power 100 = bX5_power_100 := rfl
theorem lX5_power_101 : M_bl MX5_power 101 = bX5_power_101 := rfl
theorem qX5_power : M_mc MX5_power = 0 ∧ M_ms MX5_power = 0 := ⟨rfl, rfl⟩
theorem lX5_duel_0 : M_bl MX5_duel 0 = bX5_duel_0 := rfl
theorem lX5_duel_1 : M_bl MX5_duel 1 = bX5_duel_1 := rfl
theorem lX5_duel_2 : M_bl MX5_duel 2 = bX5_duel_2 := rfl
theorem lX5_duel_3 : M_bl MX5_duel 3 = bX5_duel_3 := rfl
theorem lX5_duel_4 : M_bl MX5_duel 4 = bX5_duel_4 := rfl
theorem lX5_duel_5 : M_bl MX5_duel 5 = bX5_duel_5 := rfl
theorem lX5_duel_6 : M_bl MX5_duel 6 = bX5_duel_6 := rfl
theorem lX5_duel_7 : M_bl MX5_duel 7 = bX5_duel_7 := rfl
theorem lX5_duel_8 : M_bl MX5_duel 8 = bX5_duel_8 := rfl
theorem lX5_duel_9 : M_bl MX5_duel 9 = bX5_duel_9 := rfl
theorem lX5_duel_10 : M_bl MX5_duel 10 = bX5_duel_10 := rfl
theorem lX5_duel_11 : M_bl MX5_duel 11 = bX5_duel_11 := rfl
theorem lX5_duel_12 : M_bl MX5_duel 12 = bX5_duel_12 := rfl
theorem lX5_duel_13 : M_bl MX5_duel 13 = bX5_duel_13 := rfl
theorem lX5_duel_14 : M_bl MX5_duel 14 = bX5_duel_14 := rfl
theorem lX5_duel_15 : M_bl MX5_duel 15 = bX5_duel_15 := rfl
theorem lX5_duel_16 : M_bl MX5_duel 16 = bX5_duel_16 := rfl
theorem lX5_duel_17 : M_bl MX5_duel 17 = bX5_duel_17 := rfl
theorem lX5_duel_18 : M_bl MX5_duel 18 = bX5_duel_18 := rfl
theorem lX5_duel_19 : M_bl MX5_duel 19 = bX5_duel_19 := rfl
theorem lX5_duel_100 : M_bl MX5_duel 100 = bX5_duel_100 := rfl
theorem lX5_duel_101 : M_bl MX5_duel 101 = bX5_duel_101 := rfl
theorem lX5_duel_102 : M_bl MX5_duel 102 = bX5_duel_102 := rfl
theorem lX5_duel_103 : M_bl MX5_duel 103 = bX5_duel_103 := rfl
theorem qX5_duel : M_mc MX5_duel = 0 ∧ M_ms MX5_duel = 0 := ⟨rfl, rfl⟩
theorem lX5_odds_0 : M_bl MX5_odds 0 = bX5_odds_0 := rfl
theorem lX5_odds_1 : M_bl MX5_odds 1 = bX5_odds_1 := rfl
theorem lX5_odds_2 : M_bl MX5_odds 2 = bX5_odds_2 := rfl
theorem lX5_odds_3 : M_bl MX5_odds 3 = bX5_odds_3 := rfl
theorem lX5_odds_4 : M_bl MX5_odds 4 = bX5_odds_4 := rfl
theorem lX5_odds_5 : M_bl MX5_odds 5 = bX5_odds_5 := rfl
theorem lX5_odds_6 : M_bl MX5_odds 6 = bX5_odds_6 := rfl
theorem lX5_odds_7 : M_bl MX5_odds 7 = bX5_odds_7 := rfl
theorem lX5_odds_8 : M_bl MX5_odds 8 = bX5_odds_8 := rfl
theorem lX5_odds_9 : M_bl MX5_odds 9 = bX5_odds_9 := rfl
theorem lX5_odds_10 : M_bl MX5_odds 10 = bX5_odds_10 := rfl
theorem lX5_odds_11 : M_bl MX5_odds 11 = bX5_odds_11 := rfl
theorem lX5_odds_100 : M_bl MX5_odds 100 = bX5_odds_100 := rfl
theorem lX5_odds_101 : M_bl MX5_odds 101 = bX5_odds_101 := rfl
theorem lX5_odds_102 : M_bl MX5_odds 102 = bX5_odds_102 := rfl
theorem qX5_odds : M_mc MX5_odds = 0 ∧ M_ms MX5_odds = 0 := ⟨rfl, rfl⟩
theorem lX5_hears_0 : M_bl MX5_hears 0 = bX5_hears_0 := rfl
theorem lX5_hears_1 : M_bl MX5_hears 1 = bX5_hears_1 := rfl
theorem lX5_hears_2 : M_bl MX5_hears 2 = bX5_hears_2 := rfl
theorem lX5_hears_3 : M_bl MX5_hears 3 = bX5_hears_3 := rfl
theorem qX5_hears : M_mc MX5_hears = 0 ∧ M_ms MX5_hears = 0 := ⟨rfl, rfl⟩
theorem lX5_forget_0 : M_bl MX5_forget 0 = bX5_forget_0 := rfl
theorem qX5_forget : M_mc MX5_forget = 0 ∧ M_ms MX5_forget = 0 := ⟨rfl, rfl⟩
theorem lX5_says_0 : M_bl MX5_says 0 = bX5_says_0 := rfl
theorem lX5_says_1 : M_bl MX5_says 1 = bX5_says_1 := rfl
theorem lX5_says_2 : M_bl MX5_says 2 = bX5_says_2 := rfl
theorem qX5_says : M_mc MX5_says = 0 ∧ M_ms MX5_says = 0 := ⟨rfl, rfl⟩
theorem lX5_isSo_0 : M_bl MX5_isSo 0 = bX5_isSo_0 := rfl
theorem lX5_isSo_1 : M_bl MX5_isSo 1 = bX5_isSo_1 := rfl
theorem lX5_isSo_2 : M_bl MX5_isSo 2 = bX5_isSo_2 := rfl
theorem lX5_isSo_3 : M_bl MX5_isSo 3 = bX5_isSo_3 := rfl
theorem lX5_isSo_4 : M_bl MX5_isSo 4 = bX5_isSo_4 := rfl
theorem lX5_isSo_5 : M_bl MX5_isSo 5 = bX5_isSo_5 := rfl
theorem lX5_isSo_100 : M_bl MX5_isSo 100 = bX5_isSo_100 := rfl
theorem qX5_isSo : M_mc MX5_isSo = 0 ∧ M_ms MX5_isSo = 0 := ⟨rfl, rfl⟩
theorem lX5_warmth_0 : M_bl MX5_warmth 0 = bX5_warmth_0 := rfl
theorem lX5_warmth_1 : M_bl MX5_warmth 1 = bX5_warmth_1 := rfl
theorem lX5_warmth_2 : M_bl MX5_warmth 2 = bX5_warmth_2 := rfl
theorem lX5_warmth_3 : M_bl MX5_warmth 3 = bX5_warmth_3 := rfl
theorem lX5_warmth_4 : M_bl MX5_warmth 4 = bX5_warmth_4 := rfl
theorem lX5_warmth_5 : M_bl MX5_warmth 5 = bX5_warmth_5 := rfl
theorem lX5_warmth_6 : M_bl MX5_warmth 6 = bX5_warmth_6 := rfl
theorem lX5_warmth_7 : M_bl MX5_warmth 7 = bX5_warmth_7 := rfl
theorem lX5_warmth_8 : M_bl MX5_warmth 8 = bX5_warmth_8 := rfl
theorem lX5_warmth_100 : M_bl MX5_warmth 100 = bX5_warmth_100 := rfl
theorem qX5_warmth : M_mc MX5_warmth = 0 ∧ M_ms MX5_warmth = 0 := ⟨rfl, rfl⟩
theorem lX5_ask_0 : M_bl MX5_ask 0 = bX5_ask_0 := rfl
theorem lX5_ask_1 : M_bl MX5_ask 1 = bX5_ask_1 := rfl
theorem lX5_ask_2 : M_bl MX5_ask 2 = bX5_ask_2 := rfl
theorem lX5_ask_3 : M_bl MX5_ask 3 = bX5_ask_3 := rfl
theorem lX5_ask_4 : M_bl MX5_ask 4 = bX5_ask_4 := rfl
theorem lX5_ask_5 : M_bl MX5_ask 5 = bX5_ask_5 := rfl
theorem lX5_ask_6 : M_bl MX5_ask 6 = bX5_ask_6 := rfl
theorem lX5_ask_7 : M_bl MX5_ask 7 = bX5_ask_7 := rfl
theorem lX5_ask_8 : M_bl MX5_ask 8 = bX5_ask_8 := rfl
theorem lX5_ask_9 : M_bl MX5_ask 9 = bX5_ask_9 := rfl
theorem lX5_ask_10 : M_bl MX5_ask 10 = bX5_ask_10 := rfl
theorem lX5_ask_11 : M_bl MX5_ask 11 = bX5_ask_11 := rfl
theorem lX5_ask_12 : M_bl MX5_ask 12 = bX5_ask_12 := rfl
theorem lX5_ask_100 : M_bl MX5_ask 100 = bX5_ask_100 := rfl
theorem lX5_ask_101 : M_bl MX5_ask 101 = bX5_ask_101 := rfl
theorem lX5_ask_102 : M_bl MX5_ask 102 = bX5_ask_102 := rfl
theorem lX5_ask_103 : M_bl MX5_ask 103 = bX5_ask_103 := rfl
theorem qX5_ask : M_mc MX5_ask = 0 ∧ M_ms MX5_ask = 0 := ⟨rfl, rfl⟩
theorem lX5_marked_0 : M_bl MX5_marked 0 = bX5_marked_0 := rfl
theorem lX5_marked_1 : M_bl MX5_marked 1 = bX5_marked_1 := rfl
theorem lX5_marked_2 : M_bl MX5_marked 2 = bX5_marked_2 := rfl
theorem lX5_marked_3 : M_bl MX5_marked 3 = bX5_marked_3 := rfl
theorem lX5_marked_4 : M_bl MX5_marked 4 = bX5_marked_4 := rfl
theorem lX5_marked_5 : M_bl MX5_marked 5 = bX5_marked_5 := rfl
theorem lX5_marked_6 : M_bl MX5_marked 6 = bX5_marked_6 := rfl
theorem lX5_marked_7 : M_bl MX5_marked 7 = bX5_marked_7 := rfl
theorem qX5_marked : M_mc MX5_marked = 0 ∧ M_ms MX5_marked = 0 := ⟨rfl, rfl⟩
theorem lX5_mark_0 : M_bl MX5_mark 0 = bX5_mark_0 := rfl
theorem lX5_mark_1 : M_bl MX5_mark 1 = bX5_mark_1 := rfl
theorem lX5_mark_2 : M_bl MX5_mark 2 = bX5_mark_2 := rfl
theorem qX5_mark : M_mc MX5_mark = 0 ∧ M_ms MX5_mark = 0 := ⟨rfl, rfl⟩
theorem lX5_keep_0 : M_bl MX5_keep 0 = bX5_keep_0 := rfl
theorem lX5_keep_1 : M_bl MX5_keep 1 = bX5_keep_1 := rfl
theorem lX5_keep_2 : M_bl MX5_keep 2 = bX5_keep_2 := rfl
theorem lX5_keep_100 : M_bl MX5_keep 100 = bX5_keep_100 := rfl
theorem qX5_keep : M_mc MX5_keep = 0 ∧ M_ms MX5_keep = 0 := ⟨rfl, rfl⟩
theorem lX5_back_0 : M_bl MX5_back 0 = bX5_back_0 := rfl
theorem lX5_back_1 : M_bl MX5_back 1 = bX5_back_1 := rfl
theorem lX5_back_2 : M_bl MX5_back 2 = bX5_back_2 := rfl
theorem lX5_back_3 : M_bl MX5_back 3 = bX5_back_3 := rfl
theorem lX5_back_100 : M_bl MX5_back 100 = bX5_back_100 := rfl
theorem qX5_back : M_mc MX5_back = 0 ∧ M_ms MX5_back = 0 := ⟨rfl, rfl⟩
theorem lX5_count_0 : M_bl MX5_count 0 = bX5_count_0 := rfl
theorem lX5_count_1 : M_bl MX5_count 1 = bX5_count_1 := rfl
theorem lX5_count_2 : M_bl MX5_count 2 = bX5_count_2 := rfl
theorem lX5_count_3 : M_bl MX5_count 3 = bX5_count_3 := rfl
theorem lX5_count_4 : M_bl MX5_count 4 = bX5_count_4 := rfl
theorem lX5_count_5 : M_bl MX5_count 5 = bX5_count_5 := rfl
theorem lX5_count_6 : M_bl MX5_count 6 = bX5_count_6 := rfl
theorem lX5_count_7 : M_bl MX5_count 7 = bX5_count_7 := rfl
theorem lX5_count_8 : M_bl MX5_count 8 = bX5_count_8 := rfl
theorem qX5_count : M_mc MX5_count = 0 ∧ M_ms MX5_count = 0 := ⟨rfl, rfl⟩
theorem lX5_trace_0 : M_bl MX5_trace 0 = bX5_trace_0 := rfl
theorem qX5_trace : M_mc MX5_trace = 0 ∧ M_ms MX5_trace = 0 := ⟨rfl, rfl⟩
theorem lJ6_bitCount_0f7a4_0 : M_bl MJ6_bitCount_0f7a4 0 = bJ6_bitCount_0f7a4_0 := rfl
theorem qJ6_bitCount_0f7a4 : M_mc MJ6_bitCount_0f7a4 = 0 ∧ M_ms MJ6_bitCount_0f7a4 = 0 := ⟨rfl, rfl⟩
theorem lL_law_0 : M_bl ML_law 0 = bL_law_0 := rfl
theorem lL_law_1 : M_bl ML_law 1 = bL_law_1 := rfl
theorem lL_law_2 : M_bl ML_law 2 = bL_law_2 := rfl
theorem lL_law_3 : M_bl ML_law 3 = bL_law_3 := rfl
theorem lL_law_4 : M_bl ML_law 4 = bL_law_4 := rfl
theorem lL_law_5 : M_bl ML_law 5 = bL_law_5 := rfl
theorem lL_law_6 : M_bl ML_law 6 = bL_law_6 := rfl
theorem lL_law_7 : M_bl ML_law 7 = bL_law_7 := rfl
theorem lL_law_8 : M_bl ML_law 8 = bL_law_8 := rfl
theorem lL_law_9 : M_bl ML_law 9 = bL_law_9 := rfl
theorem lL_law_10 : M_bl ML_law 10 = bL_law_10 := rfl
theorem lL_law_11 : M_bl ML_law 11 = bL_law_11 := rfl
theorem lL_law_12 : M_bl ML_law 12 = bL_law_12 := rfl
theorem lL_law_13 : M_bl ML_law 13 = bL_law_13 := rfl
theorem lL_law_14 : M_bl ML_law 14 = bL_law_14 := rfl
theorem lL_law_15 : M_bl ML_law 15 = bL_law_15 := rfl
theorem lL_law_16 : M_bl ML_law 16 = bL_law_16 := rfl
theorem lL_law_17 : M_bl ML_law 17 = bL_law_17 := rfl
theorem lL_law_18 : M_bl ML_law 18 = bL_law_18 := rfl
theorem lL_law_19 : M_bl ML_law 19 = bL_law_19 := rfl
theorem lL_law_20 : M_bl ML_law 20 = bL_law_20 := rfl
theorem lL_law_21 : M_bl ML_law 21 = bL_law_21 := rfl
theorem lL_law_22 : M_bl ML_law 22 = bL_law_22 := rfl
theorem lL_law_23 : M_bl ML_law 23 = bL_law_23 := rfl
theorem lL_law_24 : M_bl ML_law 24 = bL_law_24 := rfl
theorem lL_law_25 : M_bl ML_law 25 = bL_law_25 := rfl
theorem lL_law_26 : M_bl ML_law 26 = bL_law_26 := rfl
theorem lL_law_27 : M_bl ML_law 27 = bL_law_27 := rfl
theorem lL_law_28 : M_bl ML_law 28 = bL_law_28 := rfl
theorem lL_law_29 : M_bl ML_law 29 = bL_law_29 := rfl
theorem lL_law_100 : M_bl ML_law 100 = bL_law_100 := rfl
theorem qL_law : M_mc ML_law = 58 ∧ M_ms ML_law = 1094 := ⟨rfl, rfl⟩
