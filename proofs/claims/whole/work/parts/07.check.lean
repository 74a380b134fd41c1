/-! What a program decides about the methods: their bytes, links, words. -/
def gw : List Cond := lw_tbl.filter goodWord
def wd (i : Nat) (w : Cond) : Bool := decide (lw_tbl[i]? = some w) && goodWord w
theorem wd_in {i : Nat} {w : Cond} (h : wd i w = true) : w ∈ gw := by
  unfold wd at h
  rw [Bool.and_eq_true, decide_eq_true_eq] at h
  exact List.mem_filter.mpr ⟨List.mem_of_getElem? h.1, h.2⟩
theorem gw_good {w : Cond} (h : w ∈ gw) : (w.onTables && w.keeps) = true ∨ ∃ ty, w = .arrayClass ty := good_of_word (List.mem_filter.mp h).2
def ms_tc : FieldType → Nat
  | .boolean => 1
  | .long => 2
  | .int => 0
  | .object _ => 3
  | .array _ => 3
  | _ => 4
def ms_clok (q : vw_C) (ty : Nat → FieldType) (ci : Nat) : Bool := decide (∀ k, k < q.2.2 → (q.2.1 k).1 = q.1) && decide (∀ k, k < q.2.2 → ms_tc (ty k) = ms_ft ci k) && decide (q.2.2 = ms_N ci) && ((List.range q.2.2).all fun k => gw.contains (u_lay q.1 q.2.1 k))
set_option maxRecDepth 100000 in
theorem ms_cl0 : ms_clok (RX0, TX0, 7) tyX0 0 = true := by decide +kernel
set_option maxRecDepth 100000 in
theorem ms_cl1 : ms_clok (RX1, TX1, 7) tyX1 1 = true := by decide +kernel
set_option maxRecDepth 100000 in
theorem ms_cl2 : ms_clok (RX2, TX2, 9) tyX2 2 = true := by decide +kernel
set_option maxRecDepth 100000 in
theorem ms_cl3 : ms_clok (RX3, TX3, 11) tyX3 3 = true := by decide +kernel
set_option maxRecDepth 100000 in
theorem ms_cl4 : ms_clok (RX4, TX4, 11) tyX4 4 = true := by decide +kernel
set_option maxRecDepth 100000 in
theorem ms_cl5 : ms_clok (RX5, TX5, 37) tyX5 5 = true := by decide +kernel
theorem ms_clx {q : vw_C} {ty : Nat → FieldType} {ci : Nat} (h : ms_clok q ty ci = true) : (∀ k, k < q.2.2 → (q.2.1 k).1 = q.1) ∧ (∀ k, k < q.2.2 → ms_tc (ty k) = ms_ft ci k) ∧ q.2.2 = ms_N ci ∧ ∀ w ∈ u_ws q.1 q.2.1 q.2.2, w ∈ gw := by
  unfold ms_clok at h
  simp only [Bool.and_eq_true, decide_eq_true_eq, List.all_eq_true, List.mem_range, List.contains_iff_mem] at h
  refine ⟨h.1.1.1, h.1.1.2, h.1.2, fun w hw => ?_⟩
  obtain ⟨k, hk, rfl⟩ := List.mem_map.mp hw
  exact h.2 k (List.mem_range.mp hk)
/-- what is known of a class of the worlds -/
theorem ms_cls_ok {ci : Nat} {q : vw_C} (h : ms_cls[ci]? = some q) : ci < 6 ∧ (∀ k, k < q.2.2 → (q.2.1 k).1 = q.1) ∧ (∀ k, k < q.2.2 → ms_tc (ms_ty ci k) = ms_ft ci k) ∧ q.2.2 = ms_N ci ∧ (∀ w ∈ u_ws q.1 q.2.1 q.2.2, w ∈ gw) ∧ (∀ k, k < q.2.2 → parseFieldDescriptor (q.2.1 k).2.2.1 = some (ms_ty ci k)) ∧ (∀ a, a < q.2.2 → ∀ b, b < q.2.2 → a ≠ b → (q.2.1 a).2.1 ≠ (q.2.1 b).2.1) := by
  match ci, h with
  | 0, h => cases h; obtain ⟨a, b, c, d⟩ := ms_clx ms_cl0; exact ⟨by decide, a, b, c, d, tyX0_ok, nmX0⟩
  | 1, h => cases h; obtain ⟨a, b, c, d⟩ := ms_clx ms_cl1; exact ⟨by decide, a, b, c, d, tyX1_ok, nmX1⟩
  | 2, h => cases h; obtain ⟨a, b, c, d⟩ := ms_clx ms_cl2; exact ⟨by decide, a, b, c, d, tyX2_ok, nmX2⟩
  | 3, h => cases h; obtain ⟨a, b, c, d⟩ := ms_clx ms_cl3; exact ⟨by decide, a, b, c, d, tyX3_ok, nmX3⟩
  | 4, h => cases h; obtain ⟨a, b, c, d⟩ := ms_clx ms_cl4; exact ⟨by decide, a, b, c, d, tyX4_ok, nmX4⟩
  | 5, h => cases h; obtain ⟨a, b, c, d⟩ := ms_clx ms_cl5; exact ⟨by decide, a, b, c, d, tyX5_ok, nmX5⟩
  | n + 6, h => simp [ms_cls] at h
def rgb (c : Int) : Bool := decide (-2147483648 ≤ c ∧ c ≤ 2147483647)
theorem rgb_x {c : Int} (h : rgb c = true) : rg c := by
  have h2 : -2147483648 ≤ c ∧ c ≤ 2147483647 := of_decide_eq_true h
  exact h2
def B_pc : ms_B → Nat
  | [] => 0
  | (pc, _) :: _ => pc
/-- links between the classes of the nest -/
def ms_nest : List (String × Nat × MethodName) := [(RX4, 9, yX2_init), (RX4, 18, yX3_init), (RX4, 28, yX0_init), (RX4, 35, yX1_init), (RX2, 103, yX4_within)]
def ms_cktab (M : ms_M) (pc : Nat) (lo : Int) : List Int → List (Int × Nat) → Bool
  | [], [] => true
  | o :: os, (v, tg) :: t => decide (v = lo) && decide ((pc : Int) + o = (B_pc (M_bl M tg) : Int)) && ms_cktab M pc (lo + 1) os t
  | _, _ => false
def ms_cklk (M : ms_M) (pc : Nat) : List (Int × Int) → List (Int × Nat) → Bool
  | [], [] => true
  | (v', o) :: os, (v, tg) :: t => decide (v = v') && decide ((pc : Int) + o = (B_pc (M_bl M tg) : Int)) && ms_cklk M pc os t
  | _, _ => false
def ms_ckf (M : ms_M) (i : Nat) (x : ms_X) : Bool := match x with
  | (c, a, b, _, _, w) => match ms_cls[a]? with
    | some (C, T, N) => decide (0 ≤ c) && decide (c.toNat < N) && decide (ms_ft a c = b) && wd w (.fieldLink (M_nm M).cls i C (T c.toNat).2.1 (T c.toNat).2.2.1)
    | none => false
def ms_ckw (M : ms_M) (x : ms_X) : Bool := match x with
  | (c, a, b, _, _, _) => match ms_cls[a]? with
    | some (C, T, _) => decide ((T c.toNat).2.2.2 = false) || (decide ((M_nm M).name = "<init>") && decide (C = (M_nm M).cls) && decide (b = 3))
    | none => false
def ms_ckc (P : List ms_M) (M : ms_M) (i kd : Nat) (x : ms_X) : Bool := match x with
  | (_, a, b, d, t, w) => match P[a]? with
    | none => false
    | some M' => decide (M_kd M' = kd) && decide (M_na M' = b) && (wd w (.methodLink (M_nm M).cls i (M_nm M')) || decide (((M_nm M).cls, i, M_nm M') ∈ ms_nest)) &&
      (match d with | 0 => decide (kd = 1) | ci + 1 => decide (kd ≠ 1) && (match ms_cls[ci]? with | some q => decide (q.1 = (M_nm M').cls) | none => false)) &&
      (match t with | [] => decide (M_mc M' = 0) && decide (M_ms M' = 0) | (kc, ks) :: _ => decide (kc.toNat = M_mc M') && decide (ks = M_ms M'))
def ms_cke (M : ms_M) (i : Nat) (x : ms_X) (y : MethodName) : Bool := match x with
  | (_, _, _, _, _, w) => wd w (.methodLink (M_nm M).cls i y)
/-- one instruction's data against its code -/
def ms_ckx (P : List ms_M) (M : ms_M) (pc : Nat) (raw : Instr) (x : ms_X) : Bool := match raw with
  | .iconst n => decide (n = x.1) && rgb x.1
  | .bipush n => decide ((Int8.ofInt n).toInt32 = Int32.ofInt x.1) && rgb x.1
  | .sipush n => decide ((Int16.ofInt n).toInt32 = Int32.ofInt x.1) && rgb x.1
  | .ldc i => wd x.2.2.2.2.2 (.constant (M_nm M).cls i (Int32.ofInt x.1)) && rgb x.1
  | .ldc_w i => wd x.2.2.2.2.2 (.constant (M_nm M).cls i (Int32.ofInt x.1)) && rgb x.1
  | .iload i => decide (i = x.2.1)
  | .iload_n k => decide (k.val = x.2.1)
  | .aload i => decide (i = x.2.1)
  | .aload_n k => decide (k.val = x.2.1)
  | .istore i => decide (i = x.2.1)
  | .istore_n k => decide (k.val = x.2.1)
  | .astore i => decide (i = x.2.1)
  | .astore_n k => decide (k.val = x.2.1)
  | .iinc i n => decide (i = x.2.1) && decide (n = x.1)
  | .ifCond _ off => decide ((pc : Int) + off = (B_pc (M_bl M x.2.1) : Int))
  | .if_icmp _ off => decide ((pc : Int) + off = (B_pc (M_bl M x.2.1) : Int))
  | .goto off => decide ((pc : Int) + off = (B_pc (M_bl M x.2.1) : Int))
  | .nop => decide (pc = B_pc (M_bl M x.2.1))
  | .tableswitch dflt lo hi offs => decide ((pc : Int) + dflt = (B_pc (M_bl M x.2.1) : Int)) && decide (hi = lo + offs.toList.length - 1) && ms_cktab M pc lo offs.toList x.2.2.2.2.1
  | .lookupswitch dflt ps => decide ((pc : Int) + dflt = (B_pc (M_bl M x.2.1) : Int)) && (ps.toList.zip (ps.toList.drop 1)).all (fun (a, next) => a.1 < next.1) && ms_cklk M pc ps.toList x.2.2.2.2.1
  | .getfield i => ms_ckf M i x
  | .putfield i => ms_ckf M i x && ms_ckw M x
  | .getstatic i => wd x.2.2.2.2.2 (.fieldLink (M_nm M).cls i "SleetLine" "ORDERS" "[I")
  | .invokevirtual i => ms_ckc P M i 0 x
  | .invokestatic i => if x.2.1 = 1000 then ms_cke M i x Lib.Math.max.name else if x.2.1 = 1001 then ms_cke M i x Lib.Math.min.name else if x.2.1 = 1002 then ms_cke M i x arraycopyName else ms_ckc P M i 1 x
  | .invokespecial i => if x.2.1 = 1003 then ms_cke M i x Lib.objectInit else ms_ckc P M i 2 x
  | .lconst n => decide (Int64.ofNat (n : Nat) = Int64.ofInt x.1) && rgb x.1
  | .ldc2_w i => wd x.2.2.2.2.2 (.constantLong (M_nm M).cls i (Int64.ofInt x.1)) && rgb x.1
  | .new i => (match ms_cls[x.2.1]? with | some (C, _, N) => wd x.2.2.2.2.2 (.classLink (M_nm M).cls i C) && wd x.2.2.1 (.instantiable C N) && wd x.2.2.2.1 (.initialized C) | none => false)
  | .newarray ty => (match ty with | .int => decide (x.2.2.1 = 10) | .boolean => decide (x.2.2.1 = 11) | _ => false)
  | .anewarray i => decide (x.2.2.1 = 12) && wd x.2.2.2.2.2 (.classLink (M_nm M).cls i RX1)
  | .ireturn => (match M_rt M with | some .int => decide (x.2.2.1 = 0) | some .boolean => decide (x.2.2.1 = 1) | _ => false)
  | .lreturn => decide (M_rt M = some .long)
  | .return_ => decide (M_rt M = none)
  | _ => true
def ms_falls : Instr → Bool
  | .goto _ => false
  | .nop => false
  | .tableswitch _ _ _ _ => false
  | .lookupswitch _ _ => false
  | .ireturn => false
  | .lreturn => false
  | .return_ => false
  | _ => true
/-- how long an instruction is -/
def ms_ln (raw : Instr) (n : Nat) : Nat := match raw with
  | .bipush _ => 2
  | .sipush _ => 3
  | .ldc _ => 2
  | .ldc_w _ => 3
  | .ldc2_w _ => 3
  | .iload _ => 2
  | .aload _ => 2
  | .istore _ => 2
  | .astore _ => 2
  | .iinc _ _ => 3
  | .ifCond _ _ => 3
  | .if_icmp _ _ => 3
  | .goto _ => 3
  | .tableswitch _ _ _ _ => n
  | .lookupswitch _ _ => n
  | .getfield _ => 3
  | .putfield _ => 3
  | .getstatic _ => 3
  | .invokevirtual _ => 3
  | .invokestatic _ => 3
  | .invokespecial _ => 3
  | .new _ => 3
  | .newarray _ => 2
  | .anewarray _ => 3
  | _ => 1
def ms_ckB (P : List ms_M) (M : ms_M) : ms_B → Bool
  | [] => true
  | (pc, raw, len, x) :: rest => (decide (raw = .nop) || decide (decode (M_by M) pc = .ok (raw, len))) && decide (len = ms_ln raw len) && ms_ckx P M pc raw x && (!ms_falls raw || decide (B_pc rest = pc + len)) && ms_ckB P M rest
/-- a method's own words, and all its blocks -/
def ms_ckM (P : List ms_M) (M : ms_M) : Bool := match M_pl M with
  | [p1, p2, p3, p4] => wd p1 (.code (M_nm M) (M_by M) (M_ml M) (M_rt M)) && wd p4 (.initialized (M_nm M).cls) &&
    (match M_kd M with
      | 0 => wd p2 (.instanceMethod (M_nm M)) && wd p3 (.selects (M_nm M).cls (M_nm M) (M_nm M)) && decide ((parseMethodDescriptor (M_nm M).desc).map (fun d => d.parameters.length + 1) = some (M_na M))
      | 1 => wd p2 (.static (M_nm M)) && decide ((parseMethodDescriptor (M_nm M).desc).map (fun d => d.parameters.length) = some (M_na M))
      | _ => wd p2 (.instanceMethod (M_nm M)) && decide ((M_nm M).name = "<init>") && decide (M_rt M = none) && decide ((parseMethodDescriptor (M_nm M).desc).map (fun d => d.parameters.length + 1) = some (M_na M))) &&
    decide ((M_nm M).cls ≠ "java/lang/invoke/MethodHandle" ∧ (M_nm M).cls ≠ "java/lang/invoke/VarHandle") && plainName (M_nm M).cls && decide (M_ml M ≤ 30) && decide (M_na M ≤ M_ml M) &&
    decide (M_rt M = none ∨ M_rt M = some .int ∨ M_rt M = some .boolean ∨ M_rt M = some .long) && decide (B_pc (M_bl M 0) = 0) &&
    (M.2.2.2.2.2.2.2.1.all (ms_ckB P M)) && (M.2.2.2.2.2.2.2.2.all (ms_ckB P M))
  | _ => false
theorem ms_ckM_bl {P : List ms_M} {M : ms_M} (h1 : M.2.2.2.2.2.2.2.1.all (ms_ckB P M) = true) (h2 : M.2.2.2.2.2.2.2.2.all (ms_ckB P M) = true) (t : Nat) : ms_ckB P M (M_bl M t) = true := by
  have key : ∀ (l : List ms_B) (k : Nat), l.all (ms_ckB P M) = true → ms_ckB P M (l.getD k []) = true := by
    intro l k hl
    rw [List.getD_eq_getElem?_getD]
    cases hk : l[k]? with
    | none => rfl
    | some B => exact List.all_eq_true.mp hl B (List.mem_of_getElem? hk)
  unfold M_bl
  split
  · exact key _ _ h2
  · exact key _ _ h1
