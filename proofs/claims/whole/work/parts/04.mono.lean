/-! The small machine is monotone; blocks, runs, what a method is owed. -/
section
variable {K K' : ms_K} {L st : List ms_V} {G : ms_G} {h : ms_H}
theorem o_iload_m {a : Nat} (hK : ∀ L st G h, K L st G h → K' L st G h) (q : o_iload a K L st G h) : o_iload a K' L st G h := by
  unfold o_iload at q ⊢
  split at q
  · exact hK _ _ _ _ q
  · exact q.elim
theorem o_aload_m {a : Nat} (hK : ∀ L st G h, K L st G h → K' L st G h) (q : o_aload a K L st G h) : o_aload a K' L st G h := by
  unfold o_aload at q ⊢
  split at q
  · exact hK _ _ _ _ q
  · exact q.elim
theorem o_iinc_m {a : Nat} {c : Int} (hK : ∀ L st G h, K L st G h → K' L st G h) (q : o_iinc a c K L st G h) : o_iinc a c K' L st G h := by
  unfold o_iinc at q ⊢
  split at q
  · exact ⟨q.1, hK _ _ _ _ q.2⟩
  · exact q.elim
theorem o_dup_m (hK : ∀ L st G h, K L st G h → K' L st G h) (q : o_dup K L st G h) : o_dup K' L st G h := by
  unfold o_dup at q ⊢
  split at q
  · exact hK _ _ _ _ q
  · exact hK _ _ _ _ q
  · exact q.elim
theorem o_if_m {q : ClassFile.Cond} {J J' : ms_K} (hJ : ∀ L st G h, J L st G h → J' L st G h) (hK : ∀ L st G h, K L st G h → K' L st G h) (x : o_if q J K L st G h) : o_if q J' K' L st G h := by
  refine i1_m (fun z r => ?_) x
  cases q <;> exact fun w => ⟨fun u => hJ _ _ _ _ (w.1 u), fun u => hK _ _ _ _ (w.2 u)⟩
theorem o_icmp_m {q : ClassFile.Cond} {J J' : ms_K} (hJ : ∀ L st G h, J L st G h → J' L st G h) (hK : ∀ L st G h, K L st G h → K' L st G h) (x : o_icmp q J K L st G h) : o_icmp q J' K' L st G h := by
  refine i1_m (fun z r => i1_m (fun z2 r => ?_)) x
  cases q <;> exact fun w => ⟨fun u => hJ _ _ _ _ (w.1 u), fun u => hK _ _ _ _ (w.2 u)⟩
theorem o_sw_m {x : Int} {d : Nat} {k k' : Nat → Prop} (hk : ∀ t, k t → k' t) : ∀ (t : List (Int × Nat)), o_sw t d x k → o_sw t d x k'
  | [], q => hk _ q
  | (_, _) :: t, q => ⟨fun u => hk _ (q.1 u), fun u => o_sw_m hk t (q.2 u)⟩
theorem o_switch_m {t : List (Int × Nat)} {d : Nat} {J J' : Nat → ms_K} (hJ : ∀ t L st G h, J t L st G h → J' t L st G h) (x : o_switch t d J L st G h) : o_switch t d J' L st G h :=
  i1_m (fun _ _ q => o_sw_m (fun t => hJ t _ _ _ _) _ q) x
theorem o_and_m (hK : ∀ L st G h, K L st G h → K' L st G h) (q : o_and K L st G h) : o_and K' L st G h := by
  refine i1_m (fun y r => i1_m (fun x r => ?_)) q
  split
  · exact hK _ _ _ _
  · split
    · exact hK _ _ _ _
    · exact fun w => ⟨w.1, w.2.1, hK _ _ _ _ w.2.2⟩
theorem o_get_m {c : Int} {a b : Nat} (hK : ∀ L st G h, K L st G h → K' L st G h) (q : o_get c a b K L st G h) : o_get c a b K' L st G h := by
  refine r1_m (fun z r w => ⟨w.1, ?_⟩) q
  have w2 := w.2
  split
  · rename_i hb; rw [if_pos hb] at w2; exact ⟨w2.1, hK _ _ _ _ w2.2⟩
  · rename_i hb; rw [if_neg hb] at w2
    split
    · rename_i hb; rw [if_pos hb] at w2; exact hK _ _ _ _ w2
    · rename_i hb; rw [if_neg hb] at w2; exact hK _ _ _ _ w2
theorem o_put_m {c : Int} {a b : Nat} (hK : ∀ L st G h, K L st G h → K' L st G h) (q : o_put c a b K L st G h) : o_put c a b K' L st G h := by
  unfold o_put at q ⊢
  split
  · rename_i hb; rw [if_pos hb] at q; exact r1_m (fun v r => r1_m (fun z r w => ⟨w.1, hK _ _ _ _ w.2⟩)) q
  · rename_i hb; rw [if_neg hb] at q
    split
    · rename_i hb; rw [if_pos hb] at q; exact l1_m (fun v r => r1_m (fun z r w => ⟨w.1, hK _ _ _ _ w.2⟩)) q
    · rename_i hb; rw [if_neg hb] at q
      split
      · rename_i hb; rw [if_pos hb] at q; exact i1_m (fun v r => r1_m (fun z r w => ⟨w.1, w.2.1, hK _ _ _ _ w.2.2⟩)) q
      · rename_i hb; rw [if_neg hb] at q; exact i1_m (fun v r => r1_m (fun z r w => ⟨w.1, hK _ _ _ _ w.2⟩)) q
theorem o_iald_m {X : ms_Z} (hK : ∀ L st G h, K L st G h → K' L st G h) (q : o_iald X K L st G h) : o_iald X K' L st G h := by
  refine i1_m (fun i r w => ?_) q
  split at w
  · exact ms_ar_m (hK _ _ _ _) w
  · obtain ⟨x, w1, w2, w3, w4⟩ := w
    exact ⟨x, w1, w2, w3, hK _ _ _ _ w4⟩
  · exact w.elim
theorem o_len_m {X : ms_Z} (hK : ∀ L st G h, K L st G h → K' L st G h) (q : o_len X K L st G h) : o_len X K' L st G h := by
  unfold o_len at q ⊢
  split at q
  · obtain ⟨x, w1, w2⟩ := q
    exact ⟨x, w1, hK _ _ _ _ w2⟩
  · exact q.elim
theorem o_back_m {kc ks : Nat} {r : List ms_V} (hK : ∀ L st G h, K L st G h → K' L st G h) (v : Option ms_V) (S : ms_S) (h : ms_H) (q : o_back kc ks K L r G v S h) : o_back kc ks K' L r G v S h := by
  cases v <;> exact hK _ _ _ _ q
def ms_mono (O : ms_O) : Prop := ∀ y args S h Q Q', (∀ v S h, Q v S h → Q' v S h) → O y args S h Q → O y args S h Q'
theorem o_call_m {O : ms_O} {mc ms a b d : Nat} {t : List (Int × Nat)} (hO : ms_mono O) (hK : ∀ L st G h, K L st G h → K' L st G h) (q : o_call O mc ms a b d t K L st G h) : o_call O mc ms a b d t K' L st G h := by
  refine ⟨q.1, q.2.1, q.2.2.1, q.2.2.2.1, ?_⟩
  have w := q.2.2.2.2
  split at w
  · exact hO _ _ _ _ _ _ (o_back_m hK) w
  · exact ⟨w.1, w.2.1, hO _ _ _ _ _ _ (o_back_m hK) w.2.2⟩
end
section
variable {O : ms_O} {X : ms_Z} {mc ms : Nat} {Q Q' : ms_Q} {J J' : Nat → ms_K} {K K' : ms_K} {L st : List ms_V} {G : ms_G} {h : ms_H}
theorem o_iret_m {b : Nat} (hQ : ∀ v S h, Q v S h → Q' v S h) (q : o_iret mc ms b Q L st G h) : o_iret mc ms b Q' L st G h := by
  unfold o_iret at q ⊢
  split at q
  · exact ⟨q.1, q.2.1, q.2.2.1, hQ _ _ _ q.2.2.2⟩
  · exact q.elim
theorem o_lret_m (hQ : ∀ v S h, Q v S h → Q' v S h) (q : o_lret mc ms Q L st G h) : o_lret mc ms Q' L st G h := by
  unfold o_lret at q ⊢
  split at q
  · exact ⟨q.1, q.2.1, hQ _ _ _ q.2.2⟩
  · exact q.elim
theorem o_vret_m (hQ : ∀ v S h, Q v S h → Q' v S h) (q : o_vret mc ms Q L st G h) : o_vret mc ms Q' L st G h := by
  unfold o_vret at q ⊢
  split at q
  · exact ⟨q.1, q.2.1, hQ _ _ _ q.2.2⟩
  · exact q.elim
set_option maxHeartbeats 4000000 in
theorem ms_ex_m (hO : ms_mono O) (hQ : ∀ v S h, Q v S h → Q' v S h) (hJ : ∀ t L st G h, J t L st G h → J' t L st G h) (hK : ∀ L st G h, K L st G h → K' L st G h) (raw : Instr) (x : ms_X)
    (q : ms_ex O X mc ms Q J K raw x L st G h) : ms_ex O X mc ms Q' J' K' raw x L st G h := by
  obtain ⟨c, a, b, d, t, w⟩ := x
  cases raw
  case iconst => exact hK _ _ _ _ q
  case bipush => exact hK _ _ _ _ q
  case sipush => exact hK _ _ _ _ q
  case ldc => exact hK _ _ _ _ q
  case ldc_w => exact hK _ _ _ _ q
  case iload => exact o_iload_m hK q
  case iload_n => exact o_iload_m hK q
  case aload => exact o_aload_m hK q
  case aload_n => exact o_aload_m hK q
  case istore => exact ⟨q.1, i1_m (fun _ _ => hK _ _ _ _) q.2⟩
  case istore_n => exact ⟨q.1, i1_m (fun _ _ => hK _ _ _ _) q.2⟩
  case astore => exact ⟨q.1, r1_m (fun _ _ => hK _ _ _ _) q.2⟩
  case astore_n => exact ⟨q.1, r1_m (fun _ _ => hK _ _ _ _) q.2⟩
  case iinc => exact o_iinc_m hK q
  case iadd => exact i1_m (fun _ _ => i1_m (fun _ _ w => ⟨w.1, hK _ _ _ _ w.2⟩)) q
  case isub => exact i1_m (fun _ _ => i1_m (fun _ _ w => ⟨w.1, hK _ _ _ _ w.2⟩)) q
  case imul => exact i1_m (fun _ _ => i1_m (fun _ _ w => ⟨w.1, hK _ _ _ _ w.2⟩)) q
  case idiv => exact i1_m (fun _ _ => i1_m (fun _ _ w => ⟨w.1, w.2.1, hK _ _ _ _ w.2.2⟩)) q
  case irem => exact i1_m (fun _ _ => i1_m (fun _ _ w => ⟨w.1, hK _ _ _ _ w.2⟩)) q
  case ineg => exact i1_m (fun _ _ w => ⟨w.1, hK _ _ _ _ w.2⟩) q
  case iand => exact o_and_m hK q
  case ishl => exact i1_m (fun _ _ => i1_m (fun _ _ w => ⟨w.1, w.2.1, w.2.2.1, w.2.2.2.1, hK _ _ _ _ w.2.2.2.2⟩)) q
  case ishr => exact i1_m (fun _ _ => i1_m (fun _ _ w => ⟨w.1, w.2.1, w.2.2.1, hK _ _ _ _ w.2.2.2⟩)) q
  case iushr => exact i1_m (fun _ _ => i1_m (fun _ _ w => ⟨w.1, w.2.1, w.2.2.1, hK _ _ _ _ w.2.2.2⟩)) q
  case dup => exact o_dup_m hK q
  case pop => exact i1_m (fun _ _ => hK _ _ _ _) q
  case dup2 => exact i1_m (fun _ _ => r1_m (fun _ _ => hK _ _ _ _)) q
  case ifCond => exact o_if_m (hJ _) hK q
  case if_icmp => exact o_icmp_m (hJ _) hK q
  case goto => exact hJ _ _ _ _ _ q
  case nop => exact hJ _ _ _ _ _ q
  case tableswitch => exact o_switch_m hJ q
  case lookupswitch => exact o_switch_m hJ q
  case getfield => exact o_get_m hK q
  case putfield => exact o_put_m hK q
  case iaload => exact o_iald_m hK q
  case iastore => exact i1_m (fun _ _ => i1_m (fun _ _ => r1_m (fun _ _ => ms_ar_m (hK _ _ _ _)))) q
  case baload => exact i1_m (fun _ _ => r1_m (fun _ _ => ms_ar_m (hK _ _ _ _))) q
  case bastore => exact i1_m (fun _ _ => i1_m (fun _ _ => r1_m (fun _ _ w => ⟨w.1, ms_ar_m (hK _ _ _ _) w.2⟩))) q
  case aaload => exact i1_m (fun _ _ => r1_m (fun _ _ => ms_ar_m (fun w => ⟨w.1, hK _ _ _ _ w.2⟩))) q
  case aastore => exact r1_m (fun _ _ => i1_m (fun _ _ => r1_m (fun _ _ w => ⟨w.1, ms_ar_m (hK _ _ _ _) w.2⟩))) q
  case arraylength => exact o_len_m hK q
  case getstatic => exact hK _ _ _ _ q
  case invokevirtual => exact o_call_m hO hK q
  case invokestatic =>
    simp only [ms_ex] at q ⊢
    split
    · rename_i hb; rw [if_pos hb] at q; exact i1_m (fun _ _ => i1_m (fun _ _ w => ⟨w.1, hK _ _ _ _ w.2⟩)) q
    · rename_i hb; rw [if_neg hb] at q
      split
      · rename_i hb; rw [if_pos hb] at q; exact i1_m (fun _ _ => i1_m (fun _ _ w => ⟨w.1, hK _ _ _ _ w.2⟩)) q
      · rename_i hb; rw [if_neg hb] at q
        split
        · rename_i hb; rw [if_pos hb] at q
          refine i1_m (fun _ _ => i1_m (fun _ _ => r1_m (fun _ _ => i1_m (fun _ _ => r1_m (fun _ _ w => ?_))))) q
          obtain ⟨w1, w2, w3, w4, n0, n1, w5, w6, w7, w8, w9⟩ := w
          exact ⟨w1, w2, w3, w4, n0, n1, w5, w6, w7, w8, hK _ _ _ _ w9⟩
        · rename_i hb; rw [if_neg hb] at q; exact o_call_m hO hK q
  case invokespecial =>
    simp only [ms_ex] at q ⊢
    split
    · rename_i hb; rw [if_pos hb] at q; exact r1_m (fun _ _ w => ⟨w.1, hK _ _ _ _ w.2⟩) q
    · rename_i hb; rw [if_neg hb] at q; exact o_call_m hO hK q
  case lconst => exact hK _ _ _ _ q
  case ldc2_w => exact hK _ _ _ _ q
  case ladd => exact l1_m (fun _ _ => l1_m (fun _ _ w => ⟨w.1, hK _ _ _ _ w.2⟩)) q
  case lcmp => exact l1_m (fun _ _ => l1_m (fun _ _ w => ⟨w.1, hK _ _ _ _ w.2⟩)) q
  case new => exact ⟨q.1, q.2.1, q.2.2.1, hK _ _ _ _ q.2.2.2⟩
  case newarray => exact i1_m (fun _ _ w => ⟨w.1, w.2.1, w.2.2.1, w.2.2.2.1, hK _ _ _ _ w.2.2.2.2⟩) q
  case anewarray => exact i1_m (fun _ _ w => ⟨w.1, w.2.1, w.2.2.1, w.2.2.2.1, hK _ _ _ _ w.2.2.2.2⟩) q
  case ireturn => exact o_iret_m (L := L) hQ q
  case lreturn => exact o_lret_m (L := L) hQ q
  case return_ => exact o_vret_m (L := L) hQ q
  all_goals exact q.elim
end
/-- a method: name, bytes, locals, answer, (cells, slots), (kind: 0 virtual, 1 static, 2 <init>; arguments), places of its words, blocks, heads of loops -/
abbrev ms_M : Type := MethodName × ByteArray × Nat × Option FieldType × (Nat × Nat) × (Nat × Nat) × List Nat × List ms_B × List ms_B
def M_nm (M : ms_M) : MethodName := M.1
def M_by (M : ms_M) : ByteArray := M.2.1
def M_ml (M : ms_M) : Nat := M.2.2.1
def M_rt (M : ms_M) : Option FieldType := M.2.2.2.1
def M_mc (M : ms_M) : Nat := M.2.2.2.2.1.1
def M_ms (M : ms_M) : Nat := M.2.2.2.2.1.2
def M_kd (M : ms_M) : Nat := M.2.2.2.2.2.1.1
def M_na (M : ms_M) : Nat := M.2.2.2.2.2.1.2
def M_pl (M : ms_M) : List Nat := M.2.2.2.2.2.2.1
def M_bl (M : ms_M) (t : Nat) : ms_B := if 100 ≤ t then M.2.2.2.2.2.2.2.2.getD (t - 100) [] else M.2.2.2.2.2.2.2.1.getD t []
/-- a relation on states that holds where one instruction leads into it -/
def ms_cl (O : ms_O) (X : ms_Z) (M : ms_M) (Q : ms_Q) (R : ms_B → ms_K) : Prop :=
  ∀ pc raw len x rest L st G h, ms_ex O X (M_mc M) (M_ms M) Q (fun t => R (M_bl M t)) (R rest) raw x L st G h → R ((pc, raw, len, x) :: rest) L st G h
def ms_WP (O : ms_O) (X : ms_Z) (M : ms_M) (Q : ms_Q) (B : ms_B) : ms_K := fun L st G h => ∀ R : ms_B → ms_K, ms_cl O X M Q R → R B L st G h
def ms_seq (O : ms_O) (X : ms_Z) (M : ms_M) (Q : ms_Q) (J : Nat → ms_K) : ms_B → ms_K
  | [] => fun _ _ _ _ => False
  | (_, raw, _, x) :: rest => ms_ex O X (M_mc M) (M_ms M) Q J (ms_seq O X M Q J rest) raw x
def ms_run (O : ms_O) (X : ms_Z) (M : ms_M) (Q : ms_Q) (R : Nat → ms_K) : Nat → Nat → ms_K
  | 0, t => R t
  | k + 1, t => if 100 ≤ t then R t else ms_seq O X M Q (ms_run O X M Q R k) (M_bl M t)
section
variable {O : ms_O} {X : ms_Z} {M : ms_M} {Q : ms_Q}
theorem ms_seq_R {R : ms_B → ms_K} {J : Nat → ms_K} (hO : ms_mono O) (hR : ms_cl O X M Q R) (hJ : ∀ t L st G h, J t L st G h → R (M_bl M t) L st G h) : ∀ (B : ms_B) (L st : List ms_V) (G : ms_G) (h : ms_H), ms_seq O X M Q J B L st G h → R B L st G h
  | [], _, _, _, _, q => q.elim
  | (pc, raw, len, x) :: rest, L, st, G, h, q => hR pc raw len x rest L st G h (ms_ex_m hO (fun _ _ _ u => u) hJ (fun L st G h => ms_seq_R hO hR hJ rest L st G h) raw x q)
theorem ms_run_R {R : ms_B → ms_K} (hO : ms_mono O) (hR : ms_cl O X M Q R) : ∀ (k t : Nat) (L st : List ms_V) (G : ms_G) (h : ms_H), ms_run O X M Q (fun t => R (M_bl M t)) k t L st G h → R (M_bl M t) L st G h
  | 0, t, L, st, G, h, q => q
  | k + 1, t, L, st, G, h, q => by
    unfold ms_run at q
    split at q
    · exact q
    · exact ms_seq_R hO hR (ms_run_R hO hR k) _ _ _ _ _ q
/-- what is owed of a state closes it: from the block's instructions, or from a walk over blocks -/
theorem ms_WP_cl (hO : ms_mono O) : ms_cl O X M Q (fun B => ms_WP O X M Q B) := by
  intro pc raw len x rest L st G h q R hR
  exact hR pc raw len x rest L st G h (ms_ex_m hO (fun _ _ _ u => u) (fun t L st G h u => u R hR) (fun L st G h u => u R hR) raw x q)
theorem ms_go (hO : ms_mono O) (k t : Nat) {L st : List ms_V} {G : ms_G} {h : ms_H} (q : ms_seq O X M Q (ms_run O X M Q (fun t => ms_WP O X M Q (M_bl M t)) k) (M_bl M t) L st G h) : ms_WP O X M Q (M_bl M t) L st G h :=
  ms_seq_R (R := fun B => ms_WP O X M Q B) hO (ms_WP_cl hO) (ms_run_R (R := fun B => ms_WP O X M Q B) hO (ms_WP_cl hO) k) _ _ _ _ _ q
theorem ms_WP_m {Q' : ms_Q} (hO : ms_mono O) (hQ : ∀ v S h, Q v S h → Q' v S h) {B : ms_B} {L st : List ms_V} {G : ms_G} {h : ms_H} (q : ms_WP O X M Q B L st G h) : ms_WP O X M Q' B L st G h := by
  intro R hR
  refine q R (fun pc raw len x rest L st G h w => hR pc raw len x rest L st G h ?_)
  exact ms_ex_m hO hQ (fun _ _ _ _ _ u => u) (fun _ _ _ _ u => u) raw x w
end
/-- the static array of orders -/
def ms_ord (i : Int) : Int := if i = 0 then 1 else if i = 1 then 1 else if i = 2 then 2 else if i = 3 then 6 else if i = 4 then 24 else if i = 5 then 120 else 720
def ms_X1 : ms_Z := fun n => if n = 1 then some (7, ms_ord) else none
def ms_pad (n : Nat) (vs : List ms_V) : List ms_V := vs ++ List.replicate (n - vs.length) (mL 0)
/-- method y, called with these arguments in this heap, comes back with Q, within d frames -/
def ms_Ok (P : List ms_M) : Nat → ms_O
  | 0 => fun _ _ _ _ _ => False
  | d + 1 => fun y args S h Q => ∃ M, P[y]? = some M ∧ args.length = M_na M ∧ ms_WP (ms_Ok P d) ms_X1 M Q (M_bl M 0) (ms_pad (M_ml M) args) [] (S, 0, 0) h
theorem ms_Ok_m (P : List ms_M) : ∀ d, ms_mono (ms_Ok P d)
  | 0, _, _, _, _, _, _, _, q => q.elim
  | d + 1, y, args, S, h, Q, Q', hQ, q => by
    obtain ⟨M, h1, h2, h3⟩ := q
    exact ⟨M, h1, h2, ms_WP_m (ms_Ok_m P d) hQ h3⟩
