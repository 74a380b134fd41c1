/-! A small machine over whole numbers, and how its cells stand for the heap's. -/
abbrev ms_V : Type := Int ⊕ (Int ⊕ (Int ⊕ Nat))
abbrev mI (z : Int) : ms_V := Sum.inl z
abbrev mL (z : Int) : ms_V := Sum.inr (Sum.inl z)
abbrev mR (z : Int) : ms_V := Sum.inr (Sum.inr (Sum.inl z))
abbrev mE (n : Nat) : ms_V := Sum.inr (Sum.inr (Sum.inr n))
/-- an instruction's own data: c, a, b, d, a table, a place among the words -/
abbrev ms_X : Type := Int × Nat × Nat × Nat × List (Int × Nat) × Nat
abbrev ms_E : Type := Nat × Instr × Nat × ms_X
abbrev ms_B : Type := List ms_E
abbrev ms_S : Type := List (Nat × Nat)
abbrev ms_G : Type := ms_S × Nat × Nat
abbrev ms_H : Type := Int → Int → Int
abbrev ms_K : Type := List ms_V → List ms_V → ms_G → ms_H → Prop
abbrev ms_Q : Type := Option ms_V → ms_S → ms_H → Prop
abbrev ms_O : Type := Nat → List ms_V → ms_S → ms_H → ms_Q → Prop
abbrev ms_Z : Type := Nat → Option (Nat × (Int → Int))
def rg (z : Int) : Prop := -2147483648 ≤ z ∧ z ≤ 2147483647
def hs (h : ms_H) (z k v : Int) : ms_H := fun a b => if a = z ∧ b = k then v else h a b
def ms_cpy (h : ms_H) (s sp d dp n : Int) : ms_H := fun a b => if a = d ∧ dp ≤ b ∧ b < dp + n then h s (sp + (b - dp)) else h a b
/-- the types of fields: 0 int, 1 boolean, 2 long, 3 a reference -/
def ms_ftl : List (List Nat) := [[1, 0, 0, 0, 0, 0, 0], [0, 0, 3, 0, 3, 3, 3], [3, 0, 0, 0, 0, 0, 1, 1, 3], [0, 3, 3, 3, 0, 3, 0, 3, 3, 0, 3], [3, 3, 3, 3, 3, 3, 3, 0, 0, 0, 2], [0, 0, 0, 0, 3, 3, 3, 3, 3, 3, 3, 0, 0, 3, 0, 3, 2, 3, 0, 0, 0, 0, 0, 0, 0, 0, 3, 3, 3, 3, 0, 3, 0, 3, 3, 3, 3]]
def ms_ft (ci : Nat) (k : Int) : Nat := if k < 0 then 0 else (ms_ftl.getD ci []).getD k.toNat 0
def ms_N (ci : Nat) : Nat := (ms_ftl.getD ci []).length
def ms_nw (h : ms_H) (z : Int) (kd : Nat) : ms_H := fun a b => if a = z then (if kd = 12 ∨ (kd < 10 ∧ ms_ft kd b = 3) then -1 else 0) else h a b
/-- the shape of a cell: (class, fields), or (10 int, 11 boolean, 12 references; length) -/
def ms_sh (S : ms_S) (z : Int) : Option (Nat × Nat) := if z < 0 then none else S[z.toNat]?
def ms_ob (S : ms_S) (z : Int) (ci : Nat) : Prop := ms_sh S z = some (ci, ms_N ci)
def ms_ar (S : ms_S) (z : Int) (kd : Nat) (i : Int) (k : Prop) : Prop := ∃ n : Nat, ms_sh S z = some (kd, n) ∧ 0 ≤ i ∧ i < n ∧ k
-- the stack
def i1 (st : List ms_V) (k : Int → List ms_V → Prop) : Prop := match st with
  | Sum.inl z :: r => k z r
  | _ => False
def l1 (st : List ms_V) (k : Int → List ms_V → Prop) : Prop := match st with
  | Sum.inr (Sum.inl z) :: r => k z r
  | _ => False
def r1 (st : List ms_V) (k : Int → List ms_V → Prop) : Prop := match st with
  | Sum.inr (Sum.inr (Sum.inl z)) :: r => k z r
  | _ => False
theorem i1_c (z : Int) (r : List ms_V) (k : Int → List ms_V → Prop) : i1 (mI z :: r) k = k z r := rfl
theorem l1_c (z : Int) (r : List ms_V) (k : Int → List ms_V → Prop) : l1 (mL z :: r) k = k z r := rfl
theorem r1_c (z : Int) (r : List ms_V) (k : Int → List ms_V → Prop) : r1 (mR z :: r) k = k z r := rfl
theorem i1_x {st : List ms_V} {k : Int → List ms_V → Prop} (h : i1 st k) : ∃ z r, st = mI z :: r ∧ k z r := by
  unfold i1 at h
  split at h
  · exact ⟨_, _, rfl, h⟩
  · exact h.elim
theorem l1_x {st : List ms_V} {k : Int → List ms_V → Prop} (h : l1 st k) : ∃ z r, st = mL z :: r ∧ k z r := by
  unfold l1 at h
  split at h
  · exact ⟨_, _, rfl, h⟩
  · exact h.elim
theorem r1_x {st : List ms_V} {k : Int → List ms_V → Prop} (h : r1 st k) : ∃ z r, st = mR z :: r ∧ k z r := by
  unfold r1 at h
  split at h
  · exact ⟨_, _, rfl, h⟩
  · exact h.elim
theorem i1_m {st : List ms_V} {k k' : Int → List ms_V → Prop} (hk : ∀ z r, k z r → k' z r) (h : i1 st k) : i1 st k' := by
  obtain ⟨z, r, rfl, h⟩ := i1_x h
  exact hk z r h
theorem l1_m {st : List ms_V} {k k' : Int → List ms_V → Prop} (hk : ∀ z r, k z r → k' z r) (h : l1 st k) : l1 st k' := by
  obtain ⟨z, r, rfl, h⟩ := l1_x h
  exact hk z r h
theorem r1_m {st : List ms_V} {k k' : Int → List ms_V → Prop} (hk : ∀ z r, k z r → k' z r) (h : r1 st k) : r1 st k' := by
  obtain ⟨z, r, rfl, h⟩ := r1_x h
  exact hk z r h
theorem ms_ar_m {S : ms_S} {z : Int} {kd : Nat} {i : Int} {k k' : Prop} (hk : k → k') (h : ms_ar S z kd i k) : ms_ar S z kd i k' := by
  obtain ⟨n, h1, h2, h3, h4⟩ := h
  exact ⟨n, h1, h2, h3, hk h4⟩
def ms_nl : ms_V → Bool
  | Sum.inr (Sum.inl _) => false
  | _ => true
-- what each instruction does
def o_iload (a : Nat) (K : ms_K) : ms_K := fun L st G h => match L[a]? with
  | some (Sum.inl z) => K L (mI z :: st) G h
  | _ => False
def o_aload (a : Nat) (K : ms_K) : ms_K := fun L st G h => match L[a]? with
  | some (Sum.inr (Sum.inr x)) => K L (Sum.inr (Sum.inr x) :: st) G h
  | _ => False
def o_istore (a : Nat) (K : ms_K) : ms_K := fun L st G h => a < L.length ∧ i1 st (fun z r => K (L.set a (mI z)) r G h)
def o_astore (a : Nat) (K : ms_K) : ms_K := fun L st G h => a < L.length ∧ r1 st (fun z r => K (L.set a (mR z)) r G h)
def o_iinc (a : Nat) (c : Int) (K : ms_K) : ms_K := fun L st G h => match L[a]? with
  | some (Sum.inl z) => rg (z + c) ∧ K (L.set a (mI (z + c))) st G h
  | _ => False
def o_bin (f : Int → Int → Int) (K : ms_K) : ms_K := fun L st G h => i1 st (fun y r => i1 r (fun x r => rg (f x y) ∧ K L (mI (f x y) :: r) G h))
def o_div (K : ms_K) : ms_K := fun L st G h => i1 st (fun y r => i1 r (fun x r => ¬ y = 0 ∧ rg (x.tdiv y) ∧ K L (mI (x.tdiv y) :: r) G h))
def o_rem (K : ms_K) : ms_K := fun L st G h => i1 st (fun y r => i1 r (fun x r => ¬ y = 0 ∧ K L (mI (x.tmod y) :: r) G h))
def o_neg (K : ms_K) : ms_K := fun L st G h => i1 st (fun x r => rg (-x) ∧ K L (mI (-x) :: r) G h)
def o_and (K : ms_K) : ms_K := fun L st G h => i1 st (fun y r => i1 r (fun x r => if y = 1 then K L (mI (x % 2) :: r) G h else if y = 31 then K L (mI (x % 32) :: r) G h else 0 ≤ x ∧ 0 ≤ y ∧ K L (mI ((x.toNat &&& y.toNat : Nat) : Int) :: r) G h))
def o_shl (K : ms_K) : ms_K := fun L st G h => i1 st (fun y r => i1 r (fun x r => 0 ≤ y ∧ y ≤ 30 ∧ 0 ≤ x ∧ rg (x * 2 ^ y.toNat) ∧ K L (mI (x * 2 ^ y.toNat) :: r) G h))
def o_shr (K : ms_K) : ms_K := fun L st G h => i1 st (fun y r => i1 r (fun x r => 0 ≤ y ∧ y ≤ 30 ∧ 0 ≤ x ∧ K L (mI (x / 2 ^ y.toNat) :: r) G h))
def o_dup (K : ms_K) : ms_K := fun L st G h => match st with
  | Sum.inl z :: r => K L (mI z :: mI z :: r) G h
  | Sum.inr (Sum.inr x) :: r => K L (Sum.inr (Sum.inr x) :: Sum.inr (Sum.inr x) :: r) G h
  | _ => False
def o_pop (K : ms_K) : ms_K := fun L st G h => i1 st (fun _ r => K L r G h)
def o_dup2 (K : ms_K) : ms_K := fun L st G h => i1 st (fun i r => r1 r (fun z r => K L (mI i :: mR z :: mI i :: mR z :: r) G h))
def o_if (q : ClassFile.Cond) (J K : ms_K) : ms_K := fun L st G h => i1 st (fun x r => match q with
  | .eq => (x = 0 → J L r G h) ∧ (¬ x = 0 → K L r G h)
  | .ne => (¬ x = 0 → J L r G h) ∧ (x = 0 → K L r G h)
  | .lt => (x < 0 → J L r G h) ∧ (0 ≤ x → K L r G h)
  | .ge => (0 ≤ x → J L r G h) ∧ (x < 0 → K L r G h)
  | .gt => (0 < x → J L r G h) ∧ (x ≤ 0 → K L r G h)
  | .le => (x ≤ 0 → J L r G h) ∧ (0 < x → K L r G h))
def o_icmp (q : ClassFile.Cond) (J K : ms_K) : ms_K := fun L st G h => i1 st (fun y r => i1 r (fun x r => match q with
  | .eq => (x = y → J L r G h) ∧ (¬ x = y → K L r G h)
  | .ne => (¬ x = y → J L r G h) ∧ (x = y → K L r G h)
  | .lt => (x < y → J L r G h) ∧ (y ≤ x → K L r G h)
  | .ge => (y ≤ x → J L r G h) ∧ (x < y → K L r G h)
  | .gt => (y < x → J L r G h) ∧ (x ≤ y → K L r G h)
  | .le => (x ≤ y → J L r G h) ∧ (y < x → K L r G h)))
def o_sw : List (Int × Nat) → Nat → Int → (Nat → Prop) → Prop
  | [], d, _, k => k d
  | (v, tg) :: t, d, x, k => (x = v → k tg) ∧ (¬ x = v → o_sw t d x k)
def o_switch (t : List (Int × Nat)) (d : Nat) (J : Nat → ms_K) : ms_K := fun L st G h => i1 st (fun x r => o_sw t d x (fun tg => J tg L r G h))
def o_get (c : Int) (a b : Nat) (K : ms_K) : ms_K := fun L st G h => r1 st (fun z r => ms_ob G.1 z a ∧ (if b = 3 then 0 ≤ h z c ∧ K L (mR (h z c) :: r) G h else if b = 2 then K L (mL (h z c) :: r) G h else K L (mI (h z c) :: r) G h))
def o_put (c : Int) (a b : Nat) (K : ms_K) : ms_K := fun L st G h =>
  if b = 3 then r1 st (fun v r => r1 r (fun z r => ms_ob G.1 z a ∧ K L r G (hs h z c v)))
  else if b = 2 then l1 st (fun v r => r1 r (fun z r => ms_ob G.1 z a ∧ K L r G (hs h z c v)))
  else if b = 1 then i1 st (fun v r => r1 r (fun z r => ms_ob G.1 z a ∧ (v = 0 ∨ v = 1) ∧ K L r G (hs h z c v)))
  else i1 st (fun v r => r1 r (fun z r => ms_ob G.1 z a ∧ K L r G (hs h z c v)))
def o_iald (X : ms_Z) (K : ms_K) : ms_K := fun L st G h => i1 st (fun i r => match r with
  | Sum.inr (Sum.inr (Sum.inl z)) :: r => ms_ar G.1 z 10 i (K L (mI (h z i) :: r) G h)
  | Sum.inr (Sum.inr (Sum.inr n)) :: r => ∃ q, X n = some q ∧ 0 ≤ i ∧ i < q.1 ∧ K L (mI (q.2 i) :: r) G h
  | _ => False)
def o_iast (K : ms_K) : ms_K := fun L st G h => i1 st (fun v r => i1 r (fun i r => r1 r (fun z r => ms_ar G.1 z 10 i (K L r G (hs h z i v)))))
def o_zald (K : ms_K) : ms_K := fun L st G h => i1 st (fun i r => r1 r (fun z r => ms_ar G.1 z 11 i (K L (mI (h z i) :: r) G h)))
def o_zast (K : ms_K) : ms_K := fun L st G h => i1 st (fun v r => i1 r (fun i r => r1 r (fun z r => (v = 0 ∨ v = 1) ∧ ms_ar G.1 z 11 i (K L r G (hs h z i v)))))
def o_aald (K : ms_K) : ms_K := fun L st G h => i1 st (fun i r => r1 r (fun z r => ms_ar G.1 z 12 i (0 ≤ h z i ∧ K L (mR (h z i) :: r) G h)))
def o_aast (K : ms_K) : ms_K := fun L st G h => r1 st (fun v r => i1 r (fun i r => r1 r (fun z r => ms_ob G.1 v 1 ∧ ms_ar G.1 z 12 i (K L r G (hs h z i v)))))
def o_len (X : ms_Z) (K : ms_K) : ms_K := fun L st G h => match st with
  | Sum.inr (Sum.inr (Sum.inr n)) :: r => ∃ q, X n = some q ∧ K L (mI q.1 :: r) G h
  | _ => False
/-- how a call goes on -/
def o_back (kc ks : Nat) (K : ms_K) (L r : List ms_V) (G : ms_G) : ms_Q := fun v S' h' => match v with
  | none => K L r (S', G.2.1 + kc, G.2.2 + ks) h'
  | some v => K L (v :: r) (S', G.2.1 + kc, G.2.2 + ks) h'
/-- the receiver is of class d - 1; 0: there is none -/
def ms_rc (S : ms_S) (d : Nat) (vs : List ms_V) : Prop := match d, vs with
  | 0, _ => True
  | ci + 1, Sum.inr (Sum.inr (Sum.inl z)) :: _ => ms_ob S z ci
  | _ + 1, _ => False
theorem rc_0 (S : ms_S) (vs : List ms_V) : ms_rc S 0 vs = True := rfl
theorem rc_s (S : ms_S) (ci : Nat) (z : Int) (vs : List ms_V) : ms_rc S (ci + 1) (mR z :: vs) = ms_ob S z ci := rfl
theorem ms_rc_x {S : ms_S} {ci : Nat} {vs : List ms_V} (h : ms_rc S (ci + 1) vs) : ∃ z As, vs = mR z :: As ∧ ms_ob S z ci := by
  unfold ms_rc at h
  split at h
  · rename_i h1; cases h1
  · rename_i ci' z As h1; cases h1; exact ⟨z, As, rfl, h⟩
  · exact h.elim
/-- a call of method a with b arguments; d: the receiver's class and 1, or 0 -/
def o_call (O : ms_O) (mc ms a b d : Nat) (t : List (Int × Nat)) (K : ms_K) : ms_K := fun L st G h =>
  b ≤ st.length ∧ ((st.drop b).length ≤ 4 ∨ ((st.drop b).length ≤ 8 ∧ (st.drop b).all ms_nl = true)) ∧ (st.take b).all ms_nl = true ∧ ms_rc G.1 d (st.take b).reverse ∧
  (match t with | [] => O a (st.take b).reverse G.1 h (o_back 0 0 K L (st.drop b) G) | (kc, ks) :: _ => G.2.1 + kc.toNat ≤ mc ∧ G.2.2 + ks ≤ ms ∧ O a (st.take b).reverse G.1 h (o_back kc.toNat ks K L (st.drop b) G))
def o_max (K : ms_K) : ms_K := fun L st G h => i1 st (fun y r => i1 r (fun x r => r.length ≤ 4 ∧ K L (mI (max x y) :: r) G h))
def o_min (K : ms_K) : ms_K := fun L st G h => i1 st (fun y r => i1 r (fun x r => r.length ≤ 4 ∧ K L (mI (min x y) :: r) G h))
def o_copy (K : ms_K) : ms_K := fun L st G h => i1 st (fun n r => i1 r (fun dp r => r1 r (fun d r => i1 r (fun sp r => r1 r (fun s r => r.length ≤ 4 ∧ 0 ≤ n ∧ 0 ≤ sp ∧ 0 ≤ dp ∧
  ∃ n0 n1 : Nat, ms_sh G.1 s = some (10, n0) ∧ ms_sh G.1 d = some (10, n1) ∧ sp + n ≤ n0 ∧ dp + n ≤ n1 ∧ K L r G (ms_cpy h s sp d dp n))))))
def o_obj (K : ms_K) : ms_K := fun L st G h => r1 st (fun _ r => r.length ≤ 4 ∧ K L r G h)
def o_lpush (c : Int) (K : ms_K) : ms_K := fun L st G h => K L (mL c :: st) G h
def o_ladd (K : ms_K) : ms_K := fun L st G h => l1 st (fun y r => l1 r (fun x r => rg (x + y) ∧ K L (mL (x + y) :: r) G h))
def o_lcmp (K : ms_K) : ms_K := fun L st G h => l1 st (fun y r => l1 r (fun x r => x = y ∧ K L (mI 0 :: r) G h))
def o_new (mc ms a : Nat) (K : ms_K) : ms_K := fun L st G h => G.1.length < 1000 ∧ G.2.1 + 1 ≤ mc ∧ G.2.2 + ms_N a ≤ ms ∧ K L (mR G.1.length :: st) (G.1 ++ [(a, ms_N a)], G.2.1 + 1, G.2.2 + ms_N a) (ms_nw h G.1.length a)
def o_newa (mc ms kd : Nat) (K : ms_K) : ms_K := fun L st G h => i1 st (fun n r => 0 ≤ n ∧ (n ≤ 100000 ∧ G.1.length < 1000) ∧ G.2.1 + 1 ≤ mc ∧ G.2.2 + n.toNat ≤ ms ∧ K L (mR G.1.length :: r) (G.1 ++ [(kd, n.toNat)], G.2.1 + 1, G.2.2 + n.toNat) (ms_nw h G.1.length kd))
def o_iret (mc ms b : Nat) (Q : ms_Q) : ms_K := fun _ st G h => match st with
  | [Sum.inl z] => (b = 1 → z = 0 ∨ z = 1) ∧ G.2.1 ≤ mc ∧ G.2.2 ≤ ms ∧ Q (some (mI z)) G.1 h
  | _ => False
def o_lret (mc ms : Nat) (Q : ms_Q) : ms_K := fun _ st G h => match st with
  | [Sum.inr (Sum.inl z)] => G.2.1 ≤ mc ∧ G.2.2 ≤ ms ∧ Q (some (mL z)) G.1 h
  | _ => False
def o_vret (mc ms : Nat) (Q : ms_Q) : ms_K := fun _ st G h => match st with
  | [] => G.2.1 ≤ mc ∧ G.2.2 ≤ ms ∧ Q none G.1 h
  | _ => False
/-- one instruction -/
def ms_ex (O : ms_O) (X : ms_Z) (mc ms : Nat) (Q : ms_Q) (J : Nat → ms_K) (K : ms_K) (raw : Instr) (x : ms_X) : ms_K := match x with
  | (c, a, b, d, t, _) => match raw with
    | .iconst _ => fun L st G h => K L (mI c :: st) G h
    | .bipush _ => fun L st G h => K L (mI c :: st) G h
    | .sipush _ => fun L st G h => K L (mI c :: st) G h
    | .ldc _ => fun L st G h => K L (mI c :: st) G h
    | .ldc_w _ => fun L st G h => K L (mI c :: st) G h
    | .iload _ => o_iload a K
    | .iload_n _ => o_iload a K
    | .aload _ => o_aload a K
    | .aload_n _ => o_aload a K
    | .istore _ => o_istore a K
    | .istore_n _ => o_istore a K
    | .astore _ => o_astore a K
    | .astore_n _ => o_astore a K
    | .iinc _ _ => o_iinc a c K
    | .iadd => o_bin (fun x y => x + y) K
    | .isub => o_bin (fun x y => x - y) K
    | .imul => o_bin (fun x y => x * y) K
    | .idiv => o_div K
    | .irem => o_rem K
    | .ineg => o_neg K
    | .iand => o_and K
    | .ishl => o_shl K
    | .ishr => o_shr K
    | .iushr => o_shr K
    | .dup => o_dup K
    | .pop => o_pop K
    | .dup2 => o_dup2 K
    | .ifCond q _ => o_if q (J a) K
    | .if_icmp q _ => o_icmp q (J a) K
    | .goto _ => J a
    | .nop => J a
    | .tableswitch _ _ _ _ => o_switch t a J
    | .lookupswitch _ _ => o_switch t a J
    | .getfield _ => o_get c a b K
    | .putfield _ => o_put c a b K
    | .iaload => o_iald X K
    | .iastore => o_iast K
    | .baload => o_zald K
    | .bastore => o_zast K
    | .aaload => o_aald K
    | .aastore => o_aast K
    | .arraylength => o_len X K
    | .getstatic _ => fun L st G h => K L (mE 1 :: st) G h
    | .invokevirtual _ => o_call O mc ms a b d t K
    | .invokestatic _ => if a = 1000 then o_max K else if a = 1001 then o_min K else if a = 1002 then o_copy K else o_call O mc ms a b d t K
    | .invokespecial _ => if a = 1003 then o_obj K else o_call O mc ms a b d t K
    | .lconst _ => o_lpush c K
    | .ldc2_w _ => o_lpush c K
    | .ladd => o_ladd K
    | .lcmp => o_lcmp K
    | .new _ => o_new mc ms a K
    | .newarray _ => o_newa mc ms b K
    | .anewarray _ => o_newa mc ms b K
    | .ireturn => o_iret mc ms b Q
    | .lreturn => o_lret mc ms Q
    | .return_ => o_vret mc ms Q
    | _ => fun _ _ _ _ => False
