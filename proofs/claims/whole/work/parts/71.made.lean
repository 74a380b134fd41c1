/-! Constructors: nothing is unknown there, so they are reckoned out. -/
abbrev lg : Type := List (Nat × Int × Int × Int)
def dg : lg → ms_H
  | [] => fun _ _ => 0
  | (0, z, k, v) :: r => hs (dg r) z k v
  | (_ + 1, z, k, _) :: r => ms_nw (dg r) z k.toNat
abbrev evE : Type := Nat → List ms_V → ms_S → lg → Option (ms_S × lg)
abbrev evT : Type := Option (List ms_V × List ms_V × ms_G × lg)
def rcb (S : ms_S) (d : Nat) (vs : List ms_V) : Bool := match d, vs with
  | 0, _ => true
  | ci + 1, Sum.inr (Sum.inr (Sum.inl z)) :: _ => decide (ms_sh S z = some (ci, ms_N ci))
  | _ + 1, _ => false
theorem rcb_ok {S : ms_S} {d : Nat} {vs : List ms_V} (h : rcb S d vs = true) : ms_rc S d vs := by
  unfold rcb at h
  split at h
  · trivial
  · have h' := of_decide_eq_true h
    exact h'
  · cases h
def ev_st (L : List ms_V) (a : Nat) (v : ms_V) (r : List ms_V) (G : ms_G) (l : lg) : evT := if a < L.length then some (L.set a v, r, G, l) else none
def ev_ob (L : List ms_V) (a : Nat) (z c v : Int) (ok : Bool) (r : List ms_V) (G : ms_G) (l : lg) : evT := if ms_sh G.1 z = some (a, ms_N a) ∧ ok = true then some (L, r, G, (0, z, c, v) :: l) else none
def ev_put (b a : Nat) (c : Int) (L st : List ms_V) (G : ms_G) (l : lg) : evT := match st with
  | Sum.inr (Sum.inr (Sum.inl v)) :: Sum.inr (Sum.inr (Sum.inl z)) :: r => if b = 3 then ev_ob L a z c v true r G l else none
  | Sum.inr (Sum.inl v) :: Sum.inr (Sum.inr (Sum.inl z)) :: r => if b = 2 then ev_ob L a z c v true r G l else none
  | Sum.inl v :: Sum.inr (Sum.inr (Sum.inl z)) :: r => if b = 1 then ev_ob L a z c v (decide (v = 0 ∨ v = 1)) r G l else if b = 0 then ev_ob L a z c v true r G l else none
  | _ => none
def ev_arr (kd : Nat) (L : List ms_V) (z i v : Int) (ok : Bool) (r : List ms_V) (G : ms_G) (l : lg) : evT := match ms_sh G.1 z with
  | some q => if q.1 = kd ∧ 0 ≤ i ∧ i < (q.2 : Int) ∧ ok = true then some (L, r, G, (0, z, i, v) :: l) else none
  | none => none
def ev_newa (mc ms b : Nat) (L : List ms_V) (n : Int) (r : List ms_V) (G : ms_G) (l : lg) : evT := if 0 ≤ n ∧ (n ≤ 100000 ∧ G.1.length < 1000) ∧ G.2.1 + 1 ≤ mc ∧ G.2.2 + n.toNat ≤ ms then some (L, mR G.1.length :: r, (G.1 ++ [(b, n.toNat)], G.2.1 + 1, G.2.2 + n.toNat), (1, (G.1.length : Int), (b : Int), 0) :: l) else none
def ev_back (L r : List ms_V) (kc ks : Nat) (G : ms_G) (x : Option (ms_S × lg)) : evT := match x with
  | some q => some (L, r, (q.1, G.2.1 + kc, G.2.2 + ks), q.2)
  | none => none
def ev_call (E : evE) (mc ms a b d : Nat) (t : List (Int × Nat)) (L st : List ms_V) (G : ms_G) (l : lg) : evT :=
  if b ≤ st.length ∧ ((st.drop b).length ≤ 4 ∨ ((st.drop b).length ≤ 8 ∧ (st.drop b).all ms_nl = true)) ∧ (st.take b).all ms_nl = true ∧ rcb G.1 d (st.take b).reverse = true then (match t with
    | [] => ev_back L (st.drop b) 0 0 G (E a (st.take b).reverse G.1 l)
    | (kc, ks) :: _ => if G.2.1 + kc.toNat ≤ mc ∧ G.2.2 + ks ≤ ms then ev_back L (st.drop b) kc.toNat ks G (E a (st.take b).reverse G.1 l) else none) else none
def evS (E : evE) (mc ms : Nat) (raw : Instr) (x : ms_X) (L st : List ms_V) (G : ms_G) (l : lg) : evT := match x with
  | (c, a, b, d, t, _) => match raw with
    | .iconst _ => some (L, mI c :: st, G, l)
    | .bipush _ => some (L, mI c :: st, G, l)
    | .sipush _ => some (L, mI c :: st, G, l)
    | .lconst _ => some (L, mL c :: st, G, l)
    | .aload_n _ => (match L[a]? with
      | some (Sum.inr (Sum.inr x)) => some (L, Sum.inr (Sum.inr x) :: st, G, l)
      | _ => none)
    | .istore_n _ => (match st with
      | Sum.inl z :: r => ev_st L a (mI z) r G l
      | _ => none)
    | .astore_n _ => (match st with
      | Sum.inr (Sum.inr (Sum.inl z)) :: r => ev_st L a (mR z) r G l
      | _ => none)
    | .dup => (match st with
      | Sum.inl z :: r => some (L, mI z :: mI z :: r, G, l)
      | Sum.inr (Sum.inr x) :: r => some (L, Sum.inr (Sum.inr x) :: Sum.inr (Sum.inr x) :: r, G, l)
      | _ => none)
    | .putfield _ => ev_put b a c L st G l
    | .getfield _ => (match st with
      | Sum.inr (Sum.inr (Sum.inl z)) :: r => if b = 3 ∧ ms_sh G.1 z = some (a, ms_N a) ∧ 0 ≤ dg l z c then some (L, mR (dg l z c) :: r, G, l) else none
      | _ => none)
    | .iastore => (match st with
      | Sum.inl v :: Sum.inl i :: Sum.inr (Sum.inr (Sum.inl z)) :: r => ev_arr 10 L z i v true r G l
      | _ => none)
    | .aastore => (match st with
      | Sum.inr (Sum.inr (Sum.inl v)) :: Sum.inl i :: Sum.inr (Sum.inr (Sum.inl z)) :: r => ev_arr 12 L z i v (decide (ms_sh G.1 v = some (1, ms_N 1))) r G l
      | _ => none)
    | .new _ => if G.1.length < 1000 ∧ G.2.1 + 1 ≤ mc ∧ G.2.2 + ms_N a ≤ ms then some (L, mR G.1.length :: st, (G.1 ++ [(a, ms_N a)], G.2.1 + 1, G.2.2 + ms_N a), (1, (G.1.length : Int), (a : Int), 0) :: l) else none
    | .newarray _ => (match st with
      | Sum.inl n :: r => ev_newa mc ms b L n r G l
      | _ => none)
    | .anewarray _ => (match st with
      | Sum.inl n :: r => ev_newa mc ms b L n r G l
      | _ => none)
    | .invokespecial _ => if a = 1003 then (match st with
      | Sum.inr (Sum.inr (Sum.inl _)) :: r => if r.length ≤ 4 then some (L, r, G, l) else none
      | _ => none) else ev_call E mc ms a b d t L st G l
    | _ => none
def ev_ok (E : evE) (O : ms_O) : Prop := ∀ y args S l S' l', E y args S l = some (S', l') → ∀ Q : ms_Q, Q none S' (dg l') → O y args S (dg l) Q
section
variable {E : evE} {O : ms_O} {X : ms_Z} {mc ms : Nat} {Q : ms_Q} {J : Nat → ms_K} {K : ms_K} {L st L' st' : List ms_V} {G G' : ms_G} {l l' : lg}
theorem ev_st_ok {a : Nat} {v : ms_V} {r : List ms_V} (h : ev_st L a v r G l = some (L', st', G', l')) : a < L.length ∧ L' = L.set a v ∧ st' = r ∧ G' = G ∧ l' = l := by
  unfold ev_st at h
  split at h
  · rename_i h1; cases h; exact ⟨h1, rfl, rfl, rfl, rfl⟩
  · cases h
theorem ev_ob_ok {a : Nat} {z c v : Int} {ok : Bool} {r : List ms_V} (h : ev_ob L a z c v ok r G l = some (L', st', G', l')) : ms_ob G.1 z a ∧ ok = true ∧ L' = L ∧ st' = r ∧ G' = G ∧ dg l' = hs (dg l) z c v := by
  unfold ev_ob at h
  split at h
  · rename_i h1; cases h; exact ⟨h1.1, h1.2, rfl, rfl, rfl, rfl⟩
  · cases h
theorem ev_put_ok {b a : Nat} {c : Int} (h : ev_put b a c L st G l = some (L', st', G', l')) (q : K L' st' G' (dg l')) : o_put c a b K L st G (dg l) := by
  unfold ev_put at h
  split at h
  · split at h
    · rename_i hb
      subst hb
      obtain ⟨h1, -, rfl, rfl, rfl, e⟩ := ev_ob_ok h
      rw [e] at q
      exact ⟨h1, q⟩
    · cases h
  · split at h
    · rename_i hb
      subst hb
      obtain ⟨h1, -, rfl, rfl, rfl, e⟩ := ev_ob_ok h
      rw [e] at q
      exact ⟨h1, q⟩
    · cases h
  · split at h
    · rename_i hb
      subst hb
      obtain ⟨h1, h2, rfl, rfl, rfl, e⟩ := ev_ob_ok h
      rw [e] at q
      exact ⟨h1, of_decide_eq_true h2, q⟩
    · split at h
      · rename_i hb
        subst hb
        obtain ⟨h1, -, rfl, rfl, rfl, e⟩ := ev_ob_ok h
        rw [e] at q
        exact ⟨h1, q⟩
      · cases h
  · cases h
theorem ev_arr_ok {kd : Nat} {z i v : Int} {ok : Bool} {r : List ms_V} (h : ev_arr kd L z i v ok r G l = some (L', st', G', l')) : (∃ n : Nat, ms_sh G.1 z = some (kd, n) ∧ 0 ≤ i ∧ i < n) ∧ ok = true ∧ L' = L ∧ st' = r ∧ G' = G ∧ dg l' = hs (dg l) z i v := by
  unfold ev_arr at h
  split at h
  · rename_i q hq
    split at h
    · rename_i h1
      cases h
      refine ⟨⟨q.2, ?_, h1.2.1, h1.2.2.1⟩, h1.2.2.2, rfl, rfl, rfl, rfl⟩
      rw [hq, ← h1.1]
    · cases h
  · cases h
theorem ev_newa_ok {b : Nat} {n : Int} {r : List ms_V} (h : ev_newa mc ms b L n r G l = some (L', st', G', l')) (q : K L' st' G' (dg l')) : o_newa mc ms b K L (mI n :: r) G (dg l) := by
  unfold ev_newa at h
  split at h
  · rename_i h1
    cases h
    refine ⟨h1.1, h1.2.1, h1.2.2.1, h1.2.2.2, ?_⟩
    have : dg ((1, (G.1.length : Int), (b : Int), 0) :: l) = ms_nw (dg l) G.1.length b := by
      show ms_nw (dg l) G.1.length ((b : Int).toNat) = _
      rw [Int.toNat_natCast]
    rw [this] at q
    exact q
  · cases h
theorem ev_back_ok {kc ks : Nat} {r : List ms_V} {x : Option (ms_S × lg)} (h : ev_back L r kc ks G x = some (L', st', G', l')) : ∃ S', x = some (S', l') ∧ L' = L ∧ st' = r ∧ G' = (S', G.2.1 + kc, G.2.2 + ks) := by
  unfold ev_back at h
  split at h
  · cases h; exact ⟨_, rfl, rfl, rfl, rfl⟩
  · cases h
theorem ev_call_ok {a b d : Nat} {t : List (Int × Nat)} (hE : ev_ok E O) (h : ev_call E mc ms a b d t L st G l = some (L', st', G', l')) (q : K L' st' G' (dg l')) : o_call O mc ms a b d t K L st G (dg l) := by
  unfold ev_call at h
  split at h
  · rename_i h1
    refine ⟨h1.1, h1.2.1, h1.2.2.1, rcb_ok h1.2.2.2, ?_⟩
    split at h
    · obtain ⟨S', hx, rfl, rfl, rfl⟩ := ev_back_ok h
      exact hE _ _ _ _ _ _ hx _ q
    · split at h
      · rename_i h2
        obtain ⟨S', hx, rfl, rfl, rfl⟩ := ev_back_ok h
        exact ⟨h2.1, h2.2, hE _ _ _ _ _ _ hx _ q⟩
      · cases h
  · cases h
set_option maxHeartbeats 4000000 in
theorem evS_ok (hE : ev_ok E O) (raw : Instr) (x : ms_X) (h : evS E mc ms raw x L st G l = some (L', st', G', l')) (q : K L' st' G' (dg l')) : ms_ex O X mc ms Q J K raw x L st G (dg l) := by
  obtain ⟨c, a, b, d, t, w⟩ := x
  cases raw
  case iconst => cases h; exact q
  case bipush => cases h; exact q
  case sipush => cases h; exact q
  case lconst => cases h; exact q
  case aload_n =>
    simp only [evS] at h
    show o_aload a K L st G (dg l)
    unfold o_aload
    split at h
    · rename_i hq
      cases h
      rw [hq]
      exact q
    · cases h
  case istore_n =>
    simp only [evS] at h
    split at h
    · obtain ⟨h1, rfl, rfl, rfl, rfl⟩ := ev_st_ok h
      exact ⟨h1, q⟩
    · cases h
  case astore_n =>
    simp only [evS] at h
    split at h
    · obtain ⟨h1, rfl, rfl, rfl, rfl⟩ := ev_st_ok h
      exact ⟨h1, q⟩
    · cases h
  case dup =>
    simp only [evS] at h
    split at h
    · cases h; exact q
    · cases h; exact q
    · cases h
  case putfield => exact ev_put_ok (b := b) (a := a) (c := c) h q
  case getfield =>
    simp only [evS] at h
    split at h
    · split at h
      · rename_i h1
        cases h
        have hb := h1.1
        subst hb
        exact ⟨h1.2.1, h1.2.2, q⟩
      · cases h
    · cases h
  case iastore =>
    simp only [evS] at h
    split at h
    · obtain ⟨⟨n, h1, h2, h3⟩, -, rfl, rfl, rfl, e⟩ := ev_arr_ok h
      rw [e] at q
      exact ⟨n, h1, h2, h3, q⟩
    · cases h
  case aastore =>
    simp only [evS] at h
    split at h
    · obtain ⟨⟨n, h1, h2, h3⟩, h4, rfl, rfl, rfl, e⟩ := ev_arr_ok h
      rw [e] at q
      have h4' := of_decide_eq_true h4
      exact ⟨h4', n, h1, h2, h3, q⟩
    · cases h
  case new =>
    simp only [evS] at h
    split at h
    · rename_i h1
      cases h
      refine ⟨h1.1, h1.2.1, h1.2.2, ?_⟩
      have : dg ((1, (G.1.length : Int), (a : Int), 0) :: l) = ms_nw (dg l) G.1.length a := by
        show ms_nw (dg l) G.1.length ((a : Int).toNat) = _
        rw [Int.toNat_natCast]
      rw [this] at q
      exact q
    · cases h
  case newarray =>
    simp only [evS] at h
    split at h
    · exact ev_newa_ok h q
    · cases h
  case anewarray =>
    simp only [evS] at h
    split at h
    · exact ev_newa_ok h q
    · cases h
  case invokespecial =>
    simp only [evS] at h
    simp only [ms_ex]
    split at h
    · rename_i ha
      rw [if_pos ha]
      split at h
      · split at h
        · rename_i h1
          cases h
          exact ⟨h1, q⟩
        · cases h
      · cases h
    · rename_i ha
      rw [if_neg ha]
      exact ev_call_ok hE h q
  all_goals exact absurd h (fun z => by cases z)
end
abbrev evR : Type := Option (Option Nat × List ms_V × ms_G × lg)
def evN (mc ms : Nat) (raw : Instr) (x : ms_X) (L st : List ms_V) (G : ms_G) (l : lg) : evR := match raw, st with
  | .return_, [] => if G.2.1 ≤ mc ∧ G.2.2 ≤ ms then some (none, L, G, l) else none
  | .nop, [] => some (some x.2.1, L, G, l)
  | _, _ => none
def evB (E : evE) (mc ms : Nat) : ms_B → List ms_V → List ms_V → ms_G → lg → evR
  | [], _, _, _, _ => none
  | (_, raw, _, x) :: rest, L, st, G, l => match evS E mc ms raw x L st G l with
    | some q => evB E mc ms rest q.1 q.2.1 q.2.2.1 q.2.2.2
    | none => evN mc ms raw x L st G l
def evP (Q : ms_Q) (J : Nat → ms_K) (r : Option Nat × List ms_V × ms_G × lg) : Prop := match r.1 with
  | none => Q none r.2.2.1.1 (dg r.2.2.2)
  | some a => J a r.2.1 [] r.2.2.1 (dg r.2.2.2)
theorem evB_ok {E : evE} {O : ms_O} {X : ms_Z} {M : ms_M} {Q : ms_Q} {J : Nat → ms_K} (hE : ev_ok E O) : ∀ (B : ms_B) (L st : List ms_V) (G : ms_G) (l : lg) (r : Option Nat × List ms_V × ms_G × lg), evB E (M_mc M) (M_ms M) B L st G l = some r → evP Q J r → ms_seq O X M Q J B L st G (dg l)
  | [], _, _, _, _, _, h, _ => by cases h
  | (pc, raw, len, x) :: rest, L, st, G, l, r, h, q => by
    unfold evB at h
    show ms_ex O X (M_mc M) (M_ms M) Q J (ms_seq O X M Q J rest) raw x L st G (dg l)
    split at h
    · rename_i p hp
      obtain ⟨L', st', G', l'⟩ := p
      exact evS_ok hE raw x hp (evB_ok hE rest _ _ _ _ r h q)
    · unfold evN at h
      split at h
      · split at h
        · rename_i h1
          cases h
          obtain ⟨c, a, b, d, t, w⟩ := x
          exact ⟨h1.1, h1.2, q⟩
        · cases h
      · cases h
        obtain ⟨c, a, b, d, t, w⟩ := x
        exact q
      · cases h
def evM (P : List ms_M) : Nat → evE
  | 0 => fun _ _ _ _ => none
  | d + 1 => fun y args S l => match P[y]? with
    | none => none
    | some M => if args.length = M_na M then (match evB (evM P d) (M_mc M) (M_ms M) (M_bl M 0) (ms_pad (M_ml M) args) [] (S, 0, 0) l with
      | some (none, _, G, l') => some (G.1, l')
      | _ => none) else none
theorem evM_ok (P : List ms_M) : ∀ d, ev_ok (evM P d) (ms_Ok P d)
  | 0, _, _, _, _, _, _, h, _, _ => by cases h
  | d + 1, y, args, S, l, S', l', h, Q, q => by
    unfold evM at h
    split at h
    · cases h
    · rename_i M hM
      split at h
      · rename_i ha
        split at h
        · rename_i L' G' l'' hB
          cases h
          refine ⟨M, hM, ha, ms_go (ms_Ok_m P d) 0 0 ?_⟩
          exact evB_ok (evM_ok P d) _ _ _ _ _ _ hB q
        · cases h
      · cases h
/-- a call that was reckoned out: method, receiver, shapes and log before and behind it -/
abbrev evW : Type := Nat × Int × ms_S × lg × ms_S × lg
def evG (O : ms_O) (r : evW) : Prop := ∀ Q : ms_Q, Q none r.2.2.2.2.1 (dg r.2.2.2.2.2) → O r.1 [mR r.2.1] r.2.2.1 (dg r.2.2.2.1) Q
def evF (T : List evW) (y : Nat) (z : Int) (S : ms_S) (l : lg) : Option (ms_S × lg) := match T with
  | [] => none
  | r :: T => if r.1 = y ∧ r.2.1 = z ∧ r.2.2.1 = S ∧ r.2.2.2.1 = l then some (r.2.2.2.2.1, r.2.2.2.2.2) else evF T y z S l
def evTb (T : List evW) : evE := fun y args S l => match args with
  | [Sum.inr (Sum.inr (Sum.inl z))] => evF T y z S l
  | _ => none
theorem evF_ok {O : ms_O} {y : Nat} {z : Int} {S : ms_S} {l : lg} {x : ms_S × lg} : ∀ (T : List evW), (∀ r ∈ T, evG O r) → evF T y z S l = some x → ∀ Q : ms_Q, Q none x.1 (dg x.2) → O y [mR z] S (dg l) Q
  | [], _, h => by cases h
  | r :: T, hT, h => by
    unfold evF at h
    split at h
    · rename_i h1
      obtain ⟨rfl, rfl, rfl, rfl⟩ := h1
      cases h
      exact hT r (List.mem_cons_self ..)
    · exact evF_ok T (fun r hr => hT r (List.mem_cons_of_mem _ hr)) h
theorem evTb_ok {O : ms_O} {T : List evW} (hT : ∀ r ∈ T, evG O r) : ev_ok (evTb T) O := by
  intro y args S l S' l' h Q q
  unfold evTb at h
  split at h
  · exact evF_ok T hT h Q q
  · cases h
def evC (T : List evW) (r : evW) : Bool := match ms_P[r.1]? with
  | none => false
  | some M => match evB (evTb T) (M_mc M) (M_ms M) (M_bl M 0) (ms_pad (M_ml M) [mR r.2.1]) [] (r.2.2.1, 0, 0) r.2.2.2.1 with
    | some (none, _, G, l') => decide (1 = M_na M ∧ G.1 = r.2.2.2.2.1 ∧ l' = r.2.2.2.2.2)
    | _ => false
theorem evC_ok {T : List evW} {d : Nat} {r : evW} (hT : ∀ r ∈ T, evG (ms_Ok ms_P d) r) (h : evC T r = true) : evG (ms_Ok ms_P (d + 1)) r := by
  intro Q q
  unfold evC at h
  split at h
  · cases h
  · rename_i M hM
    split at h
    · rename_i L' G' l'' hB
      have h' := of_decide_eq_true h
      refine ⟨M, hM, h'.1, ms_go (ms_Ok_m ms_P d) 0 0 ?_⟩
      refine evB_ok (evTb_ok hT) _ _ _ _ _ _ hB ?_
      show Q none G'.1 (dg l'')
      rw [h'.2.1, h'.2.2]
      exact q
    · cases h
