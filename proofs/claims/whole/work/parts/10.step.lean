/-! The walk: one instruction, all of them. -/
section
variable {p : Program} {l : Launch} {e : Env} {R : Room} {s : State} {m : MethodId} {args : Array Value} {below : List Frame} {meth : Method} {c : Code} {Qf : State → Prop}
variable {D : va_G} {cA : Nat → ClassId} {ex : Nat → Nat} {A : Nat → Prop} {S0 : ms_S} {ad0 : Nat → Nat} {P : List ms_M} {M : ms_M} {d0 : Nat} {O : ms_O} {X : ms_Z} {Q : ms_Q}
theorem ms_vI {S : ms_S} {z : Int} {r : List ms_V} (h : ∀ v ∈ (mI z :: r : List ms_V), ms_vok S v) : rg z ∧ ∀ v ∈ r, ms_vok S v := List.forall_mem_cons.mp h
theorem ms_vL {S : ms_S} {z : Int} {r : List ms_V} (h : ∀ v ∈ (mL z :: r : List ms_V), ms_vok S v) : rg z ∧ ∀ v ∈ r, ms_vok S v := List.forall_mem_cons.mp h
theorem ms_vR {S : ms_S} {z : Int} {r : List ms_V} (h : ∀ v ∈ (mR z :: r : List ms_V), ms_vok S v) : (rg z ∧ 0 ≤ z ∧ z < S.length) ∧ ∀ v ∈ r, ms_vok S v := List.forall_mem_cons.mp h
theorem ms_pI {S : ms_S} {z : Int} {r : List ms_V} (h : rg z) (hr : ∀ v ∈ r, ms_vok S v) : ∀ v ∈ (mI z :: r : List ms_V), ms_vok S v := List.forall_mem_cons.mpr ⟨h, hr⟩
theorem ms_pL {S : ms_S} {z : Int} {r : List ms_V} (h : rg z) (hr : ∀ v ∈ r, ms_vok S v) : ∀ v ∈ (mL z :: r : List ms_V), ms_vok S v := List.forall_mem_cons.mpr ⟨h, hr⟩
theorem ms_pR {S : ms_S} {z : Int} {r : List ms_V} (h : rg z ∧ 0 ≤ z ∧ z < S.length) (hr : ∀ v ∈ r, ms_vok S v) : ∀ v ∈ (mR z :: r : List ms_V), ms_vok S v := List.forall_mem_cons.mpr ⟨h, hr⟩
theorem ms_rl_set {ad : Nat → Nat} {nL : Nat} {S : ms_S} {L : List ms_V} {ls' : Array Slot} {i : Nat} {v : ms_V} (hlen : L.length = nL) (hv : ∀ v ∈ L, ms_vok S v) (hi : i < L.length) (hv2 : ms_vok S v) (h : lv_has ls' nL ((i, ms_c ad ex v) :: (lvl ad ex L).filter (fun q => !(q.1 == i) && !(q.1 + 1 == i && q.2.category == 2)))) : ms_rl ad ex nL S (L.set i v) ls' := by
  refine ⟨lvl_set hi h, by rw [List.length_set]; exact hlen, fun x hx => ?_⟩
  rcases List.mem_or_eq_of_mem_set hx with h1 | h1
  · exact hv x h1
  · rw [h1]; exact hv2
/-- instructions that leave the heap as it is -/
def ms_plain : Instr → Bool
  | .getfield _ | .putfield _ | .iaload | .iastore | .baload | .bastore | .aaload | .aastore | .arraylength | .getstatic _ | .invokevirtual _ | .invokestatic _ | .invokespecial _ | .new _ | .newarray _ | .anewarray _ => false
  | _ => true
set_option maxHeartbeats 4000000 in
theorem ms_step1 (C : ms_cx p l e R s m args below meth c Qf D cA ex A S0 ad0 P M d0 O X Q) {pc len : Nat} {raw : Instr} {x : ms_X} {rest : ms_B} {L st : List ms_V} {G : ms_G} {h : ms_H} (hpl : ms_plain raw = true)
    (q : ms_ex O X (M_mc M) (M_ms M) Q (fun t => ms_RW p l e R s m args below meth c Qf D cA ex A S0 ad0 P M (M_bl M t)) (ms_RW p l e R s m args below meth c Qf D cA ex A S0 ad0 P M rest) raw x L st G h) : ms_RW p l e R s m args below meth c Qf D cA ex A S0 ad0 P M ((pc, raw, len, x) :: rest) L st G h := by
  obtain ⟨hx, hb, hml, hown, hts, hK, hA, hini, hstat, ⟨hfr, hlo, hrc, hrs⟩, hos, hPk, hbl, hX, hfin⟩ := C
  intro hck ad H locs ls hr hl hst
  obtain ⟨hdec, hln, hckx, hnx, hrest⟩ := ckB_x hck
  obtain ⟨c0, a, b, d, t, w⟩ := x
  show W p l e R s m args below meth c H locs G.2.1 G.2.2 Qf (F0 m pc ls (st.map (ms_c ad ex)))
  have nx : ∀ {k : Nat} {L' st' : List ms_V} {ls' : Array Slot}, B_pc rest = pc + k → ms_RW p l e R s m args below meth c Qf D cA ex A S0 ad0 P M rest L' st' G h → ms_rl ad ex (M_ml M) G.1 L' ls' → (∀ v ∈ st', ms_vok G.1 v) → W p l e R s m args below meth c H locs G.2.1 G.2.2 Qf (F0 m (pc + k) ls' (st'.map (ms_c ad ex))) := by
    intro k L' st' ls' hk hq h2 h3
    have := hq hrest ad H locs ls' hr h2 h3
    rw [hk] at this
    exact this
  have jx : ∀ {t : Nat} {L' st' : List ms_V} {ls' : Array Slot}, ms_RW p l e R s m args below meth c Qf D cA ex A S0 ad0 P M (M_bl M t) L' st' G h → ms_rl ad ex (M_ml M) G.1 L' ls' → (∀ v ∈ st', ms_vok G.1 v) → W p l e R s m args below meth c H locs G.2.1 G.2.2 Qf (F0 m (B_pc (M_bl M t)) ls' (st'.map (ms_c ad ex))) := fun hq h2 h3 => hq (hbl _) ad H locs _ hr h2 h3
  have hd : raw = .nop ∨ decode (M_by M) pc = .ok (raw, ms_ln raw len) := by rw [← hln]; exact hdec
  have hn : ms_falls raw = true → B_pc rest = pc + ms_ln raw len := by rw [← hln]; exact hnx
  clear hdec hnx
  cases raw
  case iconst n =>
    simp only [ms_ckx, Bool.and_eq_true, decide_eq_true_eq] at hckx
    refine lv_iconst hx hb (hd.resolve_left (fun z => by cases z)) (v := Int32.ofInt c0) (by rw [hckx.1]) ?_
    exact nx (hn rfl) q hl (ms_pI (rgb_x hckx.2) hst)
  case bipush n =>
    simp only [ms_ckx, Bool.and_eq_true, decide_eq_true_eq] at hckx
    refine lv_bipush hx hb (hd.resolve_left (fun z => by cases z)) (v := Int32.ofInt c0) hckx.1 ?_
    exact nx (hn rfl) q hl (ms_pI (rgb_x hckx.2) hst)
  case sipush n =>
    simp only [ms_ckx, Bool.and_eq_true, decide_eq_true_eq] at hckx
    refine lv_sipush hx hb (hd.resolve_left (fun z => by cases z)) (v := Int32.ofInt c0) hckx.1 ?_
    exact nx (hn rfl) q hl (ms_pI (rgb_x hckx.2) hst)
  case ldc i =>
    simp only [ms_ckx, Bool.and_eq_true] at hckx
    refine lv_ldc hx hb hown (hts _ (wd_in hckx.1)) (hd.resolve_left (fun z => by cases z)) ?_
    exact nx (hn rfl) q hl (ms_pI (rgb_x hckx.2) hst)
  case ldc_w i =>
    simp only [ms_ckx, Bool.and_eq_true] at hckx
    refine lv_ldcw hx hb hown (hts _ (wd_in hckx.1)) (hd.resolve_left (fun z => by cases z)) ?_
    exact nx (hn rfl) q hl (ms_pI (rgb_x hckx.2) hst)
  case iload i =>
    simp only [ms_ckx, decide_eq_true_eq] at hckx
    replace q : o_iload a (ms_RW p l e R s m args below meth c Qf D cA ex A S0 ad0 P M rest) L st G h := q
    unfold o_iload at q
    split at q
    · rename_i z hz
      subst hckx
      refine lv_iload hx hb (hd.resolve_left (fun z => by cases z)) (lvl_at hl.1 hz rfl) ?_
      exact nx (hn rfl) q hl (ms_pI (hl.2.2 _ (List.mem_of_getElem? hz)) hst)
    · exact q.elim
  case iload_n i =>
    simp only [ms_ckx, decide_eq_true_eq] at hckx
    replace q : o_iload a (ms_RW p l e R s m args below meth c Qf D cA ex A S0 ad0 P M rest) L st G h := q
    unfold o_iload at q
    split at q
    · rename_i z hz
      refine lv_iload_n hx hb (hd.resolve_left (fun z => by cases z)) hckx (lvl_at hl.1 hz rfl) ?_
      exact nx (hn rfl) q hl (ms_pI (hl.2.2 _ (List.mem_of_getElem? hz)) hst)
    · exact q.elim
  case aload i =>
    simp only [ms_ckx, decide_eq_true_eq] at hckx
    replace q : o_aload a (ms_RW p l e R s m args below meth c Qf D cA ex A S0 ad0 P M rest) L st G h := q
    unfold o_aload at q
    split at q
    · rename_i z hz
      subst hckx
      rcases z with z | z
      · refine lv_aload hx hb (hd.resolve_left (fun z => by cases z)) (lvl_at hl.1 hz rfl) ?_
        exact nx (hn rfl) q hl (List.forall_mem_cons.mpr ⟨hl.2.2 _ (List.mem_of_getElem? hz), hst⟩)
      · refine lv_aload hx hb (hd.resolve_left (fun z => by cases z)) (lvl_at hl.1 hz rfl) ?_
        exact nx (hn rfl) q hl (List.forall_mem_cons.mpr ⟨hl.2.2 _ (List.mem_of_getElem? hz), hst⟩)
    · exact q.elim
  case aload_n i =>
    simp only [ms_ckx, decide_eq_true_eq] at hckx
    replace q : o_aload a (ms_RW p l e R s m args below meth c Qf D cA ex A S0 ad0 P M rest) L st G h := q
    unfold o_aload at q
    split at q
    · rename_i z hz
      rcases z with z | z
      · refine lv_aload_n hx hb (hd.resolve_left (fun z => by cases z)) hckx (lvl_at hl.1 hz rfl) ?_
        exact nx (hn rfl) q hl (List.forall_mem_cons.mpr ⟨hl.2.2 _ (List.mem_of_getElem? hz), hst⟩)
      · refine lv_aload_n hx hb (hd.resolve_left (fun z => by cases z)) hckx (lvl_at hl.1 hz rfl) ?_
        exact nx (hn rfl) q hl (List.forall_mem_cons.mpr ⟨hl.2.2 _ (List.mem_of_getElem? hz), hst⟩)
    · exact q.elim
  case istore i =>
    simp only [ms_ckx, decide_eq_true_eq] at hckx
    obtain ⟨hi, q⟩ := q
    replace q := i1_x q; obtain ⟨z, r, rfl, q⟩ := q
    replace hst := ms_vI hst; obtain ⟨hz, hst⟩ := hst
    subst hckx
    refine lv_istore hx hb (hd.resolve_left (fun z => by cases z)) hl.1 (by rw [← hl.2.1]; exact hi) rfl (fun ls' hl' => ?_)
    exact nx (hn rfl) q (ms_rl_set hl.2.1 hl.2.2 hi hz hl') hst
  case istore_n i =>
    simp only [ms_ckx, decide_eq_true_eq] at hckx
    obtain ⟨hi, q⟩ := q
    replace q := i1_x q; obtain ⟨z, r, rfl, q⟩ := q
    replace hst := ms_vI hst; obtain ⟨hz, hst⟩ := hst
    refine lv_istore_n hx hb (hd.resolve_left (fun z => by cases z)) hckx hl.1 (by rw [← hl.2.1]; exact hi) rfl (fun ls' hl' => ?_)
    exact nx (hn rfl) q (ms_rl_set hl.2.1 hl.2.2 hi hz hl') hst
  case astore i =>
    simp only [ms_ckx, decide_eq_true_eq] at hckx
    obtain ⟨hi, q⟩ := q
    replace q := r1_x q; obtain ⟨z, r, rfl, q⟩ := q
    replace hst := ms_vR hst; obtain ⟨hz, hst⟩ := hst
    subst hckx
    refine lv_astore hx hb (hd.resolve_left (fun z => by cases z)) hl.1 (by rw [← hl.2.1]; exact hi) rfl (fun ls' hl' => ?_)
    exact nx (hn rfl) q (ms_rl_set hl.2.1 hl.2.2 hi hz hl') hst
  case astore_n i =>
    simp only [ms_ckx, decide_eq_true_eq] at hckx
    obtain ⟨hi, q⟩ := q
    replace q := r1_x q; obtain ⟨z, r, rfl, q⟩ := q
    replace hst := ms_vR hst; obtain ⟨hz, hst⟩ := hst
    refine lv_astore_n hx hb (hd.resolve_left (fun z => by cases z)) hckx hl.1 (by rw [← hl.2.1]; exact hi) rfl (fun ls' hl' => ?_)
    exact nx (hn rfl) q (ms_rl_set hl.2.1 hl.2.2 hi hz hl') hst
  case iinc i n =>
    simp only [ms_ckx, Bool.and_eq_true, decide_eq_true_eq] at hckx
    obtain ⟨rfl, rfl⟩ := hckx
    replace q : o_iinc i n (ms_RW p l e R s m args below meth c Qf D cA ex A S0 ad0 P M rest) L st G h := q
    unfold o_iinc at q
    split at q
    · rename_i z hz
      have hm : (i, ms_c ad ex (mI z)) ∈ lvl ad ex L := lvl_mem.mpr ⟨_, hz, rfl, rfl⟩
      obtain ⟨k, hk⟩ := List.getElem?_of_mem hm
      have hi : i < L.length := (List.getElem?_eq_some_iff.mp hz).1
      refine lv_iinc hx hb (hd.resolve_left (fun z => by cases z)) hl.1 hk (v := Int32.ofInt (z + n)) (by rw [Int32.ofInt_add]) (by rw [← hl.2.1]; exact hi) rfl (fun ls' hl' => ?_)
      exact nx (hn rfl) q.2 (ms_rl_set (v := mI (z + n)) hl.2.1 hl.2.2 hi q.1 hl') hst
    · exact q.elim
  case iadd =>
    replace q := i1_x q; obtain ⟨y, r, rfl, q⟩ := q
    replace q := i1_x q; obtain ⟨x, r, rfl, q⟩ := q
    replace hst := ms_vI hst; obtain ⟨hy, hst⟩ := hst
    replace hst := ms_vI hst; obtain ⟨hz, hst⟩ := hst
    refine lv_iadd hx hb (hd.resolve_left (fun z => by cases z)) ?_
    rw [← Int32.ofInt_add]
    exact nx (hn rfl) q.2 hl (ms_pI q.1 hst)
  case isub =>
    replace q := i1_x q; obtain ⟨y, r, rfl, q⟩ := q
    replace q := i1_x q; obtain ⟨x, r, rfl, q⟩ := q
    replace hst := ms_vI hst; obtain ⟨hy, hst⟩ := hst
    replace hst := ms_vI hst; obtain ⟨hz, hst⟩ := hst
    refine lv_isub hx hb (hd.resolve_left (fun z => by cases z)) ?_
    rw [← Int32.ofInt_sub]
    exact nx (hn rfl) q.2 hl (ms_pI q.1 hst)
  case imul =>
    replace q := i1_x q; obtain ⟨y, r, rfl, q⟩ := q
    replace q := i1_x q; obtain ⟨x, r, rfl, q⟩ := q
    replace hst := ms_vI hst; obtain ⟨hy, hst⟩ := hst
    replace hst := ms_vI hst; obtain ⟨hz, hst⟩ := hst
    refine lv_imul hx hb (hd.resolve_left (fun z => by cases z)) ?_
    rw [← Int32.ofInt_mul]
    exact nx (hn rfl) q.2 hl (ms_pI q.1 hst)
  case idiv =>
    replace q := i1_x q; obtain ⟨y, r, rfl, q⟩ := q
    replace q := i1_x q; obtain ⟨x, r, rfl, q⟩ := q
    replace hst := ms_vI hst; obtain ⟨hy, hst⟩ := hst
    replace hst := ms_vI hst; obtain ⟨hz, hst⟩ := hst
    refine lv_idiv hx hb (hd.resolve_left (fun z => by cases z)) (fun w => q.1 ((rg_inj hy rg_0).mp w)) ?_
    rw [rg_div hz hy q.2.1]
    exact nx (hn rfl) q.2.2 hl (ms_pI q.2.1 hst)
  case irem =>
    replace q := i1_x q; obtain ⟨y, r, rfl, q⟩ := q
    replace q := i1_x q; obtain ⟨x, r, rfl, q⟩ := q
    replace hst := ms_vI hst; obtain ⟨hy, hst⟩ := hst
    replace hst := ms_vI hst; obtain ⟨hz, hst⟩ := hst
    refine lv_irem hx hb (hd.resolve_left (fun z => by cases z)) (fun w => q.1 ((rg_inj hy rg_0).mp w)) ?_
    have e1 : Int32.ofInt x / Int32.ofInt y = Int32.ofInt (x.tdiv y) := by
      rw [← Int32.toInt_inj, Int32.toInt_div, rg_toInt hz, rg_toInt hy, Int32.toInt_ofInt]
    rw [e1, ← Int32.ofInt_mul, ← Int32.ofInt_sub, show x - x.tdiv y * y = x.tmod y by rw [Int.mul_comm]; have := Int.mul_tdiv_add_tmod x y; omega]
    exact nx (hn rfl) q.2 hl (ms_pI (rg_rem1 hz) hst)
  case ineg =>
    replace q := i1_x q; obtain ⟨x, r, rfl, q⟩ := q
    replace hst := ms_vI hst; obtain ⟨hz, hst⟩ := hst
    refine lv_ineg hx hb (hd.resolve_left (fun z => by cases z)) ?_
    rw [← Int32.ofInt_neg]
    exact nx (hn rfl) q.2 hl (ms_pI q.1 hst)
  case iand =>
    replace q := i1_x q; obtain ⟨y, r, rfl, q⟩ := q
    replace q := i1_x q; obtain ⟨x, r, rfl, q⟩ := q
    replace hst := ms_vI hst; obtain ⟨hy, hst⟩ := hst
    replace hst := ms_vI hst; obtain ⟨hz, hst⟩ := hst
    refine lv_iand hx hb (hd.resolve_left (fun z => by cases z)) ?_
    split at q
    · rename_i hy1
      subst hy1
      rw [show Int32.ofInt 1 = 1 from rfl, of_and1]
      exact nx (hn rfl) q hl (ms_pI (by unfold rg; omega) hst)
    · split at q
      · rename_i hy1
        subst hy1
        rw [show Int32.ofInt 31 = 31 from rfl, of_and31]
        exact nx (hn rfl) q hl (ms_pI (by unfold rg; omega) hst)
      · rw [of_and q.1 q.2.1]
        exact nx (hn rfl) q.2.2 hl (ms_pI (rg_and hz q.1) hst)
  case ishl =>
    replace q := i1_x q; obtain ⟨y, r, rfl, q⟩ := q
    replace q := i1_x q; obtain ⟨x, r, rfl, q⟩ := q
    replace hst := ms_vI hst; obtain ⟨hy, hst⟩ := hst
    replace hst := ms_vI hst; obtain ⟨hz, hst⟩ := hst
    refine lv_ishl hx hb (hd.resolve_left (fun z => by cases z)) ?_
    rw [of_shl q.2.2.1 q.1 q.2.1 q.2.2.2.1]
    exact nx (hn rfl) q.2.2.2.2 hl (ms_pI q.2.2.2.1 hst)
  case ishr =>
    replace q := i1_x q; obtain ⟨y, r, rfl, q⟩ := q
    replace q := i1_x q; obtain ⟨x, r, rfl, q⟩ := q
    replace hst := ms_vI hst; obtain ⟨hy, hst⟩ := hst
    replace hst := ms_vI hst; obtain ⟨hz, hst⟩ := hst
    refine lv_ishr hx hb (hd.resolve_left (fun z => by cases z)) ?_
    rw [of_shr hz q.2.2.1 q.1 q.2.1]
    exact nx (hn rfl) q.2.2.2 hl (ms_pI (rg_shr hz q.2.2.1) hst)
  case iushr =>
    replace q := i1_x q; obtain ⟨y, r, rfl, q⟩ := q
    replace q := i1_x q; obtain ⟨x, r, rfl, q⟩ := q
    replace hst := ms_vI hst; obtain ⟨hy, hst⟩ := hst
    replace hst := ms_vI hst; obtain ⟨hz, hst⟩ := hst
    refine lv_iushr hx hb (hd.resolve_left (fun z => by cases z)) (of_ushr hz q.2.2.1 q.1 q.2.1) ?_
    exact nx (hn rfl) q.2.2.2 hl (ms_pI (rg_shr hz q.2.2.1) hst)
  case dup =>
    replace q : o_dup (ms_RW p l e R s m args below meth c Qf D cA ex A S0 ad0 P M rest) L st G h := q
    unfold o_dup at q
    split at q
    · refine lv_dup hx hb (hd.resolve_left (fun z => by cases z)) rfl ?_
      exact nx (hn rfl) q hl (List.forall_mem_cons.mpr ⟨(List.forall_mem_cons.mp hst).1, hst⟩)
    · rename_i z r
      refine lv_dup hx hb (hd.resolve_left (fun z => by cases z)) (ms_c_cat rfl) ?_
      exact nx (hn rfl) q hl (List.forall_mem_cons.mpr ⟨(List.forall_mem_cons.mp hst).1, hst⟩)
    · exact q.elim
  case pop =>
    replace q := i1_x q; obtain ⟨x, r, rfl, q⟩ := q
    replace hst := ms_vI hst; obtain ⟨hz, hst⟩ := hst
    refine lv_pop hx hb (hd.resolve_left (fun z => by cases z)) rfl ?_
    exact nx (hn rfl) q hl hst
  case dup2 =>
    replace q := i1_x q; obtain ⟨y, r, rfl, q⟩ := q
    replace q := r1_x q; obtain ⟨x, r, rfl, q⟩ := q
    replace hst := ms_vI hst; obtain ⟨hy, hst⟩ := hst
    replace hst := ms_vR hst; obtain ⟨hz, hst⟩ := hst
    refine lv_dup2_11 hx hb (hd.resolve_left (fun z => by cases z)) rfl rfl ?_
    exact nx (hn rfl) q hl (ms_pI hy (ms_pR hz (ms_pI hy (ms_pR hz hst))))
  case ifCond q0 off =>
    simp only [ms_ckx, decide_eq_true_eq] at hckx
    replace q := i1_x q; obtain ⟨x, r, rfl, q⟩ := q
    replace hst := ms_vI hst; obtain ⟨hz, hst⟩ := hst
    have hd := hd.resolve_left (fun z => by cases z)
    cases q0
    · exact lv_if_eq hx hb hd hckx (fun u => jx (q.1 ((rg_inj hz rg_0).mp u)) hl hst) (fun u => nx (hn rfl) (q.2 (fun v => u ((rg_inj hz rg_0).mpr v))) hl hst)
    · exact lv_if_ne hx hb hd hckx (fun u => jx (q.1 (fun v => u ((rg_inj hz rg_0).mpr v))) hl hst) (fun u => nx (hn rfl) (q.2 ((rg_inj hz rg_0).mp u)) hl hst)
    · exact lv_if_lt hx hb hd hckx (fun u => jx (q.1 ((rg_lt hz rg_0).mp u)) hl hst) (fun u => nx (hn rfl) (q.2 (Int.not_lt.mp (fun v => u ((rg_lt hz rg_0).mpr v)))) hl hst)
    · exact lv_if_ge hx hb hd hckx (fun u => jx (q.1 ((rg_le rg_0 hz).mp u)) hl hst) (fun u => nx (hn rfl) (q.2 (Int.not_le.mp (fun v => u ((rg_le rg_0 hz).mpr v)))) hl hst)
    · exact lv_if_gt hx hb hd hckx (fun u => jx (q.1 ((rg_lt rg_0 hz).mp u)) hl hst) (fun u => nx (hn rfl) (q.2 (Int.not_lt.mp (fun v => u ((rg_lt rg_0 hz).mpr v)))) hl hst)
    · exact lv_if_le hx hb hd hckx (fun u => jx (q.1 ((rg_le hz rg_0).mp u)) hl hst) (fun u => nx (hn rfl) (q.2 (Int.not_le.mp (fun v => u ((rg_le hz rg_0).mpr v)))) hl hst)
  case if_icmp q0 off =>
    simp only [ms_ckx, decide_eq_true_eq] at hckx
    replace q := i1_x q; obtain ⟨y, r, rfl, q⟩ := q
    replace q := i1_x q; obtain ⟨x, r, rfl, q⟩ := q
    replace hst := ms_vI hst; obtain ⟨hy, hst⟩ := hst
    replace hst := ms_vI hst; obtain ⟨hz, hst⟩ := hst
    have hd := hd.resolve_left (fun z => by cases z)
    cases q0
    · exact lv_icmp_eq hx hb hd hckx (fun u => jx (q.1 ((rg_inj hz hy).mp u)) hl hst) (fun u => nx (hn rfl) (q.2 (fun v => u ((rg_inj hz hy).mpr v))) hl hst)
    · exact lv_icmp_ne hx hb hd hckx (fun u => jx (q.1 (fun v => u ((rg_inj hz hy).mpr v))) hl hst) (fun u => nx (hn rfl) (q.2 ((rg_inj hz hy).mp u)) hl hst)
    · exact lv_icmp_lt hx hb hd hckx (fun u => jx (q.1 ((rg_lt hz hy).mp u)) hl hst) (fun u => nx (hn rfl) (q.2 (Int.not_lt.mp (fun v => u ((rg_lt hz hy).mpr v)))) hl hst)
    · exact lv_icmp_ge hx hb hd hckx (fun u => jx (q.1 ((rg_le hy hz).mp u)) hl hst) (fun u => nx (hn rfl) (q.2 (Int.not_le.mp (fun v => u ((rg_le hy hz).mpr v)))) hl hst)
    · exact lv_icmp_gt hx hb hd hckx (fun u => jx (q.1 ((rg_lt hy hz).mp u)) hl hst) (fun u => nx (hn rfl) (q.2 (Int.not_lt.mp (fun v => u ((rg_lt hy hz).mpr v)))) hl hst)
    · exact lv_icmp_le hx hb hd hckx (fun u => jx (q.1 ((rg_le hz hy).mp u)) hl hst) (fun u => nx (hn rfl) (q.2 (Int.not_le.mp (fun v => u ((rg_le hz hy).mpr v)))) hl hst)
  case goto off =>
    simp only [ms_ckx, decide_eq_true_eq] at hckx
    exact lv_goto hx hb (hd.resolve_left (fun z => by cases z)) hckx (jx q hl hst)
  case nop =>
    simp only [ms_ckx, decide_eq_true_eq] at hckx
    have hckx : pc = B_pc (M_bl M a) := hckx
    rw [hckx]
    exact jx q hl hst
  case tableswitch dflt lo hi offs =>
    simp only [ms_ckx, Bool.and_eq_true, decide_eq_true_eq] at hckx
    obtain ⟨⟨h1, h2⟩, h3⟩ := hckx
    replace q := i1_x q; obtain ⟨x, r, rfl, q⟩ := q
    replace hst := ms_vI hst; obtain ⟨hz, hst⟩ := hst
    have hd := hd.resolve_left (fun z => by cases z)
    rcases cktab_x offs.toList t lo h3 q with ⟨h4, h5⟩ | ⟨h4, h5, off, tg, h6, h7, h8⟩
    · exact lv_tableOut hx hb hd (by rw [rg_toInt hz]; omega) h1 (jx h5 hl hst)
    · exact lv_tableIn hx hb hd (by rw [rg_toInt hz]; omega) (by rw [rg_toInt hz]; omega) (by rw [rg_toInt hz, ← Array.getElem?_toList]; exact h6) h7 (jx h8 hl hst)
  case lookupswitch dflt ps =>
    simp only [ms_ckx, Bool.and_eq_true, decide_eq_true_eq] at hckx
    obtain ⟨⟨h1, h2⟩, h3⟩ := hckx
    replace q := i1_x q; obtain ⟨x, r, rfl, q⟩ := q
    replace hst := ms_vI hst; obtain ⟨hz, hst⟩ := hst
    have hd := hd.resolve_left (fun z => by cases z)
    obtain ⟨off, tg, h6, h7, h8⟩ := cklk_x h1 ps.toList t h3 q
    exact lv_lookup hx hb hd h2 (by rw [rg_toInt hz]; exact h6) h7 (jx h8 hl hst)
  case lconst n =>
    simp only [ms_ckx, Bool.and_eq_true, decide_eq_true_eq] at hckx
    refine lv_lconst hx hb (hd.resolve_left (fun z => by cases z)) (v := Int64.ofInt c0) hckx.1 ?_
    exact nx (hn rfl) q hl (ms_pL (rgb_x hckx.2) hst)
  case ldc2_w i =>
    simp only [ms_ckx, Bool.and_eq_true] at hckx
    refine lv_ldc2 hx hb hown (hts _ (wd_in hckx.1)) (hd.resolve_left (fun z => by cases z)) ?_
    exact nx (hn rfl) q hl (ms_pL (rgb_x hckx.2) hst)
  case ladd =>
    replace q := l1_x q; obtain ⟨y, r, rfl, q⟩ := q
    replace q := l1_x q; obtain ⟨x, r, rfl, q⟩ := q
    replace hst := ms_vL hst; obtain ⟨hy, hst⟩ := hst
    replace hst := ms_vL hst; obtain ⟨hz, hst⟩ := hst
    refine lv_ladd hx hb (hd.resolve_left (fun z => by cases z)) ?_
    rw [← Int64.ofInt_add]
    exact nx (hn rfl) q.2 hl (ms_pL q.1 hst)
  case lcmp =>
    replace q := l1_x q; obtain ⟨y, r, rfl, q⟩ := q
    replace q := l1_x q; obtain ⟨x, r, rfl, q⟩ := q
    replace hst := ms_vL hst; obtain ⟨hy, hst⟩ := hst
    replace hst := ms_vL hst; obtain ⟨hz, hst⟩ := hst
    obtain ⟨rfl, q⟩ := q
    refine W.lcmp hx hb (hd.resolve_left (fun z => by cases z)) ?_
    have e1 : lg_cmp (Int64.ofInt x) (Int64.ofInt x) = Int32.ofInt 0 := by simp [lg_cmp]
    rw [e1]
    exact nx (hn rfl) q hl (ms_pI rg_0 hst)
  case ireturn =>
    replace q : o_iret (M_mc M) (M_ms M) b Q L st G h := q
    unfold o_iret at q
    split at q
    · rename_i z
      obtain ⟨hz, -⟩ := ms_vI hst
      refine (hfin pc ls ad G h H locs hr).1 z q.2.2.2 hz (hd.resolve_left (fun z => by cases z)) ?_
      simp only [ms_ckx] at hckx
      split at hckx
      · rename_i hrt; exact Or.inl hrt
      · rename_i hrt; exact Or.inr ⟨hrt, q.1 (by simpa using hckx)⟩
      · cases hckx
    · exact q.elim
  case lreturn =>
    replace q : o_lret (M_mc M) (M_ms M) Q L st G h := q
    unfold o_lret at q
    split at q
    · rename_i z
      obtain ⟨hz, -⟩ := ms_vL hst
      simp only [ms_ckx, decide_eq_true_eq] at hckx
      exact (hfin pc ls ad G h H locs hr).2.1 z q.2.2 hz (hd.resolve_left (fun z => by cases z)) hckx
    · exact q.elim
  case return_ =>
    replace q : o_vret (M_mc M) (M_ms M) Q L st G h := q
    unfold o_vret at q
    split at q
    · simp only [ms_ckx, decide_eq_true_eq] at hckx
      exact (hfin pc ls ad G h H locs hr).2.2 q.2.2 (hd.resolve_left (fun z => by cases z)) hckx
    · exact q.elim
  all_goals first | (cases hpl; done) | exact q.elim
end
