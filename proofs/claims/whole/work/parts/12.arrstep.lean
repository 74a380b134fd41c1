/-! The walk: arrays, cells that are made. -/
section
variable {p : Program} {l : Launch} {e : Env} {R : Room} {s : State} {m : MethodId} {args : Array Value} {below : List Frame} {meth : Method} {c : Code} {Qf : State → Prop}
variable {D : va_G} {cA : Nat → ClassId} {ex : Nat → Nat} {A : Nat → Prop} {S0 : ms_S} {ad0 : Nat → Nat} {P : List ms_M} {M : ms_M} {d0 : Nat} {O : ms_O} {X : ms_Z} {Q : ms_Q}
theorem ms_intu (n : Nat) (hn : n < 2 ^ 31) : rg (n : Int) := by
  unfold rg
  omega
theorem ms_tn {i : Int} (h : 0 ≤ i) : ((i.toNat : Nat) : Int) = i := Int.toNat_of_nonneg h
set_option maxHeartbeats 4000000 in
theorem ms_arr (C : ms_cx p l e R s m args below meth c Qf D cA ex A S0 ad0 P M d0 O X Q) {pc : Nat} {raw : Instr} {x : ms_X} {rest : ms_B} {L st : List ms_V} {G : ms_G} {h : ms_H} {ad : Nat → Nat} {H : Heap} {locs : List Loc} {ls : Array Slot}
    (hraw : raw = .iaload ∨ raw = .iastore ∨ raw = .baload ∨ raw = .bastore ∨ raw = .aaload ∨ raw = .aastore ∨ raw = .arraylength) (hd : decode (M_by M) pc = .ok (raw, 1)) (hrest : ms_ckB P M rest = true) (hpc : B_pc rest = pc + 1) (hr : ms_rh D cA A s S0 ad0 M ad G h H locs) (hl : ms_rl ad ex (M_ml M) G.1 L ls) (hst : ∀ v ∈ st, ms_vok G.1 v)
    (q : ms_ex O X (M_mc M) (M_ms M) Q (fun t => ms_RW p l e R s m args below meth c Qf D cA ex A S0 ad0 P M (M_bl M t)) (ms_RW p l e R s m args below meth c Qf D cA ex A S0 ad0 P M rest) raw x L st G h) : W p l e R s m args below meth c H locs G.2.1 G.2.2 Qf (F0 m pc ls (st.map (ms_c ad ex))) := by
  obtain ⟨hx, hb, hml, hown, hts, hK, hA, hini, hstat, ⟨hfr, hlo, hrc, hrs⟩, hos, hPk, hbl, hX, hfin⟩ := C
  obtain ⟨c0, a, b, d, t, w⟩ := x
  have nx : ∀ {st' : List ms_V} {h' : ms_H} {H' : Heap} {locs' : List Loc}, ms_RW p l e R s m args below meth c Qf D cA ex A S0 ad0 P M rest L st' G h' → ms_rh D cA A s S0 ad0 M ad G h' H' locs' → (∀ v ∈ st', ms_vok G.1 v) → W p l e R s m args below meth c H' locs' G.2.1 G.2.2 Qf (F0 m (pc + 1) ls (st'.map (ms_c ad ex))) := by
    intro st' h' H' locs' hq h1 h3
    have := hq hrest ad H' locs' ls h1 hl h3
    rw [hpc] at this
    exact this
  rcases hraw with rfl | rfl | rfl | rfl | rfl | rfl | rfl
  · -- iaload
    replace q := i1_x q; obtain ⟨i, r, rfl, q⟩ := q
    replace hst := ms_vI hst; obtain ⟨hi, hst⟩ := hst
    split at q
    · rename_i z r
      obtain ⟨n, hsh, h0, h1, q⟩ := q
      have hws := ms_ws_at (ad := ad) (cA := cA) (h := h) hsh
      rw [ms_int_cell] at hws
      refine va_iald hx hb hK hr.1 z.toNat 0 hws rfl (rg_in hi h0 h1) hd ?_
      rw [rg_cl hi, ms_tn h0]
      exact nx q hr (ms_pI (hr.2.2.2.1.1 z i) (List.forall_mem_cons.mp hst).2)
    · rename_i n r
      obtain ⟨x, hx1, h0, h1, q⟩ := q
      obtain ⟨k1, k2, k3⟩ := hX n x hx1
      refine va_ti hx hb k1 hr.2.2.1 (rg_in hi h0 h1) rfl hd ?_
      rw [rg_cl hi, ms_tn h0]
      exact nx q hr (ms_pI (k3 i h0 h1) (List.forall_mem_cons.mp hst).2)
    · exact q.elim
  · -- iastore
    replace q := i1_x q; obtain ⟨v, r, rfl, q⟩ := q
    replace q := i1_x q; obtain ⟨i, r, rfl, q⟩ := q
    replace q := r1_x q; obtain ⟨z, r, rfl, q⟩ := q
    replace hst := ms_vI hst; obtain ⟨hv, hst⟩ := hst
    replace hst := ms_vI hst; obtain ⟨hi, hst⟩ := hst
    replace hst := ms_vR hst; obtain ⟨hz, hst⟩ := hst
    obtain ⟨n, hsh, h0, h1, q⟩ := q
    have hws := ms_ws_at (ad := ad) (cA := cA) (h := h) hsh
    rw [ms_int_cell] at hws
    refine va_iast hx hb hK hr.1 hr.2.1 hr.2.2.1 z.toNat 0 hws rfl (rg_in hi h0 h1) hd (fun H1 locs1 hP1 hD1 hS1 => ?_)
    rw [rg_cl hi, ms_ws_int hsh h0] at hP1 hD1
    refine nx q ⟨hP1, hD1, hS1, hok_set hr.2.2.2.1 hv (fun kd n hs1 hi2 => ?_), hr.2.2.2.2⟩ hst
    rw [hsh] at hs1
    cases hs1
    rcases hi2 with hi2 | hi2
    · cases hi2
    · exact absurd hi2.1 (by decide)
  · -- baload
    replace q := i1_x q; obtain ⟨i, r, rfl, q⟩ := q
    replace q := r1_x q; obtain ⟨z, r, rfl, q⟩ := q
    replace hst := ms_vI hst; obtain ⟨hi, hst⟩ := hst
    replace hst := ms_vR hst; obtain ⟨hz, hst⟩ := hst
    obtain ⟨n, hsh, h0, h1, q⟩ := q
    have hws := ms_ws_at (ad := ad) (cA := cA) (h := h) hsh
    rw [ms_bool_cell] at hws
    refine va_zald hx hb hK hr.1 z.toNat 1 hws rfl (rg_in hi h0 h1) hd ?_
    rw [rg_cl hi, ms_tn h0]
    exact nx q hr (ms_pI (hr.2.2.2.1.1 z i) hst)
  · -- bastore
    replace q := i1_x q; obtain ⟨v, r, rfl, q⟩ := q
    replace q := i1_x q; obtain ⟨i, r, rfl, q⟩ := q
    replace q := r1_x q; obtain ⟨z, r, rfl, q⟩ := q
    replace hst := ms_vI hst; obtain ⟨hv, hst⟩ := hst
    replace hst := ms_vI hst; obtain ⟨hi, hst⟩ := hst
    replace hst := ms_vR hst; obtain ⟨hz, hst⟩ := hst
    obtain ⟨hv01, n, hsh, h0, h1, q⟩ := q
    have hws := ms_ws_at (ad := ad) (cA := cA) (h := h) hsh
    rw [ms_bool_cell] at hws
    have hnar : vp_nar .boolean (Int32.ofInt v) = Int32.ofInt v := by
      rcases hv01 with rfl | rfl <;> rfl
    refine va_zast hx hb hK hr.1 hr.2.1 hr.2.2.1 z.toNat 1 hws rfl (rg_in hi h0 h1) hd (fun H1 locs1 hP1 hD1 hS1 => ?_)
    rw [hnar, rg_cl hi, ms_ws_bool hsh h0] at hP1 hD1
    refine nx q ⟨hP1, hD1, hS1, hok_set hr.2.2.2.1 hv (fun kd n hs1 hi2 => ?_), hr.2.2.2.2⟩ hst
    rw [hsh] at hs1
    cases hs1
    rcases hi2 with hi2 | hi2
    · cases hi2
    · exact absurd hi2.1 (by decide)
  · -- aaload
    replace q := i1_x q; obtain ⟨i, r, rfl, q⟩ := q
    replace q := r1_x q; obtain ⟨z, r, rfl, q⟩ := q
    replace hst := ms_vI hst; obtain ⟨hi, hst⟩ := hst
    replace hst := ms_vR hst; obtain ⟨hz, hst⟩ := hst
    obtain ⟨n, hsh, h0, h1, q0, q⟩ := q
    have hws := ms_ws_at (ad := ad) (cA := cA) (h := h) hsh
    rw [ms_ref_cell] at hws
    refine va_aldq hx hb hK hr.1 z.toNat 2 hws rfl (rg_in hi h0 h1) hd ?_
    rw [rg_cl hi, ms_tn h0]
    have e1 : va_rf (ms_rf ad (h z i)) = .ref (ad (h z i).toNat) := by
      unfold ms_rf
      rw [if_neg (by omega)]
      rfl
    rw [e1]
    exact nx q hr (ms_pR ⟨hr.2.2.2.1.1 z i, q0, hr.2.2.2.1.2 z i 12 n hsh (Or.inl rfl)⟩ hst)
  · -- aastore
    replace q := r1_x q; obtain ⟨v, r, rfl, q⟩ := q
    replace q := i1_x q; obtain ⟨i, r, rfl, q⟩ := q
    replace q := r1_x q; obtain ⟨z, r, rfl, q⟩ := q
    replace hst := ms_vR hst; obtain ⟨hv, hst⟩ := hst
    replace hst := ms_vI hst; obtain ⟨hi, hst⟩ := hst
    replace hst := ms_vR hst; obtain ⟨hz, hst⟩ := hst
    obtain ⟨hob, n, hsh, h0, h1, q⟩ := q
    have hws := ms_ws_at (ad := ad) (cA := cA) (h := h) hsh
    rw [ms_ref_cell] at hws
    have hwv := ms_ws_at (ad := ad) (cA := cA) (h := h) hob
    rw [ms_obj_cell (by decide)] at hwv
    refine va_astq hx hb hK hr.1 hr.2.1 hr.2.2.1 z.toNat 2 v.toNat 1 (r := (RX1, TX1, 7)) hws rfl hwv rfl (rg_in hi h0 h1) hd (fun H1 locs1 hP1 hD1 hS1 => ?_)
    rw [rg_cl hi, ms_ws_ref hsh h0 hv.2.1] at hP1 hD1
    exact nx q ⟨hP1, hD1, hS1, hok_set hr.2.2.2.1 hv.1 (fun kd n hs1 hi2 => hv.2.2), hr.2.2.2.2⟩ hst
  · -- arraylength
    replace q : o_len X (ms_RW p l e R s m args below meth c Qf D cA ex A S0 ad0 P M rest) L st G h := q
    unfold o_len at q
    split at q
    · rename_i n r
      obtain ⟨x, hx1, q⟩ := q
      obtain ⟨k1, k2, k3⟩ := hX n x hx1
      refine va_tlen hx hb k1 hr.2.2.1 (v := Int32.ofInt (x.1 : Int)) (by rw [Int32.ofInt_eq_ofNat]) hd ?_
      exact nx q hr (ms_pI (ms_intu _ k2) (List.forall_mem_cons.mp hst).2)
    · exact q.elim
theorem ms_gets (C : ms_cx p l e R s m args below meth c Qf D cA ex A S0 ad0 P M d0 O X Q) {i pc : Nat} {rest : ms_B} {L st : List ms_V} {G : ms_G} {h : ms_H} {ad : Nat → Nat} {H : Heap} {locs : List Loc} {ls : Array Slot}
    (hck : Cond.fieldLink (M_nm M).cls i "SleetLine" "ORDERS" "[I" ∈ gw) (hd : decode (M_by M) pc = .ok (.getstatic i, 3)) (hrest : ms_ckB P M rest = true) (hpc : B_pc rest = pc + 3) (hr : ms_rh D cA A s S0 ad0 M ad G h H locs) (hl : ms_rl ad ex (M_ml M) G.1 L ls) (hst : ∀ v ∈ st, ms_vok G.1 v)
    (q : ms_RW p l e R s m args below meth c Qf D cA ex A S0 ad0 P M rest L (mE 1 :: st) G h) : W p l e R s m args below meth c H locs G.2.1 G.2.2 Qf (F0 m pc ls (st.map (ms_c ad ex))) := by
  obtain ⟨hx, hb, hml, hown, hts, hK, hA, hini, hstat, ⟨hfr, hlo, hrc, hrs⟩, hos, hPk, hbl, hX, hfin⟩ := C
  refine va_gets hx hb hstat.1 hr.2.2.1 hown (hts _ hck) (fun x hx => hx) hd ?_
  have := q hrest ad H locs ls hr hl (List.forall_mem_cons.mpr ⟨trivial, hst⟩)
  rw [hpc] at this
  exact this
set_option maxHeartbeats 4000000 in
/-- behind a cell that was made -/
theorem ms_made {k pc : Nat} {rest : ms_B} {L r : List ms_V} {G : ms_G} {h : ms_H} {ad : Nat → Nat} {H H1 : Heap} {locs : List Loc} {ls : Array Slot} {q0 : Nat × Nat} {qa n : Nat} {e0 : va_E}
    (hrest : ms_ckB P M rest = true) (hpc : B_pc rest = pc + k) (hr : ms_rh D cA A s S0 ad0 M ad G h H locs) (hl : ms_rl ad ex (M_ml M) G.1 L ls) (hst : ∀ v ∈ r, ms_vok G.1 v) (hm1 : G.2.1 + 1 ≤ M_mc M) (hm2 : G.2.2 + n ≤ M_ms M) (hlen : G.1.length < 1000)
    (he : ms_cell (ms_ad ad G.1.length qa) cA q0 (ms_nw h G.1.length q0.1 G.1.length) = e0) (hP1 : va_P D ms_cls (ms_ws ad cA G.1 h ++ [(qa, e0)]) H1) (hD1 : va_D A (ms_ws ad cA G.1 h ++ [(qa, e0)])) (hS1 : va_S A s.heap H1 locs)
    (q : ms_RW p l e R s m args below meth c Qf D cA ex A S0 ad0 P M rest L (mR G.1.length :: r) (G.1 ++ [q0], G.2.1 + 1, G.2.2 + n) (ms_nw h G.1.length q0.1)) : W p l e R s m args below meth c H1 locs (G.2.1 + 1) (G.2.2 + n) Qf (F0 m (pc + k) ls (.ref qa :: r.map (ms_c ad ex))) := by
  obtain ⟨hP, hD, hS, hh, hg, he1, he2⟩ := hr
  have ea := ms_ws_push (ad := ad) (cA := cA) (a := qa) hh he
  rw [ea] at hP1 hD1
  have hext : ∀ j, j < G.1.length → ms_ad ad G.1.length qa j = ad j := fun j hj => ms_ad_lt hj
  have hle : G.1.length ≤ (G.1 ++ [q0]).length := by rw [List.length_append]; omega
  have hr' : ms_rh D cA A s S0 ad0 M (ms_ad ad G.1.length qa) (G.1 ++ [q0], G.2.1 + 1, G.2.2 + n) (ms_nw h G.1.length q0.1) H1 locs :=
    ⟨hP1, hD1, hS1, hok_new hh, ⟨hm1, hm2⟩, Nat.le_trans he1 hle, fun j hj => by rw [hext j (Nat.lt_of_lt_of_le hj he1)]; exact he2 j hj⟩
  have hl' : ms_rl (ms_ad ad G.1.length qa) ex (M_ml M) (G.1 ++ [q0]) L ls := ⟨by rw [lvl_ext hext hl.2.2]; exact hl.1, hl.2.1, fun v hv => ms_vok_mono hle (hl.2.2 v hv)⟩
  have hst' : ∀ v ∈ (mR G.1.length :: r : List ms_V), ms_vok (G.1 ++ [q0]) v := by
    refine ms_pR ⟨?_, ?_, ?_⟩ (fun v hv => ms_vok_mono hle (hst v hv))
    · unfold rg; omega
    · omega
    · rw [List.length_append]; simp; omega
  have := q hrest _ H1 locs ls hr' hl' hst'
  rw [hpc] at this
  rw [← ms_c_exts hext hst]
  have e2 : ms_c (ms_ad ad G.1.length qa) ex (mR G.1.length) = .ref qa := by
    show Value.ref (ms_ad ad G.1.length qa ((G.1.length : Nat) : Int).toNat) = _
    rw [show ((G.1.length : Nat) : Int).toNat = G.1.length from Int.toNat_natCast _, ms_ad_self]
  rw [List.map_cons, e2] at this
  exact this
theorem ms_RA {U : State} {a b : ClassId} {ty : FieldType} (h1 : va_RA U a ty) (h2 : va_RA U b ty) : a = b := by
  cases ty
  case object C =>
    obtain ⟨_, _, _, _, _, h3⟩ := h1
    obtain ⟨_, _, _, _, _, h4⟩ := h2
    exact Option.some.inj (h3.symm.trans h4)
  all_goals exact Option.some.inj (Eq.trans (Eq.symm h1) h2)
set_option maxHeartbeats 4000000 in
theorem ms_alloc (C : ms_cx p l e R s m args below meth c Qf D cA ex A S0 ad0 P M d0 O X Q) {pc : Nat} {raw : Instr} {x : ms_X} {rest : ms_B} {L st : List ms_V} {G : ms_G} {h : ms_H} {ad : Nat → Nat} {H : Heap} {locs : List Loc} {ls : Array Slot}
    (hraw : (∃ i, raw = .new i) ∨ (∃ i, raw = .newarray i) ∨ (∃ i, raw = .anewarray i)) (hck : ms_ckx P M pc raw x = true) (hd : decode (M_by M) pc = .ok (raw, ms_ln raw 0)) (hrest : ms_ckB P M rest = true) (hpc : B_pc rest = pc + ms_ln raw 0) (hr : ms_rh D cA A s S0 ad0 M ad G h H locs) (hl : ms_rl ad ex (M_ml M) G.1 L ls) (hst : ∀ v ∈ st, ms_vok G.1 v)
    (q : ms_ex O X (M_mc M) (M_ms M) Q (fun t => ms_RW p l e R s m args below meth c Qf D cA ex A S0 ad0 P M (M_bl M t)) (ms_RW p l e R s m args below meth c Qf D cA ex A S0 ad0 P M rest) raw x L st G h) : W p l e R s m args below meth c H locs G.2.1 G.2.2 Qf (F0 m pc ls (st.map (ms_c ad ex))) := by
  obtain ⟨hx, hb, hml, hown, hts, hK, hA, hini, hstat, ⟨hfr, hlo, hrc, hrs⟩, hos, hPk, hbl, hX, hfin⟩ := C
  obtain ⟨c0, a, b, d, t, w⟩ := x
  rcases hraw with ⟨i, rfl⟩ | ⟨i, rfl⟩ | ⟨i, rfl⟩
  · simp only [ms_ckx] at hck
    split at hck
    · rename_i CN T N hq
      simp only [Bool.and_eq_true] at hck
      obtain ⟨⟨w1, w2⟩, w3⟩ := hck
      obtain ⟨k1, k2, k3, k4, k5, k6, k7⟩ := ms_cls_ok hq
      obtain ⟨hlen, q1, q2, q3⟩ := q
      have k4' : N = ms_N a := k4
      refine va_new (Ts := gw) (cl := ms_cls) (fs := (List.range (ms_N a)).map (fun k : Nat => ms_fv ad (ms_ft a k) (ms_nw h G.1.length a G.1.length k))) hx hb hts k5 (ms_ty a) k6 hown (hts _ (wd_in w1)) (hts _ (wd_in w2)) (hts _ (wd_in w3)) hK hr.1 hr.2.1 hr.2.2.1 hA hq (ms_dflt ad hq h _ _ k4'.symm) (by omega) (by show G.2.2 + N ≤ R.slots; omega) hd (fun qa H1 hP1 hD1 hS1 => ?_)
      rw [k4']
      refine ms_made (k := 3) (q0 := (a, ms_N a)) hrest hpc hr hl hst q1 q2 hlen ?_ hP1 hD1 hS1 q3
      have e1 : ms_cell (ms_ad ad G.1.length qa) cA (a, ms_N a) (ms_nw h G.1.length a G.1.length) = ms_cell ad cA (a, ms_N a) (ms_nw h G.1.length a G.1.length) := by
        refine ms_cell_ext (S := G.1) (fun j hj => ms_ad_lt hj) (fun b hb => ?_)
        unfold ms_nw
        have hb2 : a = 12 ∨ (a < 10 ∧ ms_ft a b = 3) := hb
        rw [if_pos rfl, if_pos hb2]
        omega
      rw [e1, ms_obj_cell (by omega)]
    · cases hck
  · simp only [ms_ckx] at hck
    replace q := i1_x q; obtain ⟨n, r, rfl, q⟩ := q
    replace hst := ms_vI hst; obtain ⟨hn, hst⟩ := hst
    obtain ⟨q0, ⟨q1, hlen⟩, q2, q3, q⟩ := q
    have hnn : ¬ Int32.ofInt n < 0 := fun z => by have := (rg_lt hn rg_0).mp z; omega
    have w12 := wd_max
    simp only [Bool.and_eq_true] at w12
    cases i
    case int =>
      simp only [decide_eq_true_eq] at hck
      subst hck
      refine va_newa (atype := .int) (a0 := (n.toNat, .inl (fun _ => 0))) hx hb (hts _ (wd_in w12.1.2)) rfl hK hr.1 hr.2.1 hr.2.2.1 hA (fun _ => rfl) hnn (rg_cl hn) (by show n.toNat * 4 ≤ 536870912; omega) (by omega) (by omega) hd (fun qa cB H1 hK1 hP1 hD1 hS1 => ?_)
      have hcB : cB = cA 0 := ms_RA (hK1.2 3 (cB, .int) rfl).2 (hK.2 0 (cA 0, .int) rfl).2
      subst hcB
      refine ms_made (k := 2) (q0 := (10, n.toNat)) hrest hpc hr hl hst q2 q3 hlen ?_ hP1 hD1 hS1 q
      rw [ms_int_cell]
      congr 3
      apply congrArg Sum.inl
      funext j
      unfold ms_nw
      rw [if_pos rfl, if_neg (fun z => by simp at z)]
      rfl
    case boolean =>
      simp only [decide_eq_true_eq] at hck
      subst hck
      refine va_newa (atype := .boolean) (a0 := (n.toNat, .inl (fun _ => 0))) hx hb (hts _ (wd_in w12.2)) rfl hK hr.1 hr.2.1 hr.2.2.1 hA (fun _ => rfl) hnn (rg_cl hn) (by show n.toNat * 1 ≤ 536870912; omega) (by omega) (by omega) hd (fun qa cB H1 hK1 hP1 hD1 hS1 => ?_)
      have hcB : cB = cA 1 := ms_RA (hK1.2 3 (cB, .boolean) rfl).2 (hK.2 1 (cA 1, .boolean) rfl).2
      subst hcB
      refine ms_made (k := 2) (q0 := (11, n.toNat)) hrest hpc hr hl hst q2 q3 hlen ?_ hP1 hD1 hS1 q
      rw [ms_bool_cell]
      congr 3
      apply congrArg Sum.inl
      funext j
      unfold ms_nw
      rw [if_pos rfl, if_neg (fun z => by simp at z)]
      rfl
    all_goals cases hck
  · simp only [ms_ckx, Bool.and_eq_true, decide_eq_true_eq] at hck
    replace q := i1_x q; obtain ⟨n, r, rfl, q⟩ := q
    replace hst := ms_vI hst; obtain ⟨hn, hst⟩ := hst
    obtain ⟨q0, ⟨q1, hlen⟩, q2, q3, q⟩ := q
    obtain ⟨rfl, w1⟩ := hck
    have hnn : ¬ Int32.ofInt n < 0 := fun z => by have := (rg_lt hn rg_0).mp z; omega
    refine va_newq hx hb hown (hts _ (wd_in w1)) hstat.2.2.1 hK hr.1 hr.2.1 hr.2.2.1 hA hnn (rg_cl hn) (by omega) (by omega) (by omega) hd (fun qa cB H1 hK1 hP1 hD1 hS1 => ?_)
    have hcB : cB = cA 2 := ms_RA (hK1.2 3 (cB, .object RX1) rfl).2 (hK.2 2 (cA 2, .object RX1) rfl).2
    subst hcB
    refine ms_made (k := 3) (q0 := (12, n.toNat)) hrest hpc hr hl hst q2 q3 hlen ?_ hP1 hD1 hS1 q
    rw [ms_ref_cell]
    congr 6
    apply congrArg Sum.inr
    funext j
    unfold ms_nw
    rw [if_pos rfl, if_pos (Or.inl rfl)]
    rfl
end
