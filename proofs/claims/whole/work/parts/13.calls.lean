/-! The walk: calls. -/
section
variable {p : Program} {l : Launch} {e : Env} {R : Room} {s : State} {m : MethodId} {args : Array Value} {below : List Frame} {meth : Method} {c : Code} {Qf : State → Prop}
variable {D : va_G} {cA : Nat → ClassId} {ex : Nat → Nat} {A : Nat → Prop} {S0 : ms_S} {ad0 : Nat → Nat} {P : List ms_M} {M : ms_M} {d0 : Nat} {O : ms_O} {X : ms_Z} {Q : ms_Q}
theorem ms_ckc_x {i kd : Nat} {c0 : Int} {a b d w : Nat} {t : List (Int × Nat)} (h : ms_ckc P M i kd (c0, a, b, d, t, w) = true) : ∃ M' : ms_M, P[a]? = some M' ∧ M_kd M' = kd ∧ M_na M' = b ∧ (Cond.methodLink (M_nm M).cls i (M_nm M') ∈ gw ∨ ((M_nm M).cls, i, M_nm M') ∈ ms_nest) ∧
    (kd ≠ 1 → ∃ ci q, d = ci + 1 ∧ ms_cls[ci]? = some q ∧ q.1 = (M_nm M').cls) ∧ ((t = [] ∧ M_mc M' = 0 ∧ M_ms M' = 0) ∨ ∃ kc ks t', t = (kc, ks) :: t' ∧ kc.toNat = M_mc M' ∧ ks = M_ms M') := by
  unfold ms_ckc at h
  dsimp only at h
  split at h
  · cases h
  · rename_i M' hM
    simp only [Bool.and_eq_true, Bool.or_eq_true, decide_eq_true_eq] at h
    obtain ⟨⟨⟨⟨h1, h2⟩, h3⟩, h4⟩, h5⟩ := h
    refine ⟨M', hM, h1, h2, ?_, fun hk => ?_, ?_⟩
    · rcases h3 with h3 | h3
      · exact Or.inl (wd_in h3)
      · exact Or.inr h3
    · split at h4
      · simp only [decide_eq_true_eq] at h4
        exact absurd h4 hk
      · rename_i ci
        simp only [Bool.and_eq_true] at h4
        have h6 := h4.2
        split at h6
        · rename_i q hq
          exact ⟨ci, q, rfl, hq, of_decide_eq_true h6⟩
        · cases h6
    · split at h5
      · simp only [Bool.and_eq_true, decide_eq_true_eq] at h5
        exact Or.inl ⟨rfl, h5⟩
      · rename_i kc ks t'
        simp only [Bool.and_eq_true, decide_eq_true_eq] at h5
        exact Or.inr ⟨kc, ks, t', rfl, h5⟩
theorem ms_stk {b : Nat} {st : List ms_V} {ad : Nat → Nat} : st.map (ms_c ad ex) = ((st.take b).reverse.map (ms_c ad ex)).reverse ++ (st.drop b).map (ms_c ad ex) := by
  rw [List.map_reverse, List.reverse_reverse, ← List.map_append, List.take_append_drop]
theorem ms_sum1 (ad ex : Nat → Nat) : ∀ (st : List ms_V), st.all ms_nl = true → (((st.map (ms_c ad ex)).map fun v => v.category).sum) ≤ st.length
  | [], _ => by simp
  | v :: st, h => by
    rw [List.all_cons, Bool.and_eq_true] at h
    have h1 := ms_sum1 ad ex st h.2
    have h2 := ms_c_cat (ad := ad) (ex := ex) h.1
    simp only [List.map_cons, List.sum_cons, List.length_cons]
    omega
set_option maxHeartbeats 4000000 in
theorem ms_callx (C : ms_cx p l e R s m args below meth c Qf D cA ex A S0 ad0 P M d0 O X Q) {i pc kd : Nat} {raw : Instr} {c0 : Int} {a b d w : Nat} {t : List (Int × Nat)} {rest : ms_B} {L st : List ms_V} {G : ms_G} {h : ms_H} {ad : Nat → Nat} {H : Heap} {locs : List Loc} {ls : Array Slot}
    (hck : ms_ckc P M i kd (c0, a, b, d, t, w) = true) (hraw : (kd = 0 ∧ raw = .invokevirtual i) ∨ (kd = 1 ∧ raw = .invokestatic i) ∨ (kd = 2 ∧ raw = .invokespecial i)) (hd : decode (M_by M) pc = .ok (raw, 3)) (hrest : ms_ckB P M rest = true) (hpc : B_pc rest = pc + 3) (hr : ms_rh D cA A s S0 ad0 M ad G h H locs) (hl : ms_rl ad ex (M_ml M) G.1 L ls) (hst : ∀ v ∈ st, ms_vok G.1 v)
    (q : o_call O (M_mc M) (M_ms M) a b d t (ms_RW p l e R s m args below meth c Qf D cA ex A S0 ad0 P M rest) L st G h) : W p l e R s m args below meth c H locs G.2.1 G.2.2 Qf (F0 m pc ls (st.map (ms_c ad ex))) := by
  have C' := C
  obtain ⟨hx, hb, hml, hown, hts, hK, hA, hini, hstat, ⟨hfr, hlo, hrc, hrs⟩, hos, hPk, hbl, hX, hfin⟩ := C
  obtain ⟨M', hP', hkd, hna, hlink, hd0, htt⟩ := ms_ckc_x hck
  obtain ⟨g1, g2, g3, g4, g5, g6, g7, g8, g9, g10, g11, g12⟩ := ckM_x (hPk M' (List.mem_of_getElem? hP'))
  obtain ⟨q1, q2, q3, q4, q5⟩ := q
  obtain ⟨kc, ks, e1, e2, e3, e4, hO⟩ : ∃ kc ks, kc = M_mc M' ∧ ks = M_ms M' ∧ G.2.1 + kc ≤ M_mc M ∧ G.2.2 + ks ≤ M_ms M ∧ O a (st.take b).reverse G.1 h (o_back kc ks (ms_RW p l e R s m args below meth c Qf D cA ex A S0 ad0 P M rest) L (st.drop b) G) := by
    rcases htt with ⟨rfl, h1, h2⟩ | ⟨kc, ks, t', rfl, h1, h2⟩
    · exact ⟨0, 0, h1.symm, h2.symm, by have := hr.2.2.2.2.1; omega, by have := hr.2.2.2.2.1; omega, q5⟩
    · exact ⟨kc.toNat, ks, h1, h2, q5.1, q5.2.1, q5.2.2⟩
  have hvs : ∀ v ∈ (st.take b).reverse, ms_vok G.1 v := fun v hv => hst v (List.mem_of_mem_take (List.mem_reverse.mp hv))
  have hrs2 : ∀ v ∈ st.drop b, ms_vok G.1 v := fun v hv => hst v (List.mem_of_mem_drop hv)
  have hnl : ∀ v ∈ (st.take b).reverse, ms_nl v = true := fun v hv => List.all_eq_true.mp q3 v (List.mem_reverse.mp hv)
  have hvl : ((st.take b).reverse).length = b := by rw [List.length_reverse, List.length_take]; omega
  have hM := hos a M' _ G.1 h _ hP' hO hvs hnl hr.2.2.2.1 ad H.size
  unfold ms_met at hM
  subst e1; subst e2
  have hin := ms_cells_in (h := h) (ad := ad) (D := D) hr.2.1 hr.2.2.1 hA
  have hpre : ∀ U : State, U.heap = H → s.WarmedH U.vm → ms_pre D cA ex ad G.1 h H.size U := by
    intro U hU hW
    refine ⟨by rw [hU], by rw [hU]; exact hr.1, va_K.moved hW.alike hK, hr.2.1.weaken (fun _ _ _ _ => trivial), ?_⟩
    exact ms_stat_to hstat (locs := locs) (by rw [hU]; exact hr.2.2.1) hin hW
  have hroom : 2 * (F0 m pc ls (st.map (ms_c ad ex))).monitorRoom + (((st.drop b).map (ms_c ad ex)).map fun v => v.category).sum ≤ 8 := by
    refine lv_room ?_
    rcases q2 with q2 | q2
    · have := ms_sum ad ex (st.drop b)
      omega
    · have := ms_sum1 ad ex (st.drop b) q2.2
      omega
  have hfit : G.2.1 + M_mc M' ≤ R.cells ∧ G.2.2 + M_ms M' ≤ R.slots := ⟨by omega, by omega⟩
  have wsok : ∀ w ∈ ms_wsM M', w ∈ gw := by
    intro w hw
    rcases List.mem_cons.mp hw with rfl | hw
    · exact g1
    · exact hw
  have base : ∀ n, (parseMethodDescriptor (M_nm M').desc).map (fun d => d.parameters.length) = some n → (ms_rm d0 M').cells = M_mc M' ∧ (ms_rm d0 M').slots = M_ms M' ∧ (ms_rm d0 M').frames + 1 ≤ R.frames ∧ 8 + (M_ml M' + 11) + (ms_rm d0 M').locals ≤ R.locals ∧ (∀ w ∈ ms_wsM M', ∀ (a' : Array Value) (U : State), s.WarmedH U.vm → w.before a' U = true) ∧ Cond.code (M_nm M') (M_by M') (M_ml M') (M_rt M') ∈ ms_wsM M' ∧
      (Cond.code (M_nm M') (M_by M') (M_ml M') (M_rt M')).before args s = true ∧ (Cond.initialized (M_nm M').cls).before args s = true ∧ ((M_nm M').cls ≠ "java/lang/invoke/MethodHandle" ∧ (M_nm M').cls ≠ "java/lang/invoke/VarHandle") ∧ (∀ sig, parseMethodDescriptor (M_nm M').desc = some sig → n = sig.parameters.length) := by
    intro n hn
    refine ⟨rfl, rfl, hfr, by show 8 + (M_ml M' + 11) + 60 * d0 ≤ R.locals; omega, fun w hw a' U hW => word_at hW (gw_good (wsok w hw)) (hts w (wsok w hw)), List.mem_cons_self, hts _ g1, hts _ g2, g6, fun sig hs => ?_⟩
    rw [hs] at hn
    exact (Option.some.inj hn).symm
  have plus : ∀ {o : Option MethodDescriptor} {k : Nat}, o.map (fun d => d.parameters.length + 1) = some (k + 1) → o.map (fun d => d.parameters.length) = some k := by
    intro o k hk
    cases o with
    | none => cases hk
    | some y =>
      have := Option.some.inj hk
      show some _ = some _
      congr 1
      exact Nat.succ.inj this
  rcases hraw with ⟨rfl, rfl⟩ | ⟨rfl, rfl⟩ | ⟨rfl, rfl⟩
  · obtain ⟨ci, qc, rfl, hc1, hc2⟩ := hd0 (by decide)
    obtain ⟨w1, w2, w3⟩ := g3 hkd
    obtain ⟨z, As, hv, hob⟩ := ms_rc_x q4
    rw [hv] at hM hvl
    have hstk : st.map (ms_c ad ex) = (As.map (ms_c ad ex)).reverse ++ .ref (ad z.toNat) :: (st.drop b).map (ms_c ad ex) := by
      rw [ms_stk (b := b), hv]
      simp [ms_c]
    have hn : (parseMethodDescriptor (M_nm M').desc).map (fun d => d.parameters.length) = some As.length := plus (by rw [w3, hna, ← hvl]; rfl)
    obtain ⟨b1, b2, b3, b4, b5, b6, b7, b8, b9, b10⟩ := base _ hn
    have hws := ms_ws_at (ad := ad) (cA := cA) (h := h) hob
    rw [ms_obj_cell (by have := (ms_cls_ok hc1).1; omega)] at hws
    have hrecv := va_recv hK hr.1 hc1 hws
    rw [hc2] at hrecv
    have hPre : PreV s H (M_nm M').cls (ad z.toNat) (va_Pc ((mR z :: As).map (ms_c ad ex)) (ms_pre D cA ex ad G.1 h H.size)) (As.map (ms_c ad ex)) := ⟨ms_blind _, hrecv, fun U hU hW => ⟨rfl, hpre U hU hW⟩⟩
    refine ms_call_end (M' := M') (av := (Value.ref (ad z.toNat) :: As.map (ms_c ad ex)).toArray) (kc := M_mc M') (ks := M_ms M') (r := st.drop b) hA hrest hpc hr hl hrs2 ⟨e3, e4⟩ g10 ?_
    rcases hlink with hlink | hlink
    · exact va_runV (nL := M_ml M) (Ts := gw) (n := As.length) (bytes := M_by M') (maxL := M_ml M') (ret := M_rt M') ⟨hx, hb, hml, hown, hts⟩ hM ⟨⟨b1, b2, b3, b4, b5, b6, b7, b8, b9, b10, hts _ hlink⟩, hts _ w1, hts _ w2⟩ hPre rfl (by simp) hl.1.1 hstk hroom hd hfit
    · exact va_runVN (nL := M_ml M) (Ts := gw) (n := As.length) (host := "SleetLine") (bytes := M_by M') (maxL := M_ml M') (ret := M_rt M') ⟨hx, hb, hml, hown, hts⟩ hM ⟨⟨⟨b1, b2, b3, b4, b5, b6⟩, b7, b8, b9, b10, va_Nw.use rfl (hstat.2.2.2 _ hlink)⟩, hts _ w1, hts _ w2⟩ hPre rfl (by simp) hl.1.1 hstk hroom hd hfit
  · obtain ⟨w1, w2⟩ := g4 hkd
    have hstk : st.map (ms_c ad ex) = ((st.take b).reverse.map (ms_c ad ex)).reverse ++ (st.drop b).map (ms_c ad ex) := ms_stk
    have hn : (parseMethodDescriptor (M_nm M').desc).map (fun d => d.parameters.length) = some ((st.take b).reverse).length := by rw [w2, hna, hvl]
    obtain ⟨b1, b2, b3, b4, b5, b6, b7, b8, b9, b10⟩ := base _ hn
    have hPre : PreS s H (va_Pc ((st.take b).reverse.map (ms_c ad ex)) (ms_pre D cA ex ad G.1 h H.size)) ((st.take b).reverse.map (ms_c ad ex)) := ⟨ms_blind _, fun U hU hW => ⟨rfl, hpre U hU hW⟩⟩
    refine ms_call_end (M' := M') (av := ((st.take b).reverse.map (ms_c ad ex)).toArray) (kc := M_mc M') (ks := M_ms M') (r := st.drop b) hA hrest hpc hr hl hrs2 ⟨e3, e4⟩ g10 ?_
    rcases hlink with hlink | hlink
    · exact va_runS (nL := M_ml M) (Ts := gw) (n := ((st.take b).reverse).length) (bytes := M_by M') (maxL := M_ml M') (ret := M_rt M') ⟨hx, hb, hml, hown, hts⟩ hM ⟨⟨b1, b2, b3, b4, b5, b6, b7, b8, b9, b10, hts _ hlink⟩, hts _ w1⟩ hPre rfl (List.length_map _) hl.1.1 hstk hroom hd hfit
    · exact va_runSN (nL := M_ml M) (Ts := gw) (n := ((st.take b).reverse).length) (host := "SleetLine") (bytes := M_by M') (maxL := M_ml M') (ret := M_rt M') ⟨hx, hb, hml, hown, hts⟩ hM ⟨⟨⟨b1, b2, b3, b4, b5, b6⟩, b7, b8, b9, b10, va_Nw.use rfl (hstat.2.2.2 _ hlink)⟩, hts _ w1, trivial⟩ hPre rfl (List.length_map _) hl.1.1 hstk hroom hd hfit
  · obtain ⟨w1, w2, w3, w4⟩ := g5 hkd
    obtain ⟨ci, qc, rfl, hc1, hc2⟩ := hd0 (by decide)
    obtain ⟨z, As, hv, hob⟩ := ms_rc_x q4
    rw [hv] at hM hvl
    have hstk : st.map (ms_c ad ex) = (As.map (ms_c ad ex)).reverse ++ .ref (ad z.toNat) :: (st.drop b).map (ms_c ad ex) := by
      rw [ms_stk (b := b), hv]
      simp [ms_c]
    have hn : (parseMethodDescriptor (M_nm M').desc).map (fun d => d.parameters.length) = some As.length := plus (by rw [w4, hna, ← hvl]; rfl)
    obtain ⟨b1, b2, b3, b4, b5, b6, b7, b8, b9, b10⟩ := base _ hn
    rw [w3] at b6 b7
    have hPre : PreS s H (va_Pc ((mR z :: As).map (ms_c ad ex)) (ms_pre D cA ex ad G.1 h H.size)) (.ref (ad z.toNat) :: As.map (ms_c ad ex)) := ⟨ms_blind _, fun U hU hW => ⟨rfl, hpre U hU hW⟩⟩
    refine ms_call_end (M' := M') (av := (Value.ref (ad z.toNat) :: As.map (ms_c ad ex)).toArray) (kc := M_mc M') (ks := M_ms M') (r := st.drop b) hA hrest hpc hr hl hrs2 ⟨e3, e4⟩ g10 ?_
    rcases hlink with hlink | hlink
    · exact va_runI (nL := M_ml M) (Ts := gw) (n := As.length) (bytes := M_by M') (maxL := M_ml M') ⟨hx, hb, hml, hown, hts⟩ hM ⟨⟨b1, b2, b3, b4, b5, b6, b7, b8, b9, b10, hts _ hlink⟩, w2, hts _ w1⟩ hPre rfl (by simp) hl.1.1 hstk hroom hd hfit
    · exact va_runIN (nL := M_ml M) (Ts := gw) (n := As.length) (host := "SleetLine") (bytes := M_by M') (maxL := M_ml M') ⟨hx, hb, hml, hown, hts⟩ hM ⟨⟨⟨b1, b2, b3, b4, b5, b6⟩, b7, b8, b9, b10, va_Nw.use rfl (hstat.2.2.2 _ hlink)⟩, w2, hts _ w1⟩ hPre rfl (by simp) hl.1.1 hstk hroom hd hfit
end
