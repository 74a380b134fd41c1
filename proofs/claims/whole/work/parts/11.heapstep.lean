/-! The walk: instructions on cells, and calls. -/
theorem wd_max : (wd 470 (.static Lib.Math.max.name) && wd 471 (.code Lib.Math.max.name Lib.Math.max.code 2 (some .int)) && wd 473 (.static Lib.Math.min.name) && wd 474 (.code Lib.Math.min.name Lib.Math.min.code 2 (some .int)) && wd 85 (.initialized "java/lang/Math") && wd 459 (.static arraycopyName) && wd 460 (.native arraycopyName) && wd 84 (.initialized "java/lang/System") && wd 93 (.instanceMethod Lib.objectInit) && wd 94 (.code Lib.objectInit ⟨#[0xb1]⟩ 1 none) && wd 130 (.arrayClass .int) && wd 289 (.arrayClass .boolean)) = true := by decide +kernel
theorem ms_dflt (ad : Nat → Nat) {ci : Nat} {q : vw_C} (h : ms_cls[ci]? = some q) (h0 : ms_H) (z : Int) (n : Nat) (hn : n = q.2.2) : ∀ j, j < q.2.2 → defaultValue (ms_ty ci j) = vp_V ((List.range n).map (fun k : Nat => ms_fv ad (ms_ft ci k) (ms_nw h0 z ci z k))) j := by
  intro j hj
  obtain ⟨hc, -, h2, -⟩ := ms_cls_ok h
  subst hn
  unfold vp_V
  rw [List.getD_eq_getElem?_getD, List.getElem?_map, List.getElem?_range hj]
  show _ = ms_fv ad (ms_ft ci j) (ms_nw h0 z ci z j)
  have h3 := h2 j hj
  have h4 := ms_nar h3
  by_cases a3 : ms_ft ci (j : Int) = 3
  · have e : ms_nw h0 z ci z j = -1 := by
      unfold ms_nw
      rw [if_pos rfl, if_pos (Or.inr ⟨by omega, a3⟩)]
    rw [e]
    unfold ms_fv
    rw [if_pos a3]
    rcases h4.2.2.2 a3 with ⟨C, e⟩ | ⟨C, e⟩ <;> rw [e] <;> rfl
  · have e : ms_nw h0 z ci z j = 0 := by
      unfold ms_nw
      rw [if_pos rfl, if_neg (fun z => by rcases z with z | z; exact absurd z (by omega); exact a3 z.2)]
    rw [e]
    unfold ms_fv
    rw [if_neg a3]
    by_cases a2 : ms_ft ci (j : Int) = 2
    · rw [if_pos a2, h4.2.2.1 a2]; rfl
    · rw [if_neg a2]
      have h5 : ms_ft ci (j : Int) = 0 ∨ ms_ft ci (j : Int) = 1 := by
        have : ∀ ci, ci < 6 → ∀ k, k < 37 → ms_ft ci ((k : Nat) : Int) < 4 := by decide +kernel
        have h6 : q.2.2 ≤ 37 := by
          have : ∀ ci, ci < 6 → ms_N ci ≤ 37 := by decide +kernel
          rw [(ms_cls_ok h).2.2.2.1]; exact this ci hc
        have h7 := this ci hc j (by omega)
        omega
      rcases h5 with h5 | h5
      · rw [h4.1 h5]; rfl
      · rw [h4.2.1 h5]; rfl
section
variable {p : Program} {l : Launch} {e : Env} {R : Room} {s : State} {m : MethodId} {args : Array Value} {below : List Frame} {meth : Method} {c : Code} {Qf : State → Prop}
variable {D : va_G} {cA : Nat → ClassId} {ex : Nat → Nat} {A : Nat → Prop} {S0 : ms_S} {ad0 : Nat → Nat} {P : List ms_M} {M : ms_M} {d0 : Nat} {O : ms_O} {X : ms_Z} {Q : ms_Q}
theorem ms_ckf_x {i : Nat} {c0 : Int} {a b d w : Nat} {t : List (Int × Nat)} (h : ms_ckf M i (c0, a, b, d, t, w) = true) : ∃ q : vw_C, ms_cls[a]? = some q ∧ 0 ≤ c0 ∧ c0.toNat < q.2.2 ∧ ms_ft a c0 = b ∧ Cond.fieldLink (M_nm M).cls i q.1 (q.2.1 c0.toNat).2.1 (q.2.1 c0.toNat).2.2.1 ∈ gw := by
  unfold ms_ckf at h
  simp only at h
  split at h
  · rename_i C T N hq
    simp only [Bool.and_eq_true, decide_eq_true_eq] at h
    exact ⟨(C, T, N), hq, h.1.1.1, h.1.1.2, h.1.2, wd_in h.2⟩
  · cases h
set_option maxHeartbeats 4000000 in
theorem ms_get (C : ms_cx p l e R s m args below meth c Qf D cA ex A S0 ad0 P M d0 O X Q) {i pc : Nat} {c0 : Int} {a b d w : Nat} {t : List (Int × Nat)} {rest : ms_B} {L st : List ms_V} {G : ms_G} {h : ms_H} {ad : Nat → Nat} {H : Heap} {locs : List Loc} {ls : Array Slot}
    (hck : ms_ckf M i (c0, a, b, d, t, w) = true) (hd : decode (M_by M) pc = .ok (.getfield i, 3)) (hrest : ms_ckB P M rest = true) (hpc : B_pc rest = pc + 3) (hr : ms_rh D cA A s S0 ad0 M ad G h H locs) (hl : ms_rl ad ex (M_ml M) G.1 L ls) (hst : ∀ v ∈ st, ms_vok G.1 v)
    (q : o_get c0 a b (ms_RW p l e R s m args below meth c Qf D cA ex A S0 ad0 P M rest) L st G h) : W p l e R s m args below meth c H locs G.2.1 G.2.2 Qf (F0 m pc ls (st.map (ms_c ad ex))) := by
  obtain ⟨hx, hb, hml, hown, hts, hK, hA, hini, hstat, ⟨hfr, hlo, hrc, hrs⟩, hos, hPk, hbl, hX, hfin⟩ := C
  obtain ⟨⟨CN, T, N⟩, hq1, hc0, hc1, hft, hlink⟩ := ms_ckf_x hck
  obtain ⟨k1, k2, k3, k4, k5, k6, k7⟩ := ms_cls_ok hq1
  replace q := r1_x q; obtain ⟨z, r, rfl, hob, q⟩ := q
  replace hst := ms_vR hst; obtain ⟨hz, hst⟩ := hst
  have hck0 : ((c0.toNat : Nat) : Int) = c0 := by omega
  have hws := ms_ws_at (ad := ad) (cA := cA) (h := h) hob
  rw [ms_obj_cell (by omega)] at hws
  have hv : ((List.range (ms_N a)).map (fun k : Nat => ms_fv ad (ms_ft a k) (h z k)))[c0.toNat]? = some (ms_fv ad (ms_ft a c0) (h z c0)) := by
    rw [List.getElem?_map, List.getElem?_range (by rw [← k4]; exact hc1)]
    show some (ms_fv ad (ms_ft a ((c0.toNat : Nat) : Int)) (h z ((c0.toNat : Nat) : Int))) = _
    rw [hck0]
  have key : ∀ v' : ms_V, ms_fv ad (ms_ft a c0) (h z c0) = ms_c ad ex v' → ms_vok G.1 v' → ms_RW p l e R s m args below meth c Qf D cA ex A S0 ad0 P M rest L (v' :: r) G h → W p l e R s m args below meth c H locs G.2.1 G.2.2 Qf (F0 m pc ls ((mR z :: r).map (ms_c ad ex))) := by
    intro v' e1 e2 q
    refine va_get (Ts := gw) hx hb hts k5 hown hK hr.1 z.toNat hws hq1 c0.toNat hc1 (hts _ hlink) (fun x hx => by rw [k2 _ hc1] at hx; exact hx) hv hd ?_
    rw [e1]
    have := q hrest ad H locs ls hr hl (List.forall_mem_cons.mpr ⟨e2, hst⟩)
    rw [hpc] at this
    exact this
  have hrg := hr.2.2.2.1.1 z c0
  split at q
  · rename_i hb3
    refine key (mR (h z c0)) ?_ ⟨hrg, q.1, hr.2.2.2.1.2 z c0 a (ms_N a) hob (Or.inr ⟨by omega, by rw [hft]; exact hb3⟩)⟩ q.2
    rw [hft, hb3]
    show va_rf (ms_rf ad (h z c0)) = .ref (ad (h z c0).toNat)
    unfold ms_rf
    rw [if_neg (by have := q.1; omega)]
    rfl
  · split at q
    · rename_i hb3 hb2
      refine key (mL (h z c0)) ?_ hrg q
      rw [hft, hb2]
      rfl
    · rename_i hb3 hb2
      refine key (mI (h z c0)) ?_ hrg q
      rw [hft]
      unfold ms_fv
      rw [if_neg hb3, if_neg hb2]
      rfl
set_option maxHeartbeats 4000000 in
theorem ms_putx (C : ms_cx p l e R s m args below meth c Qf D cA ex A S0 ad0 P M d0 O X Q) {i pc : Nat} {c0 z : Int} {a b d w : Nat} {t : List (Int × Nat)} {rest : ms_B} {L r : List ms_V} {G : ms_G} {h : ms_H} {ad : Nat → Nat} {H : Heap} {locs : List Loc} {ls : Array Slot} {v : Int} {v' : ms_V}
    (hck : ms_ckf M i (c0, a, b, d, t, w) = true) (hckw : ms_ckw M (c0, a, b, d, t, w) = true) (hd : decode (M_by M) pc = .ok (.putfield i, 3)) (hrest : ms_ckB P M rest = true) (hpc : B_pc rest = pc + 3) (hr : ms_rh D cA A s S0 ad0 M ad G h H locs) (hl : ms_rl ad ex (M_ml M) G.1 L ls) (hst : ∀ v ∈ r, ms_vok G.1 v)
    (hob : ms_ob G.1 z a) (hv : ms_fv ad b v = ms_c ad ex v') (hrg : rg v) (hrf : b = 3 → v < G.1.length) (hn : ∀ ty, ms_tc ty = b → narrow ty (ms_c ad ex v') = ms_c ad ex v' ∧ fits ty (ms_c ad ex v') = true)
    (q : ms_RW p l e R s m args below meth c Qf D cA ex A S0 ad0 P M rest L r G (hs h z c0 v)) : W p l e R s m args below meth c H locs G.2.1 G.2.2 Qf (F0 m pc ls (ms_c ad ex v' :: .ref (ad z.toNat) :: r.map (ms_c ad ex))) := by
  obtain ⟨hx, hb, hml, hown, hts, hK, hA, hini, hstat, ⟨hfr, hlo, hrc, hrs⟩, hos, hPk, hbl, hX, hfin⟩ := C
  obtain ⟨⟨CN, T, N⟩, hq1, hc0, hc1, hft, hlink⟩ := ms_ckf_x hck
  obtain ⟨k1, k2, k3, k4, k5, k6, k7⟩ := ms_cls_ok hq1
  have hck0 : ((c0.toNat : Nat) : Int) = c0 := by omega
  have hws := ms_ws_at (ad := ad) (cA := cA) (h := h) hob
  rw [ms_obj_cell (by omega)] at hws
  have htc : ms_tc (ms_ty a c0.toNat) = b := by
    have := k3 c0.toNat hc1
    rw [hck0] at this
    rw [this]; exact hft
  have hN := hn _ htc
  have hlen : c0.toNat < ((List.range (ms_N a)).map (fun k : Nat => ms_fv ad (ms_ft a k) (h z k))).length := by
    simp only [List.length_map, List.length_range]
    rw [← k4]; exact hc1
  have fin : ∀ (H1 : Heap) (locs1 : List Loc), va_P D ms_cls ((ms_ws ad cA G.1 h).set z.toNat (ad z.toNat, .inr (a, ((List.range (ms_N a)).map (fun k : Nat => ms_fv ad (ms_ft a k) (h z k))).set c0.toNat (ms_c ad ex v')))) H1 → va_D A ((ms_ws ad cA G.1 h).set z.toNat (ad z.toNat, .inr (a, ((List.range (ms_N a)).map (fun k : Nat => ms_fv ad (ms_ft a k) (h z k))).set c0.toNat (ms_c ad ex v')))) → va_S A s.heap H1 locs1 → W p l e R s m args below meth c H1 locs1 G.2.1 G.2.2 Qf (F0 m (pc + 3) ls (r.map (ms_c ad ex))) := by
    intro H1 locs1 hP1 hD1 hS1
    have e1 := ms_ws_put (ad := ad) (cA := cA) (h := h) (v := v) (k := c0.toNat) hob (by omega)
    rw [hck0, hft, hv] at e1
    rw [e1] at hP1 hD1
    have := q hrest ad H1 locs1 ls ⟨hP1, hD1, hS1, hok_set hr.2.2.2.1 hrg (fun kd n hs1 hi => hrf ?_), hr.2.2.2.2⟩ hl hst
    · rw [hpc] at this
      exact this
    · have hs2 : ms_sh G.1 z = some (a, ms_N a) := hob
      rw [hs2] at hs1
      cases hs1
      rcases hi with hi | hi
      · omega
      · rw [← hft]; exact hi.2
  unfold ms_ckw at hckw
  dsimp only at hckw
  rw [hq1] at hckw
  simp only [Bool.or_eq_true, Bool.and_eq_true, decide_eq_true_eq] at hckw
  rcases hckw with hf | ⟨⟨hf1, hf2⟩, hf3⟩
  · exact va_put (Ts := gw) hx hb hts k5 (ms_ty a) k6 k7 hown hK hr.1 hr.2.1 hr.2.2.1 z.toNat hws hq1 c0.toNat hc1 (hts _ hlink) (fun x hx => by rw [k2 _ hc1] at hx; exact hx) hf (k6 _ hc1) hN.1 hN.2 hlen hd fin
  · by_cases hf : (T c0.toNat).2.2.2 = false
    · exact va_put (Ts := gw) hx hb hts k5 (ms_ty a) k6 k7 hown hK hr.1 hr.2.1 hr.2.2.1 z.toNat hws hq1 c0.toNat hc1 (hts _ hlink) (fun x hx => by rw [k2 _ hc1] at hx; exact hx) hf (k6 _ hc1) hN.1 hN.2 hlen hd fin
    · have hf' : (T c0.toNat).2.2.2 = true := by
        cases hh : (T c0.toNat).2.2.2
        · exact absurd hh hf
        · rfl
      exact va_putF (Ts := gw) hx hb hts k5 (ms_ty a) k6 k7 hown hK hr.1 hr.2.1 hr.2.2.1 z.toNat hws hq1 c0.toNat hc1 (hts _ hlink) (fun x hx => by rw [k2 _ hc1] at hx; exact hx) hf' (hini hf1) (by rw [k2 _ hc1]; exact hf2) (k6 _ hc1) hN.1 hN.2 hlen hd fin
theorem ms_nf_int {b : Nat} (hb : b = 0) (z : Int) : ∀ ty, ms_tc ty = b → narrow ty (.int (Int32.ofInt z)) = .int (Int32.ofInt z) ∧ fits ty (.int (Int32.ofInt z)) = true := by
  intro ty h
  rw [(ms_nar h).1 hb]
  exact ⟨rfl, rfl⟩
theorem ms_nf_bool {b : Nat} (hb : b = 1) {z : Int} (hz : z = 0 ∨ z = 1) : ∀ ty, ms_tc ty = b → narrow ty (.int (Int32.ofInt z)) = .int (Int32.ofInt z) ∧ fits ty (.int (Int32.ofInt z)) = true := by
  intro ty h
  rw [(ms_nar h).2.1 hb]
  rcases hz with rfl | rfl <;> decide
theorem ms_nf_long {b : Nat} (hb : b = 2) (z : Int) : ∀ ty, ms_tc ty = b → narrow ty (.long (Int64.ofInt z)) = .long (Int64.ofInt z) ∧ fits ty (.long (Int64.ofInt z)) = true := by
  intro ty h
  rw [(ms_nar h).2.2.1 hb]
  exact ⟨rfl, rfl⟩
theorem ms_nf_ref {b : Nat} (hb : b = 3) (z : Nat) : ∀ ty, ms_tc ty = b → narrow ty (.ref z) = .ref z ∧ fits ty (.ref z) = true := by
  intro ty h
  rcases (ms_nar h).2.2.2 hb with ⟨C, rfl⟩ | ⟨C, rfl⟩ <;> exact ⟨rfl, rfl⟩
set_option maxHeartbeats 4000000 in
theorem ms_put (C : ms_cx p l e R s m args below meth c Qf D cA ex A S0 ad0 P M d0 O X Q) {i pc : Nat} {c0 : Int} {a b d w : Nat} {t : List (Int × Nat)} {rest : ms_B} {L st : List ms_V} {G : ms_G} {h : ms_H} {ad : Nat → Nat} {H : Heap} {locs : List Loc} {ls : Array Slot}
    (hck : ms_ckf M i (c0, a, b, d, t, w) = true) (hckw : ms_ckw M (c0, a, b, d, t, w) = true) (hd : decode (M_by M) pc = .ok (.putfield i, 3)) (hrest : ms_ckB P M rest = true) (hpc : B_pc rest = pc + 3) (hr : ms_rh D cA A s S0 ad0 M ad G h H locs) (hl : ms_rl ad ex (M_ml M) G.1 L ls) (hst : ∀ v ∈ st, ms_vok G.1 v)
    (q : o_put c0 a b (ms_RW p l e R s m args below meth c Qf D cA ex A S0 ad0 P M rest) L st G h) : W p l e R s m args below meth c H locs G.2.1 G.2.2 Qf (F0 m pc ls (st.map (ms_c ad ex))) := by
  have h4 : b < 4 := by
    obtain ⟨⟨CN, T, N⟩, hq1, hc0, hc1, hft, hlink⟩ := ms_ckf_x hck
    have : ∀ ci, ci < 6 → ∀ k, k < 37 → ms_ft ci ((k : Nat) : Int) < 4 := by decide +kernel
    have h6 : N ≤ 37 := by
      have : ∀ ci, ci < 6 → ms_N ci ≤ 37 := by decide +kernel
      have := this a (ms_cls_ok hq1).1
      have h9 := (ms_cls_ok hq1).2.2.2.1
      simp only at h9
      omega
    have h7 := this a (ms_cls_ok hq1).1 c0.toNat (by simp only at hc1; omega)
    rw [show ((c0.toNat : Nat) : Int) = c0 by omega, hft] at h7
    exact h7
  unfold o_put at q
  split at q
  · rename_i hb3
    replace q := r1_x q; obtain ⟨v, r, rfl, q⟩ := q
    replace q := r1_x q; obtain ⟨z, r, rfl, q⟩ := q
    replace hst := ms_vR hst; obtain ⟨hv, hst⟩ := hst
    replace hst := ms_vR hst; obtain ⟨hz, hst⟩ := hst
    refine ms_putx C (v := v) (v' := mR v) hck hckw hd hrest hpc hr hl hst q.1 ?_ hv.1 (fun _ => hv.2.2) (ms_nf_ref hb3 _) q.2
    rw [hb3]
    show va_rf (ms_rf ad v) = .ref (ad v.toNat)
    unfold ms_rf
    rw [if_neg (by omega)]
    rfl
  · split at q
    · rename_i hb3 hb2
      replace q := l1_x q; obtain ⟨v, r, rfl, q⟩ := q
      replace q := r1_x q; obtain ⟨z, r, rfl, q⟩ := q
      replace hst := ms_vL hst; obtain ⟨hv, hst⟩ := hst
      replace hst := ms_vR hst; obtain ⟨hz, hst⟩ := hst
      exact ms_putx C (v := v) (v' := mL v) hck hckw hd hrest hpc hr hl hst q.1 (by rw [hb2]; rfl) hv (fun z => absurd z hb3) (ms_nf_long hb2 _) q.2
    · split at q
      · rename_i hb3 hb2 hb1
        replace q := i1_x q; obtain ⟨v, r, rfl, q⟩ := q
        replace q := r1_x q; obtain ⟨z, r, rfl, q⟩ := q
        replace hst := ms_vI hst; obtain ⟨hv, hst⟩ := hst
        replace hst := ms_vR hst; obtain ⟨hz, hst⟩ := hst
        exact ms_putx C (v := v) (v' := mI v) hck hckw hd hrest hpc hr hl hst q.1 (by rw [hb1]; rfl) hv (fun z => absurd z hb3) (ms_nf_bool hb1 q.2.1) q.2.2
      · rename_i hb3 hb2 hb1
        replace q := i1_x q; obtain ⟨v, r, rfl, q⟩ := q
        replace q := r1_x q; obtain ⟨z, r, rfl, q⟩ := q
        replace hst := ms_vI hst; obtain ⟨hv, hst⟩ := hst
        replace hst := ms_vR hst; obtain ⟨hz, hst⟩ := hst
        have hb0 : b = 0 := by omega
        exact ms_putx C (v := v) (v' := mI v) hck hckw hd hrest hpc hr hl hst q.1 (by rw [hb0]; rfl) hv (fun z => absurd z hb3) (ms_nf_int hb0 _) q.2
end
