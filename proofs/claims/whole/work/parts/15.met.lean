/-! Every method that the small machine says comes back, comes back. -/
theorem lv_args_at {ad ex : Nat → Nat} : ∀ (vs : List ms_V) (i k : Nat) (v : ms_V), (∀ v ∈ vs, ms_nl v = true) → vs[k]? = some v → (i + k, ms_c ad ex v) ∈ lv_args i (vs.map (ms_c ad ex))
  | [], _, _, _, _, h => by simp at h
  | u :: vs, i, 0, v, hn, h => by
    simp at h
    subst h
    exact List.mem_cons_self
  | u :: vs, i, k + 1, v, hn, h => by
    have h1 : vs[k]? = some v := by simpa using h
    have h2 := ms_c_cat (ad := ad) (ex := ex) (hn u List.mem_cons_self)
    show _ ∈ (i, ms_c ad ex u) :: lv_args (if (ms_c ad ex u).category = 2 then i + 2 else i + 1) (vs.map (ms_c ad ex))
    rw [if_neg (by omega)]
    have h3 := lv_args_at (ad := ad) (ex := ex) vs (i + 1) k v (fun v hv => hn v (List.mem_cons_of_mem _ hv)) h1
    rw [show i + (k + 1) = i + 1 + k by omega]
    exact List.mem_cons_of_mem _ h3
theorem lg_sl_len {ad ex : Nat → Nat} : ∀ (vs : List ms_V), (∀ v ∈ vs, ms_nl v = true) → (lg_sl (vs.map (ms_c ad ex))).length = vs.length
  | [], _ => rfl
  | u :: vs, hn => by
    have h2 := ms_c_cat (ad := ad) (ex := ex) (hn u List.mem_cons_self)
    have h3 := lg_sl_len (ad := ad) (ex := ex) vs (fun v hv => hn v (List.mem_cons_of_mem _ hv))
    unfold lg_sl at h3 ⊢
    rw [List.map_cons, List.flatMap_cons, if_neg (by omega), List.length_append, h3, List.length_cons]
    simp
    omega
theorem ms_pad_len {n : Nat} {vs : List ms_V} (h : vs.length ≤ n) : (ms_pad n vs).length = n := by
  unfold ms_pad
  rw [List.length_append, List.length_replicate]
  omega
theorem ms_enter {ad ex : Nat → Nat} {n : Nat} {S : ms_S} {vs : List ms_V} (hn : ∀ v ∈ vs, ms_nl v = true) (hv : ∀ v ∈ vs, ms_vok S v) (hlen : vs.length ≤ n) : ms_rl ad ex n S (ms_pad n vs) ((lg_sl (vs.map (ms_c ad ex)) ++ List.replicate (n - (lg_sl (vs.map (ms_c ad ex))).length) Slot.unset).toArray) := by
  have h0 := lv_entry (vs.map (ms_c ad ex)) (n := n) (by rw [lg_sl_len vs hn]; exact hlen)
  refine ⟨⟨h0.1, h0.2.1, fun q hq => ?_⟩, ms_pad_len hlen, fun v hv2 => ?_⟩
  · obtain ⟨v, h1, h2, h3⟩ := lvl_mem.mp hq
    unfold ms_pad at h1
    by_cases hk : q.1 < vs.length
    · rw [List.getElem?_append_left hk] at h1
      have h4 := lv_args_at (ad := ad) (ex := ex) vs 0 q.1 v hn h1
      rw [Nat.zero_add] at h4
      have h5 := h0.2.2 _ h4
      rw [h3]
      exact h5
    · rw [List.getElem?_append_right (by omega), List.getElem?_replicate] at h1
      split at h1
      · cases h1; cases h2
      · cases h1
  · unfold ms_pad at hv2
    rcases List.mem_append.mp hv2 with h | h
    · exact hv v h
    · rw [(List.mem_replicate.mp h).2]
      exact rg_0
theorem ms_ord_rg (i : Int) : rg (ms_ord i) := by
  unfold ms_ord rg
  repeat' split
  all_goals omega
set_option maxHeartbeats 4000000 in
theorem ms_sound (l : Launch) (D : va_G) (cA : Nat → ClassId) (ex : Nat → Nat) (P : List ms_M) (hP : ∀ M ∈ P, ms_ckM P M = true) : ∀ d, ms_os l D cA ex P d (ms_Ok P d)
  | 0 => fun _ _ _ _ _ _ _ hO => hO.elim
  | d + 1 => by
    intro y M vs S h Q hy hO hvs hnl hh ad sz
    obtain ⟨M2, h1, h2, h3⟩ := hO
    rw [hy] at h1
    cases h1
    obtain ⟨g1, g2, g3, g4, g5, g6, g7, g8, g9, g10, g11, g12⟩ := ckM_x (hP M (List.mem_of_getElem? hy))
    unfold ms_met
    refine Met.ofW (cc := M_by M) (maxL := M_ml M) (ret := M_rt M) g7 rfl ?_
    intro p e s m args below meth c s₁ B hml hv
    obtain ⟨rfl, hsz, hPp, hK, hD0, hst⟩ := hv
    subst hsz
    have hts := atoms_spec (ws := ms_wsM M) B.pre
    have hown : s.vm.findClass (M_nm M).cls = some m.cls := findClass_of_methodNamed B.named
    have hin : (M_nm M).name = "<init>" → meth.name = "<init>" := fun z => (name_of_methodNamed B.named B.method).1.trans z
    have hlocks := B.notSynchronized
    have hx := B.exec
    have hb := B.bytes
    have hret := B.returns
    have hS : va_S (va_A (ms_ws ad cA S h) s.heap.size) s.heap s.heap [] := va_S.rf
    have hfin : ms_fin p l e (headSpec (ms_wsM M) (ms_rm (d + 1) M)).room s m (vs.map (ms_c ad ex)).toArray below meth c (MQ below (ms_Qc (M_rt M) D cA (va_A (ms_ws ad cA S h) s.heap.size) ad S Q) (vs.map (ms_c ad ex)).toArray s (M_mc M) (M_ms M) (va_A (ms_ws ad cA S h) s.heap.size)) D cA ex (va_A (ms_ws ad cA S h) s.heap.size) S ad M Q := by
      intro pc ls ad' G h' H locs hr
      obtain ⟨r1, r2, r3, r4, r5, r6, r7⟩ := hr
      have hw : ∀ t : State, t.heap = H → s.WarmedH t.vm → ms_wd D cA (va_A (ms_ws ad cA S h) s.heap.size) (G.1, h', ad') t := fun t ht hW => ⟨by rw [ht]; exact r1, va_K.moved hW.alike hK, r2⟩
      refine ⟨fun z hq hz hd hrt => ?_, fun z hq hz hd hrt => ?_, fun hq hd hrt => ?_⟩
      · refine W.widen (k := M_mc M) (n := M_ms M) r5.1 r5.2 ?_
        rcases hrt with hrt | ⟨hrt, h01⟩
        · rw [hrt] at hret ⊢
          exact W.iret hx hb hret (fun t ht hW => ⟨⟨Int32.ofInt z, (G.1, h', ad'), rfl, ⟨z, rfl, hz, hq, r6, r7, r4⟩, hw t ht hW⟩, r3.F ht⟩) r3.2.2 hd
        · rw [hrt] at hret ⊢
          exact W.zret hx hb hret (by rcases h01 with rfl | rfl <;> rfl) (fun t ht hW => ⟨⟨Int32.ofInt z, (G.1, h', ad'), rfl, ⟨z, rfl, hz, hq, r6, r7, r4⟩, hw t ht hW⟩, r3.F ht⟩) r3.2.2 hd
      · refine W.widen (k := M_mc M) (n := M_ms M) r5.1 r5.2 ?_
        rw [hrt] at hret ⊢
        exact W.lret hx hb hret (fun t ht hW => ⟨⟨Int64.ofInt z, (G.1, h', ad'), rfl, ⟨z, rfl, hz, hq, r6, r7, r4⟩, hw t ht hW⟩, r3.F ht⟩) r3.2.2 hd
      · refine W.widen (k := M_mc M) (n := M_ms M) r5.1 r5.2 ?_
        rw [hrt] at hret ⊢
        exact W.vret hx hb hret (fun t ht hW => ⟨⟨(G.1, h', ad'), rfl, ⟨hq, r6, r7, r4⟩, hw t ht hW⟩, r3.F ht⟩) r3.2.2 hd
    have hX : ∀ n q, ms_X1 n = some q → va_T .int (ex n) q.1 (fun j => .int (Int32.ofInt (q.2 j))) (va_A (ms_ws ad cA S h) s.heap.size) s s.heap ∧ q.1 < 2 ^ 31 ∧ ∀ i : Int, 0 ≤ i → i < q.1 → rg (q.2 i) := by
      intro n q hq
      unfold ms_X1 at hq
      split at hq
      · rename_i hn1
        cases hq
        subst hn1
        exact ⟨hst.2.1, by decide, fun i _ _ => ms_ord_rg i⟩
      · cases hq
    have C : ms_cx p l e (headSpec (ms_wsM M) (ms_rm (d + 1) M)).room s m (vs.map (ms_c ad ex)).toArray below meth c (MQ below (ms_Qc (M_rt M) D cA (va_A (ms_ws ad cA S h) s.heap.size) ad S Q) (vs.map (ms_c ad ex)).toArray s (M_mc M) (M_ms M) (va_A (ms_ws ad cA S h) s.heap.size)) D cA ex (va_A (ms_ws ad cA S h) s.heap.size) S ad P M d (ms_Ok P d) ms_X1 Q :=
      ⟨hx, hb, hml, hown, fun w hw => hts w (List.mem_cons_of_mem _ hw), hK, fun q hq => Or.inr hq, hin, hst, ⟨Nat.le_refl _, by show 60 * d + 60 ≤ 60 * (d + 1); omega, Nat.le_refl _, Nat.le_refl _⟩, ms_sound l D cA ex P hP d, hP, g12, hX, hfin⟩
    have hRW := h3 _ (ms_step C)
    rw [lg_entry_eq]
    have hgo := hRW (g12 0) ad s.heap [] _ ⟨hPp, hD0.self, hS, hh, ⟨Nat.zero_le _, Nat.zero_le _⟩, Nat.le_refl _, fun _ _ => rfl⟩ (ms_enter hnl hvs (by rw [h2]; exact g9)) (fun v hv => by cases hv)
    rw [g11] at hgo
    exact hgo
