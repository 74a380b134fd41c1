/-! The small machine is sound. -/
section
variable {p : Program} {l : Launch} {e : Env} {R : Room} {s : State} {m : MethodId} {args : Array Value} {below : List Frame} {meth : Method} {c : Code} {Qf : State → Prop}
variable {D : va_G} {cA : Nat → ClassId} {ex : Nat → Nat} {A : Nat → Prop} {S0 : ms_S} {ad0 : Nat → Nat} {P : List ms_M} {M : ms_M} {d0 : Nat} {O : ms_O} {X : ms_Z} {Q : ms_Q}
set_option maxHeartbeats 4000000 in
theorem ms_step (C : ms_cx p l e R s m args below meth c Qf D cA ex A S0 ad0 P M d0 O X Q) : ms_cl O X M Q (ms_RW p l e R s m args below meth c Qf D cA ex A S0 ad0 P M) := by
  intro pc raw len x rest L st G h q
  by_cases hpl : ms_plain raw = true
  · exact ms_step1 C hpl q
  · intro hck ad H locs ls hr hl hst
    obtain ⟨hdec, hln, hckx, hnx, hrest⟩ := ckB_x hck
    show W p l e R s m args below meth c H locs G.2.1 G.2.2 Qf (F0 m pc ls (st.map (ms_c ad ex)))
    have hd : raw = .nop ∨ decode (M_by M) pc = .ok (raw, ms_ln raw len) := by rw [← hln]; exact hdec
    have hn : ms_falls raw = true → B_pc rest = pc + ms_ln raw len := by rw [← hln]; exact hnx
    clear hdec hnx
    obtain ⟨c0, a, b, d, t, w⟩ := x
    have w12 := wd_max
    simp only [Bool.and_eq_true] at w12
    obtain ⟨⟨⟨⟨⟨⟨⟨⟨⟨⟨⟨u1, u2⟩, u3⟩, u4⟩, u5⟩, u6⟩, u7⟩, u8⟩, u9⟩, u10⟩, u11⟩, u12⟩ := w12
    cases raw
    case getfield i => exact ms_get (d := d) (t := t) C hckx (hd.resolve_left (fun z => by cases z)) hrest (hn rfl) hr hl hst q
    case putfield i =>
      simp only [ms_ckx, Bool.and_eq_true] at hckx
      exact ms_put C hckx.1 hckx.2 (hd.resolve_left (fun z => by cases z)) hrest (hn rfl) hr hl hst q
    case iaload => exact ms_arr C (by simp) (hd.resolve_left (fun z => by cases z)) hrest (hn rfl) hr hl hst q
    case iastore => exact ms_arr C (by simp) (hd.resolve_left (fun z => by cases z)) hrest (hn rfl) hr hl hst q
    case baload => exact ms_arr C (by simp) (hd.resolve_left (fun z => by cases z)) hrest (hn rfl) hr hl hst q
    case bastore => exact ms_arr C (by simp) (hd.resolve_left (fun z => by cases z)) hrest (hn rfl) hr hl hst q
    case aaload => exact ms_arr C (by simp) (hd.resolve_left (fun z => by cases z)) hrest (hn rfl) hr hl hst q
    case aastore => exact ms_arr C (by simp) (hd.resolve_left (fun z => by cases z)) hrest (hn rfl) hr hl hst q
    case arraylength => exact ms_arr C (by simp) (hd.resolve_left (fun z => by cases z)) hrest (hn rfl) hr hl hst q
    case getstatic i => exact ms_gets C (wd_in hckx) (hd.resolve_left (fun z => by cases z)) hrest (hn rfl) hr hl hst q
    case new i => exact ms_alloc C (Or.inl ⟨i, rfl⟩) hckx (hd.resolve_left (fun z => by cases z)) hrest (hn rfl) hr hl hst q
    case newarray i => exact ms_alloc C (Or.inr (Or.inl ⟨i, rfl⟩)) hckx (hd.resolve_left (fun z => by cases z)) hrest (hn rfl) hr hl hst q
    case anewarray i => exact ms_alloc C (Or.inr (Or.inr ⟨i, rfl⟩)) hckx (hd.resolve_left (fun z => by cases z)) hrest (hn rfl) hr hl hst q
    case invokevirtual i => exact ms_callx (c0 := c0) C (kd := 0) hckx (Or.inl ⟨rfl, rfl⟩) (hd.resolve_left (fun z => by cases z)) hrest (hn rfl) hr hl hst q
    case invokestatic i =>
      have hd := hd.resolve_left (fun z => by cases z)
      have hn := hn rfl
      simp only [ms_ckx] at hckx
      simp only [ms_ex] at q
      have C' := C
      obtain ⟨hx, hb, hml, hown, hts, hK, hA, hini, hstat, ⟨hfr, hlo, hrc, hrs⟩, hos, hPk, hbl, hX, hfin⟩ := C'
      have nx : ∀ {st' : List ms_V} {h' : ms_H} {H' : Heap} {locs' : List Loc}, ms_RW p l e R s m args below meth c Qf D cA ex A S0 ad0 P M rest L st' G h' → ms_rh D cA A s S0 ad0 M ad G h' H' locs' → (∀ v ∈ st', ms_vok G.1 v) → W p l e R s m args below meth c H' locs' G.2.1 G.2.2 Qf (F0 m (pc + 3) ls (st'.map (ms_c ad ex))) := by
        intro st' h' H' locs' hq h1 h3
        have := hq hrest ad H' locs' ls h1 hl h3
        rw [hn] at this
        exact this
      have hml2 : c.maxLocals = ls.size := by rw [hml, hl.1.1]
      have hg := hr.2.2.2.2.1
      split at hckx
      · rename_i ha
        rw [if_pos ha] at q
        replace q := i1_x q; obtain ⟨y, r, rfl, q⟩ := q
        replace q := i1_x q; obtain ⟨x, r, rfl, q⟩ := q
        replace hst := ms_vI hst; obtain ⟨hy, hst⟩ := hst
        replace hst := ms_vI hst; obtain ⟨hz, hst⟩ := hst
        have hsum := ms_sum ad ex r
        refine va_mmax hx hb hml2 hown (hts _ (wd_in hckx)) (hts _ (wd_in u1)) (hts _ (wd_in u5)) (hts _ (wd_in u2)) (by omega) (by have := q.1; omega) (by omega) (by omega) hd ?_
        rw [rg_max hz hy]
        exact nx q.2 hr (ms_pI (by unfold rg at hz hy ⊢; omega) hst)
      · rename_i ha
        rw [if_neg ha] at q
        split at hckx
        · rename_i ha
          rw [if_pos ha] at q
          replace q := i1_x q; obtain ⟨y, r, rfl, q⟩ := q
          replace q := i1_x q; obtain ⟨x, r, rfl, q⟩ := q
          replace hst := ms_vI hst; obtain ⟨hy, hst⟩ := hst
          replace hst := ms_vI hst; obtain ⟨hz, hst⟩ := hst
          have hsum := ms_sum ad ex r
          refine va_mmin hx hb hml2 hown (hts _ (wd_in hckx)) (hts _ (wd_in u3)) (hts _ (wd_in u5)) (hts _ (wd_in u4)) (by omega) (by have := q.1; omega) (by omega) (by omega) hd ?_
          rw [rg_min hz hy]
          exact nx q.2 hr (ms_pI (by unfold rg at hz hy ⊢; omega) hst)
        · rename_i ha
          rw [if_neg ha] at q
          split at hckx
          · rename_i ha
            rw [if_pos ha] at q
            replace q := i1_x q; obtain ⟨n, r, rfl, q⟩ := q
            replace q := i1_x q; obtain ⟨dp, r, rfl, q⟩ := q
            replace q := r1_x q; obtain ⟨dd, r, rfl, q⟩ := q
            replace q := i1_x q; obtain ⟨sp, r, rfl, q⟩ := q
            replace q := r1_x q; obtain ⟨ss, r, rfl, q⟩ := q
            replace hst := ms_vI hst; obtain ⟨v1, hst⟩ := hst
            replace hst := ms_vI hst; obtain ⟨v2, hst⟩ := hst
            replace hst := ms_vR hst; obtain ⟨v3, hst⟩ := hst
            replace hst := ms_vI hst; obtain ⟨v4, hst⟩ := hst
            replace hst := ms_vR hst; obtain ⟨v5, hst⟩ := hst
            obtain ⟨q1, q2, q3, q4, n0, n1, q5, q6, q7, q8, q⟩ := q
            have hsum := ms_sum ad ex r
            have hw0 := ms_ws_at (ad := ad) (cA := cA) (h := h) q5
            have hw1 := ms_ws_at (ad := ad) (cA := cA) (h := h) q6
            rw [ms_int_cell] at hw0 hw1
            have nn : ∀ {z : Int}, rg z → 0 ≤ z → ¬ Int32.ofInt z < 0 := fun hz h0 u => by have := (rg_lt hz rg_0).mp u; omega
            have e1 : nativeFrameWords "java/lang/System" "arraycopy" 5 = 7 := by decide +kernel
            have hloc : (((r.map (ms_c ad ex)).map fun v => v.category).sum) + (nativeFrameWords "java/lang/System" "arraycopy" 5 + 11) ≤ R.locals := by
              rw [e1]; omega
            refine va_copyi hx hb hml2 hown (hts _ (wd_in hckx)) (hts _ (wd_in u7)) (hts _ (wd_in u6)) (hts _ (wd_in u8)) hK hr.1 hr.2.1 hr.2.2.1 ss.toNat dd.toNat 0 0 hw0 hw1 rfl rfl rfl (nn v4 q3) (nn v2 q4) (nn v1 q2) (by rw [rg_cl v4, rg_cl v1]; omega) (by rw [rg_cl v2, rg_cl v1]; omega) (fun _ _ => rfl) (by omega) hloc hd (fun H1 locs1 hP1 hD1 hS1 => ?_)
            rw [rg_cl v4, rg_cl v2, rg_cl v1, ms_ws_cpy q6 q3 q4 q2] at hP1 hD1
            exact nx q ⟨hP1, hD1, hS1, hok_cpy hr.2.2.2.1 q6, hr.2.2.2.2⟩ hst
          · rename_i ha
            rw [if_neg ha] at q
            exact ms_callx (c0 := c0) C (kd := 1) hckx (Or.inr (Or.inl ⟨rfl, rfl⟩)) hd hrest hn hr hl hst q
    case invokespecial i =>
      have hd := hd.resolve_left (fun z => by cases z)
      have hn := hn rfl
      simp only [ms_ckx] at hckx
      simp only [ms_ex] at q
      split at hckx
      · rename_i ha
        rw [if_pos ha] at q
        have C' := C
        obtain ⟨hx, hb, hml, hown, hts, hK, hA, hini, hstat, ⟨hfr, hlo, hrc, hrs⟩, hos, hPk, hbl, hX, hfin⟩ := C'
        replace q := r1_x q; obtain ⟨z, r, rfl, q⟩ := q
        replace hst := ms_vR hst; obtain ⟨hz, hst⟩ := hst
        have hsum := ms_sum ad ex r
        have hroom : 2 * (F0 m pc ls ((mR z :: r).map (ms_c ad ex))).monitorRoom + (((r).map (ms_c ad ex)).map fun v => v.category).sum ≤ 8 := lv_room (by have := q.1; omega)
        refine W.objInit hx hb hown (hts _ (wd_in hckx)) (hts _ (wd_in u9)) (hts _ (wd_in u10)) rfl (by show ls.size = c.maxLocals; rw [hml, hl.1.1]) rfl hd (by omega) (by omega) ?_
        have := q.2 hrest ad H locs ls hr hl hst
        rw [hn] at this
        exact this
      · rename_i ha
        rw [if_neg ha] at q
        exact ms_callx (c0 := c0) C (kd := 2) hckx (Or.inr (Or.inr ⟨rfl, rfl⟩)) hd hrest hn hr hl hst q
    all_goals exact absurd rfl hpl
end
