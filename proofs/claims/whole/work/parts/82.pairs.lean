/-! Both objects at one call: calls that show. -/
def IVx (n : Int) (h : ms_H) : Prop := ∃ t u, IV t u n h
/-- the class's call comes back with v, then the model's with v too -/
def PR (n : Int) (h : ms_H) (y1 y2 : Nat) (as : List ms_V) : Prop := ∀ Q : ms_Q, (∀ v h1, (∀ Q2 : ms_Q, (∀ h2, IVx (n + 1) h2 → Q2 (some (mI v)) SH h2) → ms_Ok ms_P 30 y2 (mR 38 :: as) SH h1 Q2) → Q (some (mI v)) SH h1) → ms_Ok ms_P 30 y1 (mR 0 :: as) SH h Q
section
variable {t u n : Int} {h : ms_H}
theorem IVx_s (a : IV t u n h) : IVx (n + 1) h := ⟨t, u, IV_s a⟩
theorem IVx_30 (a : IV t u n h) (v : Int) : IVx (n + 1) (hs h 38 30 v) := ⟨t, u, IV_s (IV_fr a (fun z b r => by rw [hs_v, if_neg (by omega)]))⟩
theorem p_column (a : IV t u n h) {c w : Int} (hw : rg w) : PR n h 36 118 [mI c, mI w] := by
  intro Q hQ
  have e0 := (v_n a).1
  have st := v_st a
  refine c_column a.1 (fun z => hQ _ _ (fun Q2 k => m_column a.2.1 st.2.1 hw (fun _ => k h (IVx_s a)) (fun z1 z2 z3 => absurd ⟨by rw [e0]; exact z1, z2, z3⟩ z))) (fun hc hw2 => hQ _ _ (fun Q2 k => m_column a.2.1 st.2.1 hw (fun z => absurd ⟨by rw [← e0]; exact hc, hw2⟩ z) (fun z1 z2 z3 => ?_)))
  have hb := a.2.1.2.1.1
  have ev : cCol t h c w = mCol h c w := by
    have ec := v_col a z1.1 z1.2
    unfold cCol mCol
    rw [v_T a, v_H a z1.1 z1.2, ec.1, ec.2.1, ec.2.2, (v_n a).2.2.2, (v_hand a).1, (v_hand a).2, st.1 c z1.1 (by omega)]
    unfold sk
    have : w = 0 ∨ w = 1 ∨ w = 2 ∨ w = 3 ∨ w = 4 ∨ w = 5 ∨ w = 6 ∨ w = 7 ∨ w = 8 ∨ w = 9 := by omega
    rcases this with rfl | rfl | rfl | rfl | rfl | rfl | rfl | rfl | rfl | rfl <;> rfl
  rw [← ev]
  unfold mColH
  split
  · exact k _ (IVx_30 a _)
  · exact k _ (IVx_s a)
theorem p_field (a : IV t u n h) {c f w : Int} (hw : rg w) : PR n h 37 120 [mI c, mI f, mI w] := by
  intro Q hQ
  have e0 := (v_n a).1
  refine c_field a.1 (fun z => hQ _ _ (fun Q2 k => m_field a.2.1 hw (fun _ => k h (IVx_s a)) (fun z1 z2 z3 => absurd ⟨by rw [e0]; exact z1, z2, z3⟩ z))) (fun hc hf hw2 => hQ _ _ (fun Q2 k => m_field a.2.1 hw (fun z => absurd ⟨by rw [← e0]; exact hc, hf, hw2⟩ z) (fun z1 z2 z3 => ?_)))
  have ev : cField t h c f w = mField h c f w := by
    have ec := v_col a z1.1 z1.2
    unfold cField mField
    rw [v_T a, ec.1, (v_n a).2.2.2, (v_hand a).1, (v_hand a).2, ← Int.sub_sub]
    have : w = 0 ∨ w = 1 ∨ w = 2 ∨ w = 3 := by omega
    rcases this with rfl | rfl | rfl | rfl <;> rfl
  rw [← ev]
  exact k _ (IVx_s a)
theorem p_voter (a : IV t u n h) {v w : Int} : PR n h 38 121 [mI v, mI w] := by
  intro Q hQ
  have e0 := (v_n a).2.1
  refine c_voter a.1 (fun z => hQ _ _ (fun Q2 k => m_voter a.2.1 (fun _ => k h (IVx_s a)) (fun z1 z2 => absurd ⟨by rw [e0]; exact z1, z2⟩ z))) (fun hc hw2 => hQ _ _ (fun Q2 k => m_voter a.2.1 (fun z => absurd ⟨by rw [← e0]; exact hc, hw2⟩ z) (fun z1 z2 => ?_)))
  have ev := a.2.2.2.1.2.2.2.1 v z1.1 z1.2
  rw [← ev.1, ← ev.2]
  exact k _ (IVx_s a)
theorem v_stk (a : IV t u n h) : cStk h 8 = mStk h (h 38 0).toNat := by
  have hb := a.2.1.2.1.1
  have st := v_st a
  have e1 : cStk h 8 = sm (fun c => if 0 < h 46 c then 1 else 0) 8 := by
    unfold cStk
    refine sm_c 8 (fun i i0 i1 => ?_)
    have := st.2.1 i i0 (by omega)
    rw [st.1 i i0 (by omega)]
    unfold sk
    repeat' split
    all_goals omega
  rw [e1]
  have key : ∀ j : Nat, (h 38 0).toNat + j ≤ 8 → sm (fun c => if 0 < h 46 c then 1 else 0) ((h 38 0).toNat + j) = mStk h (h 38 0).toNat := by
    intro j
    induction j with
    | zero => intro _; rfl
    | succ j ih =>
      intro hj
      rw [← Nat.add_assoc, sm, ih (by omega)]
      have := st.2.2 (((h 38 0).toNat + j : Nat) : Int) (by omega) (by omega) (by omega)
      rw [if_neg (by omega)]
      omega
  have := key (8 - (h 38 0).toNat) (by omega)
  rw [show (h 38 0).toNat + (8 - (h 38 0).toNat) = 8 by omega] at this
  exact this
theorem v_wide (a : IV t u n h) : cWide t h = mWide h := by
  have hb := a.2.1.2.1.1
  unfold cWide mWide
  rw [(v_n a).1, (v_n a).2.2.2, v_T a]
  refine mxm_c _ (fun i i0 i1 => ?_)
  rw [(v_col a i0 (by omega)).1]
theorem v_rain (a : IV t u n h) : sm (fun c => cl (cT t h - h (t + 1) c - h t 4)) (h t 0).toNat = fm h 0 := by
  have hb := a.2.1.2.1.1
  rw [fm_rain a.2.1, (v_n a).1, (v_n a).2.2.2, v_T a]
  refine sm_c _ (fun i i0 i1 => ?_)
  rw [(v_col a i0 (by omega)).1]
theorem v_vote (a : IV t u n h) : vt (h (t + 5)) (h (t + 6)) (h t 6).toNat = vt (h 43) (h 44) (h 38 1).toNat := by
  have hb := a.2.1.2.1.2.1
  rw [(v_n a).2.1]
  unfold vt
  refine sm_c _ (fun i i0 i1 => ?_)
  have := a.2.2.2.1.2.2.2.1 i i0 (by omega)
  rw [this.1, this.2]
theorem p_now (a : IV t u n h) {w : Int} : PR n h 44 134 [mI w] := by
  intro Q hQ
  refine c_now a.1 (fun z => hQ _ _ (fun Q2 k => m_now a.2.1 (fun _ => k h (IVx_s a)) (fun z1 => absurd z1 z))) (fun hw => hQ _ _ (fun Q2 k => m_now a.2.1 (fun z => absurd hw z) (fun z1 => ?_)))
  have nw := v_now a
  have ev : cNow t h w = mNow h w := by
    unfold cNow mNow
    rw [v_cW a, v_sn a, v_rain a, v_wide a, v_stk a, v_vote a, nw.1, nw.2.1, fm_snow]
    rfl
  rw [← ev]
  exact k _ (IVx_s a)
theorem p_first (a : IV t u n h) {c f : Int} : PR n h 45 135 [mI c, mI f] := by
  intro Q hQ
  have e0 := (v_n a).1
  refine c_first a.1 (fun z => hQ _ _ (fun Q2 k => m_first a.2.1 (fun _ => k h (IVx_s a)) (fun z1 z2 => absurd ⟨by rw [e0]; exact z1, z2⟩ z))) (fun hc hf => hQ _ _ (fun Q2 k => m_first a.2.1 (fun z => absurd ⟨by rw [← e0]; exact hc, hf⟩ z) (fun z1 z2 => ?_)))
  have ev : cG t h c f = mG h c f := by
    funext k
    unfold cG mG
    rw [v_W a, (v_now a).1, (v_now a).2.1, (v_col a z1.1 z1.2).1]
  rw [← ev]
  exact k _ (IVx_s a)
theorem wt_c {w w' : Int → Int} {s : Int} {N : Nat} (e : ∀ i : Int, 0 ≤ i → i < N → w i = w' i) : wt w s N = wt w' s N := by
  unfold wt
  refine sm_c _ (fun i i0 i1 => ?_)
  rw [e i i0 i1]
theorem pwG_c {w w' : Int → Int} {v : Int} {N : Nat} (v0 : 0 ≤ v) (v1 : v < N) (e : ∀ i : Int, 0 ≤ i → i < N → w i = w' i) : pwG w N v = pwG w' N v := by
  unfold pwG
  refine sm_c _ (fun i i0 i1 => ?_)
  unfold pwT
  rw [wt_c (s := i) e, wt_c (s := 2 ^ N - 1) e, e v v0 v1]
theorem p_power (a : IV t u n h) {v w : Int} : PR n h 48 146 [mI v, mI w] := by
  intro Q hQ
  have e0 := (v_n a).2.1
  refine c_power a.1 (fun z => hQ _ _ (fun Q2 k => m_power a.2.1 (fun _ => k h (IVx_s a)) (fun z1 z2 => absurd ⟨by rw [e0]; exact z1, z2⟩ z))) (fun hc hw2 => hQ _ _ (fun Q2 k => m_power a.2.1 (fun z => absurd ⟨by rw [← e0]; exact hc, hw2⟩ z) (fun z1 z2 => ?_)))
  have hb := a.2.1.2.1.2.1
  rw [← pwG_c (w := h (t + 5)) z1.1 (by omega) (fun i i0 i1 => (a.2.2.2.1.2.2.2.1 i i0 (by omega)).1), ← e0]
  exact k _ (IVx_s a)
theorem p_duel (a : IV t u n h) {w : Int} : PR n h 49 147 [mI w] := by
  intro Q hQ
  refine c_duel a.1 (fun z => hQ _ _ (fun Q2 k => m_duel a.2.1 (fun _ => k h (IVx_s a)) (fun z1 => absurd z1 z))) (fun hw => hQ _ _ (fun Q2 k => m_duel a.2.1 (fun z => absurd hw z) (fun z1 h' hz => ?_)))
  have ev : sn (h (t + 1)) (h t 0).toNat (cW t h + (dpth w.toNat 0 (h 21 1 + 9) - 9)) = dvl h w.toNat 0 (h 38 12 + 9) := by
    unfold dvl
    rw [v_sn a, v_cW a, (v_now a).2.1]
  rw [← ev]
  exact k _ ⟨t, u, IV_s (IV_fr a (fun z b r => by rw [hz z (by omega) (by omega)]))⟩
theorem p_odds (a : IV t u n h) {c f x m w : Int} : PR n h 50 148 [mI c, mI f, mI x, mI m, mI w] := by
  intro Q hQ
  have e0 := (v_n a).1
  refine c_odds a.1 (fun z => hQ _ _ (fun Q2 k => m_odds a.2.1 (fun _ => k h (IVx_s a)) (fun z1 => absurd (by rw [e0]; exact z1) z))) (fun hc => hQ _ _ (fun Q2 k => m_odds a.2.1 (fun z => absurd (by rw [← e0]; exact hc) z) (fun z1 => ?_)))
  rw [od_eq z1.2.2.1 z1.2.2.2.1, ← v_T a, ← (v_col a z1.1.1 z1.1.2).1, Int.sub_sub]
  exact k _ (IVx_s a)
theorem v_lm (a : IV t u n h) : (0 ≤ h 0 8 ∧ h 0 8 ≤ 40) ∧ 0 ≤ h 0 9 ∧ h 0 9 ≤ 40 := by
  have := a.2.2.2.2.2.2.1.2.2.1
  omega
theorem v_many (a : IV t u n h) : cMany h = wcn (mSo h) 40 := by
  have hd := a.2.2.2.2.2.2.1
  unfold cMany
  rw [wcn_40 hd.2.2.1.1.1 hd.2.2.1.2.2 hd.2.2.2]
theorem p_warmth (a : IV t u n h) {w : Int} : PR n h 53 153 [mI w] := by
  intro Q hQ
  have hd := a.2.2.2.2.2.2.1
  refine c_warmth (v_lm a) (fun z => hQ _ _ (fun Q2 k => m_warmth a.2.1 hd.1 (fun _ => k h (IVx_s a)) (fun z1 => absurd z1 z))) (fun hw => hQ _ _ (fun Q2 k => m_warmth a.2.1 hd.1 (fun z => absurd hw z) (fun z1 => ?_)))
  rw [wls_40 hd.2.2.1.1.1 hd.2.2.1.2.2 hd.2.2.2, ← v_many a]
  exact k _ (IVx_s a)
theorem v_more (a : IV t u n h) {w c f : Int} (hw : 0 ≤ w ∧ w ≤ 1) (hc : 0 ≤ c ∧ c < h 38 0) (hf : 0 ≤ f ∧ f ≤ 7) : cMore t h w c f = mMore h w c f := by
  have hd := a.2.2.2.2.2.2.1
  have hl := hd.2.2.1
  have ha := (a.2.1.2.2.2.1 c hc.1 hc.2).1
  have hh := MV_hand a.2.1 (i := w) (by omega) (by omega)
  have eh : h (t + 4) w = h 39 w := by
    have : w = 0 ∨ w = 1 := by omega
    rcases this with rfl | rfl
    · exact (v_hand a).1
    · exact (v_hand a).2
  have em : mN h w c f 40 = (if (40 : Int) ≤ h 0 8 then 0 else if min (h 0 9) (h 40 c + f + h 39 w) < h 0 8 then 0 else if (40 : Int) ≤ min (h 0 9) (h 40 c + f + h 39 w) + 1 then 40 - h 0 8 else min (h 0 9) (h 40 c + f + h 39 w) + 1 - h 0 8) := by
    have := cnt_e (l := h 0 8) (r := min (h 0 9) (h 40 c + f + h 39 w)) hl.1.1 40
    unfold mN
    refine Eq.trans (sm_c 40 (fun i i0 i1 => ?_)) this
    have hi := hd.2.2.2 i i0 (by omega)
    rw [mn0]
    by_cases z : mSo h i = 1
    · have z' := hi.mp z
      by_cases z2 : i - h 40 c - f ≤ h 39 w
      · rw [if_pos ⟨z, z2⟩]
        repeat' split
        all_goals omega
      · rw [if_neg (fun y => z2 y.2)]
        repeat' split
        all_goals omega
    · have z' : ¬ (h 0 8 ≤ i ∧ i ≤ h 0 9) := fun y => z (hi.mpr y)
      rw [if_neg (fun y => z y.1)]
      repeat' split
      all_goals omega
  unfold cMore cGp mMore
  rw [em, ← v_many a, (v_col a hc.1 hc.2).1, eh]
  unfold cMany
  generalize h 40 c + f + h 39 w = l
  simp only [mx0, mn0]
  repeat' split
  all_goals omega
theorem p_ask (a : IV t u n h) : PR n h 54 154 [] := by
  intro Q hQ
  have hd := a.2.2.2.2.2.2.1
  have hb := a.2.1.2.1.1
  refine c_ask a.1 (v_lm a) (hQ _ _ (fun Q2 k => m_ask a.2.1 hd.1 ?_))
  have ev : (askw (cMore t h) (h t 0).toNat 2 (-9, cMany h)).1 = mAsk h := by
    unfold mAsk
    rw [(v_n a).1, v_many a, askw_c (g' := mMore h) 2 (fun w c i w0 w1 c0 c1 i0 i1 => v_more a ⟨w0, by omega⟩ ⟨c0, by omega⟩ ⟨i0, by omega⟩)]
  rw [← ev]
  exact k _ (IVx_s a)
theorem p_count (a : IV t u n h) {w : Int} : PR n h 58 159 [mI w] := by
  intro Q hQ
  refine c_count a.1 (fun z => hQ _ _ (fun Q2 k => m_count (fun _ => k h (IVx_s a)) (fun z1 => absurd z1 z))) (fun hw => hQ _ _ (fun Q2 k => m_count (fun z => absurd hw z) (fun z1 => ?_)))
  have ev : cCnt t h w = mCnt h w := by
    have en := v_n a
    have te := a.2.2.1.2.1
    have hd := a.2.2.2.2.2.2.1.2.1
    unfold cCnt mCnt
    rw [en.1, en.2.1, en.2.2.1, en.2.2.2, (v_now a).2.2.1, te, hd]
  rw [← ev]
  exact k _ (IVx_s a)
theorem v_L4 (a : IV t u n h) : cL4 t h = mL4 h := by
  have hb := a.2.1.2.1.1
  have e1 : cAH t h = mAH h := by
    unfold cAH mAH
    rw [(v_n a).1]
    refine sm_c _ (fun i i0 i1 => ?_)
    rw [(v_col a i0 (by omega)).2.1]
  have e2 : cAS t h = mAS h := by
    unfold cAS mAS
    rw [(v_n a).1]
    refine sm_c _ (fun i i0 i1 => ?_)
    rw [(v_col a i0 (by omega)).2.2]
  unfold cL4 mL4 mJ
  rw [e1, e2, (v_n a).1]
  exact drw_c (N := h 38 0) (fun i i0 i1 => (v_col a i0 i1).2) (h 38 0).toNat _ [] (by rw [List.length_nil]; omega)
theorem IVx_fair (a : IV t u n h) {g f : ms_H} (hg : ∀ z, z ≠ 20 → g z = h z) (hr : rd g = cL4 t h) (hk : g 20 0 = 1) (hf : ∀ z, z ≠ 54 → f z = g z) : IVx (n + 1) f := by
  have hT := a.1.1
  unfold TU at hT
  have hg2 : IV t u n g := by
    obtain ⟨a1, a2, a3, a4, a5, a6, a7, a8, a9⟩ := a
    refine ⟨CV_c a1 (fun z b r => by rw [hg z (by unfold cvr at r; omega)]), MV_c a2 (fun z b r => by rw [hg z (by unfold rMV at r; omega)]), TE_c a3 (fun z b r => by rw [hg z (by unfold rTE at r; omega)]), EQ_c a4 (fun z b r => by rw [hg z (by unfold rEQ at r; omega)]), NP_c a5 (fun z b r => by rw [hg z (by unfold rNP at r; omega)]), ⟨NI_c (Or.inl rfl) a6.1 (fun z b r => by rw [hg z (by unfold rNI at r; omega)]), NI_c (Or.inr rfl) a6.2 (fun z b r => by rw [hg z (by unfold rNI at r; omega)])⟩, HD_c a7 (fun z b r => by rw [hg z (by unfold rHD at r; omega)]), ⟨Or.inr hk, fun _ => ?_⟩, TC_c a9 (fun z b r => by rw [hg z (by unfold rTC at r; omega)])⟩
    rw [hr]
    unfold cL4 cAH cAS
    rw [hg t (by omega), hg (t + 2) (by omega), hg (t + 3) (by omega)]
  exact ⟨t, u, IV_s (IV_fr hg2 (fun z b r => by rw [hf z (by omega)]))⟩
theorem mL4_c {g : ms_H} (hg : ∀ z, z ≠ 20 → g z = h z) : mL4 g = mL4 h := by
  unfold mL4 mJ mAH mAS
  rw [hg 38 (by omega), hg 41 (by omega), hg 42 (by omega)]
theorem p_fair (a : IV t u n h) {w : Int} : PR n h 46 142 [mI w] := by
  intro Q hQ
  have lk := a.2.2.2.2.2.2.2.1
  refine c_fair a.1 lk.1 lk.2 (fun z => hQ _ _ (fun Q2 k => m_fair a.2.1 (fun _ => k h (IVx_s a)) (fun z1 => absurd z1 z))) (fun hw g hg hr hk => hQ _ _ (fun Q2 k => m_fair (MV_c a.2.1 (fun z b r => by rw [hg z (by unfold rMV at r; omega)])) (fun z => absurd hw z) (fun z1 f hf => ?_)))
  rw [mL4_c hg, ← v_L4 a]
  exact k _ (IVx_fair a hg hr hk hf)
theorem p_best (a : IV t u n h) {w : Int} : PR n h 47 143 [mI w] := by
  intro Q hQ
  have lk := a.2.2.2.2.2.2.2.1
  refine c_best a.1 lk.1 lk.2 (fun z => hQ _ _ (fun Q2 k => m_best a.2.1 (fun _ => k h (IVx_s a)) (fun z1 => absurd z1 z))) (fun hw g hg hr hk => hQ _ _ (fun Q2 k => m_best (MV_c a.2.1 (fun z b r => by rw [hg z (by unfold rMV at r; omega)])) (fun z => absurd hw z) (fun z1 f hf => ?_)))
  rw [mL4_c hg, ← v_L4 a]
  exact k _ (IVx_fair a hg hr hk hf)
end
