/-! Both objects at one call: calls that change. -/
theorem IV_te {t u n : Int} {h h' : ms_H} (a : IV t u n h) (e : ∀ z b, ¬ (z = 1 ∧ b = 1) → z ≠ 2 → ¬ (z = 38 ∧ b = 18) → z ≠ 48 → h' z b = h z b) (x : TE h') : IV t u n h' := by
  obtain ⟨a1, a2, a3, a4, a5, a6, a7, a8, a9⟩ := a
  have hT := a1.1
  unfold TU at hT
  refine ⟨CV_c a1 (fun z b r => e z b (by unfold cvr at r; omega) (by unfold cvr at r; omega) (by unfold cvr at r; omega) (by unfold cvr at r; omega)), MV_c a2 (fun z b r => e z b (by unfold rMV mu at r; omega) (by unfold rMV mu at r; omega) (by unfold rMV mu at r; omega) (by unfold rMV mu at r; omega)), x, EQ_c a4 (fun z b r => e z b (by unfold rEQ at r; omega) (by unfold rEQ at r; omega) (by unfold rEQ at r; omega) (by unfold rEQ at r; omega)), NP_c a5 (fun z b r => e z b (by unfold rNP at r; omega) (by unfold rNP at r; omega) (by unfold rNP at r; omega) (by unfold rNP at r; omega)), ⟨NI_c (Or.inl rfl) a6.1 (fun z b r => e z b (by unfold rNI at r; omega) (by unfold rNI at r; omega) (by unfold rNI at r; omega) (by unfold rNI at r; omega)), NI_c (Or.inr rfl) a6.2 (fun z b r => e z b (by unfold rNI at r; omega) (by unfold rNI at r; omega) (by unfold rNI at r; omega) (by unfold rNI at r; omega))⟩, HD_c a7 (fun z b r => e z b (by unfold rHD at r; omega) (by unfold rHD at r; omega) (by unfold rHD at r; omega) (by unfold rHD at r; omega)), LK_c a8 (fun z b r => e z b (by unfold rLK at r; omega) (by unfold rLK at r; omega) (by unfold rLK at r; omega) (by unfold rLK at r; omega)), TC_c a9 (fun z b r => e z b (by unfold rTC at r; omega) (by unfold rTC at r; omega) (by unfold rTC at r; omega) (by unfold rTC at r; omega))⟩
theorem IV_hd {t u n : Int} {h h' : ms_H} (a : IV t u n h) (e : ∀ z b, ¬ (z = 0 ∧ 7 ≤ b ∧ b ≤ 9) → ¬ (z = 38 ∧ b = 14) → z ≠ 47 → h' z b = h z b) (x : HD h') : IV t u n h' := by
  obtain ⟨a1, a2, a3, a4, a5, a6, a7, a8, a9⟩ := a
  have hT := a1.1
  unfold TU at hT
  refine ⟨CV_c a1 (fun z b r => e z b (by unfold cvr at r; omega) (by unfold cvr at r; omega) (by unfold cvr at r; omega)), MV_c a2 (fun z b r => e z b (by unfold rMV mu at r; omega) (by unfold rMV mu at r; omega) (by unfold rMV mu at r; omega)), TE_c a3 (fun z b r => e z b (by unfold rTE at r; omega) (by unfold rTE at r; omega) (by unfold rTE at r; omega)), EQ_c a4 (fun z b r => e z b (by unfold rEQ at r; omega) (by unfold rEQ at r; omega) (by unfold rEQ at r; omega)), NP_c a5 (fun z b r => e z b (by unfold rNP at r; omega) (by unfold rNP at r; omega) (by unfold rNP at r; omega)), ⟨NI_c (Or.inl rfl) a6.1 (fun z b r => e z b (by unfold rNI at r; omega) (by unfold rNI at r; omega) (by unfold rNI at r; omega)), NI_c (Or.inr rfl) a6.2 (fun z b r => e z b (by unfold rNI at r; omega) (by unfold rNI at r; omega) (by unfold rNI at r; omega))⟩, x, LK_c a8 (fun z b r => e z b (by unfold rLK at r; omega) (by unfold rLK at r; omega) (by unfold rLK at r; omega)), TC_c a9 (fun z b r => e z b (by unfold rTC at r; omega) (by unfold rTC at r; omega) (by unfold rTC at r; omega))⟩
theorem IV_tc {t u n m : Int} {h h' : ms_H} (a : IV t u n h) (e : ∀ z b, ¬ (z = 0 ∧ b = 10) → ¬ (z = 38 ∧ b = 16) → h' z b = h z b) (x : TC m h') : IV t u m h' := by
  obtain ⟨a1, a2, a3, a4, a5, a6, a7, a8, a9⟩ := a
  have hT := a1.1
  unfold TU at hT
  refine ⟨CV_c a1 (fun z b r => e z b (by unfold cvr at r; omega) (by unfold cvr at r; omega)), MV_c a2 (fun z b r => e z b (by unfold rMV mu at r; omega) (by unfold rMV mu at r; omega)), TE_c a3 (fun z b r => e z b (by unfold rTE at r; omega) (by unfold rTE at r; omega)), EQ_c a4 (fun z b r => e z b (by unfold rEQ at r; omega) (by unfold rEQ at r; omega)), NP_c a5 (fun z b r => e z b (by unfold rNP at r; omega) (by unfold rNP at r; omega)), ⟨NI_c (Or.inl rfl) a6.1 (fun z b r => e z b (by unfold rNI at r; omega) (by unfold rNI at r; omega)), NI_c (Or.inr rfl) a6.2 (fun z b r => e z b (by unfold rNI at r; omega) (by unfold rNI at r; omega))⟩, HD_c a7 (fun z b r => e z b (by unfold rHD at r; omega) (by unfold rHD at r; omega)), LK_c a8 (fun z b r => e z b (by unfold rLK at r; omega) (by unfold rLK at r; omega)), x⟩
theorem IV_ni {t u n : Int} {h h' : ms_H} (a : IV t u n h) (e : ∀ z b, ¬ (27 ≤ z ∧ z ≤ 36 ∧ ¬ ((z = 27 ∨ z = 32) ∧ (b = 2 ∨ b = 4 ∨ b = 5 ∨ b = 6))) → z ≠ 37 → z ≠ 57 → h' z b = h z b) (x : NI h' 0 ∧ NI h' 1) : IV t u n h' := by
  obtain ⟨a1, a2, a3, a4, a5, a6, a7, a8, a9⟩ := a
  have hT := a1.1
  unfold TU at hT
  refine ⟨CV_c a1 (fun z b r => e z b (by unfold cvr at r; omega) (by unfold cvr at r; omega) (by unfold cvr at r; omega)), MV_c a2 (fun z b r => e z b (by unfold rMV mu at r; omega) (by unfold rMV mu at r; omega) (by unfold rMV mu at r; omega)), TE_c a3 (fun z b r => e z b (by unfold rTE at r; omega) (by unfold rTE at r; omega) (by unfold rTE at r; omega)), EQ_c a4 (fun z b r => e z b (by unfold rEQ at r; omega) (by unfold rEQ at r; omega) (by unfold rEQ at r; omega)), NP_c a5 (fun z b r => e z b (by unfold rNP at r; omega) (by unfold rNP at r; omega) (by unfold rNP at r; omega)), x, HD_c a7 (fun z b r => e z b (by unfold rHD at r; omega) (by unfold rHD at r; omega) (by unfold rHD at r; omega)), LK_c a8 (fun z b r => e z b (by unfold rLK at r; omega) (by unfold rLK at r; omega) (by unfold rLK at r; omega)), TC_c a9 (fun z b r => e z b (by unfold rTC at r; omega) (by unfold rTC at r; omega) (by unfold rTC at r; omega))⟩
section
variable {t u n : Int} {h : ms_H}
theorem p_type (a : IV t u n h) {c : Int} : PR n h 33 96 [mI c] := by
  intro Q hQ
  have te := a.2.2.1
  have tl := te.1.2.1
  have el := te.2.1
  have hR := a.2.1.1
  refine c_type a.1 tl (fun z => hQ _ _ (fun Q2 k => m_type hR (by rw [← el]; exact tl) (fun _ => k h (IVx_s a)) (fun z1 => absurd z1 z) (fun z1 => absurd z1 z))) (fun hc z => hQ _ _ (fun Q2 k => m_type hR (by rw [← el]; exact tl) (fun z1 => absurd hc z1) (fun _ _ => k h (IVx_s a)) (fun _ z1 => absurd (by rw [← el]; exact z) z1))) (fun hc z => hQ _ _ (fun Q2 k => ?_))
  have c18 : hs (hs h 2 (h 1 1) c) 1 1 (h 1 1 + 1) 38 18 = h 1 1 := by rw [hs_v, if_neg (by omega), hs_v, if_neg (by omega)]; exact el.symm
  refine m_type (RM_e hR (fun k _ => by rw [hs_v, if_neg (by omega), hs_v, if_neg (by omega)])) (by rw [c18]; exact tl) (fun z1 => absurd hc z1) (fun _ z1 => absurd (c18.symm.trans z1) z) (fun _ _ => ?_)
  rw [c18]
  refine k _ ⟨t, u, IV_s (IV_te a (fun z b z1 z2 z3 z4 => ?_) ?_)⟩
  · rw [hs_v, if_neg (by omega), hs_v, if_neg (by omega), hs_v, if_neg (by omega), hs_v, if_neg (by omega)]
  · refine ⟨⟨⟨?_, ?_⟩, ⟨?_, ?_⟩, fun i i0 i1 => ?_⟩, ?_, ?_⟩
    · rw [hs_v, if_neg (by omega), hs_v, if_neg (by omega), hs_v, if_neg (by omega), hs_v, if_neg (by omega)]; exact te.1.1.1
    · rw [hs_v, if_neg (by omega), hs_v, if_neg (by omega), hs_v, if_neg (by omega), hs_v, if_neg (by omega)]; exact te.1.1.2
    · rw [hs_v, if_neg (by omega), hs_v, if_neg (by omega), hs_v, if_pos ⟨rfl, rfl⟩]; omega
    · rw [hs_v, if_neg (by omega), hs_v, if_neg (by omega), hs_v, if_pos ⟨rfl, rfl⟩]; omega
    · rw [hs_v, if_neg (by omega), hs_v, if_neg (by omega), hs_v, if_pos ⟨rfl, rfl⟩] at i1
      rw [hs_v, if_neg (by omega), hs_v, if_neg (by omega), hs_v, if_neg (by omega), hs_v]
      split
      · exact hc
      · exact te.1.2.2 i i0 (by omega)
    · rw [hs_v, if_neg (by omega), hs_v, if_neg (by omega), hs_v, if_pos ⟨rfl, rfl⟩, hs_v, if_pos ⟨rfl, rfl⟩]
    · funext b
      by_cases q : b = h 1 1
      · rw [q, hs_v, if_neg (by omega), hs_v, if_neg (by omega), hs_v, if_neg (by omega), hs_v, if_pos ⟨rfl, rfl⟩, hs_v, if_neg (by omega), hs_v, if_pos ⟨rfl, rfl⟩]
      · rw [hs_v, if_neg (by omega), hs_v, if_neg (by omega), hs_v, if_neg (by omega), hs_v, if_neg (by omega), hs_v, if_neg (by omega), hs_v, if_neg (by omega), hs_v, if_neg (by omega), hs_v, if_neg (by omega), te.2.2]
theorem p_clear (a : IV t u n h) : PR n h 34 97 [] := by
  intro Q hQ
  have te := a.2.2.1
  have el := te.2.1
  refine c_clear a.1 (hQ _ _ (fun Q2 k => m_clear ?_))
  have c18 : hs h 1 1 0 38 18 = h 1 1 := by rw [hs_v, if_neg (by omega)]; exact el.symm
  rw [c18]
  refine k _ ⟨t, u, IV_s (IV_te a (fun z b z1 z2 z3 z4 => ?_) ?_)⟩
  · rw [hs_v, if_neg (by omega), hs_v, if_neg (by omega)]
  · refine ⟨⟨⟨?_, ?_⟩, ⟨?_, ?_⟩, fun i i0 i1 => ?_⟩, ?_, ?_⟩
    · rw [hs_v, if_neg (by omega), hs_v, if_neg (by omega)]; exact te.1.1.1
    · rw [hs_v, if_neg (by omega), hs_v, if_neg (by omega)]; exact te.1.1.2
    · rw [hs_v, if_neg (by omega), hs_v, if_pos ⟨rfl, rfl⟩]; omega
    · rw [hs_v, if_neg (by omega), hs_v, if_pos ⟨rfl, rfl⟩]; omega
    · rw [hs_v, if_neg (by omega), hs_v, if_pos ⟨rfl, rfl⟩] at i1
      omega
    · rw [hs_v, if_neg (by omega), hs_v, if_pos ⟨rfl, rfl⟩, hs_v, if_pos ⟨rfl, rfl⟩]
    · funext b
      rw [hs_v, if_neg (by omega), hs_v, if_neg (by omega), hs_v, if_neg (by omega), hs_v, if_neg (by omega), te.2.2]
theorem p_forget (a : IV t u n h) : PR n h 52 150 [] := by
  intro Q hQ
  have hd := a.2.2.2.2.2.2.1
  refine c_forget (hQ _ _ (fun Q2 k => m_forget ?_))
  have c14 : hs (hs (hs h 0 7 0) 0 8 0) 0 9 39 38 14 = h 0 7 := by rw [hs_v, if_neg (by omega), hs_v, if_neg (by omega), hs_v, if_neg (by omega)]; exact hd.2.1.symm
  rw [c14]
  refine k _ ⟨t, u, IV_s (IV_hd a (fun z b z1 z2 z3 => ?_) ?_)⟩
  · rw [hs_v, if_neg (by omega), hs_v, if_neg (by omega), hs_v, if_neg (by omega), hs_v, if_neg (by omega)]
  · have e14 : hs (hs (hs (hs h 0 7 0) 0 8 0) 0 9 39) 38 14 0 38 14 = 0 := by rw [hs_v, if_pos ⟨rfl, rfl⟩]
    have e7 : hs (hs (hs (hs h 0 7 0) 0 8 0) 0 9 39) 38 14 0 0 7 = 0 := by rw [hs_v, if_neg (by omega), hs_v, if_neg (by omega), hs_v, if_neg (by omega), hs_v, if_pos ⟨rfl, rfl⟩]
    have e8 : hs (hs (hs (hs h 0 7 0) 0 8 0) 0 9 39) 38 14 0 0 8 = 0 := by rw [hs_v, if_neg (by omega), hs_v, if_neg (by omega), hs_v, if_pos ⟨rfl, rfl⟩]
    have e9 : hs (hs (hs (hs h 0 7 0) 0 8 0) 0 9 39) 38 14 0 0 9 = 39 := by rw [hs_v, if_neg (by omega), hs_v, if_pos ⟨rfl, rfl⟩]
    unfold HD HV mSo
    rw [e14, e7, e8, e9]
    refine ⟨⟨by omega, fun k k0 k1 => by omega⟩, rfl, by omega, fun t t0 t1 => ⟨fun _ => ⟨t0, t1⟩, fun _ => rfl⟩⟩
theorem soI_c2 {h h' : ms_H} {t : Int} (e2 : h' 39 = h 39) (e3 : h' 40 = h 40) : ∀ n : Nat, (∀ b, 0 ≤ b → b < 4 * (n : Int) → h' 47 b = h 47 b) → soI h' t n = soI h t n
  | 0, _ => rfl
  | n + 1, e => by
    have ih := soI_c2 (t := t) e2 e3 n (fun b b0 b1 => e b b0 (by omega))
    rw [soI, soI, ih]
    unfold syI
    rw [e2, e3, e (4 * n) (by omega) (by omega), e (4 * n + 1) (by omega) (by omega), e (4 * n + 2) (by omega) (by omega), e (4 * n + 3) (by omega) (by omega)]
theorem p_hears (a : IV t u n h) {w c f s : Int} : PR n h 51 149 [mI w, mI c, mI f, mI s] := by
  intro Q hQ
  have hd := a.2.2.2.2.2.2.1
  have en := (v_n a).1
  have e7 := hd.2.1
  have hn := hd.1.1
  have hl := hd.2.2.1
  refine c_hears a.1 (by rw [e7]; exact hn) (v_lm a) (fun z => hQ _ _ (fun Q2 k => m_hears a.2.1 hn (fun _ => k h (IVx_s a)) (fun z1 => absurd (by rw [en]; exact z1) z) (fun z1 => absurd (by rw [en]; exact z1) z))) (fun hc z => hQ _ _ (fun Q2 k => m_hears a.2.1 hn (fun z1 => absurd (by rw [← en]; exact hc) z1) (fun _ _ => k h (IVx_s a)) (fun _ z1 => absurd (e7.symm.trans z) z1))) (fun hc z => hQ _ _ (fun Q2 k => ?_))
  rw [en] at hc
  have hT := a.1.1
  unfold TU at hT
  have lim : h (t + 1) c + f + h (t + 4) w = h 40 c + f + h 39 w := by
    rw [(v_col a hc.2.1.1 hc.2.1.2).1]
    have : w = 0 ∨ w = 1 := by omega
    rcases this with rfl | rfl
    · rw [(v_hand a).1]
    · rw [(v_hand a).2]
  rw [lim]
  have ha := (a.2.1.2.2.2.1 c hc.2.1.1 hc.2.1.2).1
  have hh := MV_hand a.2.1 (i := w) (by omega) (by omega)
  generalize hL : h 40 c + f + h 39 w = l
  have hl2 : 0 ≤ l ∧ l ≤ 25 := by omega
  obtain ⟨c1, hc1, f1, f7, f8, f9⟩ : ∃ c1 : ms_H, c1 = (if s = 1 then hs (hs h 0 9 (min (h 0 9) l)) 0 7 (h 0 7 + 1) else hs (hs h 0 8 (max (h 0 8) (l + 1))) 0 7 (h 0 7 + 1)) ∧ (∀ z b, ¬ (z = 0 ∧ 7 ≤ b ∧ b ≤ 9) → c1 z b = h z b) ∧ c1 0 7 = h 0 7 + 1 ∧ c1 0 8 = (if s = 1 then h 0 8 else max (h 0 8) (l + 1)) ∧ c1 0 9 = (if s = 1 then min (h 0 9) l else h 0 9) := by
    refine ⟨_, rfl, fun z b hz => ?_, ?_, ?_, ?_⟩
    all_goals split
    · rw [hs_v, if_neg (by omega), hs_v, if_neg (by omega)]
    · rw [hs_v, if_neg (by omega), hs_v, if_neg (by omega)]
    · rw [hs_v, if_pos ⟨rfl, rfl⟩]
    · rw [hs_v, if_pos ⟨rfl, rfl⟩]
    · rw [hs_v, if_neg (by omega), hs_v, if_neg (by omega)]
    · rw [hs_v, if_neg (by omega), hs_v, if_pos ⟨rfl, rfl⟩]
    · rw [hs_v, if_neg (by omega), hs_v, if_pos ⟨rfl, rfl⟩]
    · rw [hs_v, if_neg (by omega), hs_v, if_neg (by omega)]
  rw [← hc1]
  have g14 : c1 38 14 = h 38 14 := f1 38 14 (by omega)
  have g0 : c1 38 0 = h 38 0 := f1 38 0 (by omega)
  refine m_hears (MV_c a.2.1 (fun z b r => f1 z b (by unfold rMV at r; omega))) (by rw [g14]; exact hn) (fun z1 => absurd (by rw [g0]; exact hc) z1) (fun _ z1 => absurd (e7.trans (g14.symm.trans z1)) z) (fun _ _ => ?_)
  rw [g14, ← e7]
  have fr : ∀ z b, ¬ (z = 38 ∧ b = 14) → z ≠ 47 → hrH c1 w c f s z b = c1 z b := fun z b z1 z2 => by
    unfold hrH
    rw [hs_v, if_neg (by omega), hs_v, if_neg (by omega), hs_v, if_neg (by omega), hs_v, if_neg (by omega), hs_v, if_neg (by omega)]
  have k14 : hrH c1 w c f s 38 14 = h 38 14 + 1 := by
    unfold hrH
    rw [hs_v, if_pos ⟨rfl, rfl⟩, g14]
  have k47 : ∀ b, hrH c1 w c f s 47 b = if b = 4 * h 38 14 + 3 then s else if b = 4 * h 38 14 + 2 then f else if b = 4 * h 38 14 + 1 then c else if b = 4 * h 38 14 then w else h 47 b := fun b => by
    unfold hrH
    rw [g14, hs_v, if_neg (by omega), hs_v]
    simp only [true_and]
    split
    · rfl
    · rw [hs_v]
      simp only [true_and]
      split
      · rfl
      · rw [hs_v]
        simp only [true_and]
        split
        · rfl
        · rw [hs_v]
          simp only [true_and]
          split
          · rfl
          · exact f1 47 b (by omega)
  generalize hrH c1 w c f s = g at fr k14 k47
  have e39 : g 39 = h 39 := funext fun b => by rw [fr 39 b (by omega) (by omega), f1 39 b (by omega)]
  have e40 : g 40 = h 40 := funext fun b => by rw [fr 40 b (by omega) (by omega), f1 40 b (by omega)]
  refine k _ ⟨t, u, IV_s (IV_hd a (fun z b z1 z2 z3 => by rw [fr z b z2 z3, f1 z b z1]) ?_)⟩
  have g7 : g 0 7 = h 0 7 + 1 := by rw [fr 0 7 (by omega) (by omega)]; exact f7
  have g8 : g 0 8 = (if s = 1 then h 0 8 else max (h 0 8) (l + 1)) := by rw [fr 0 8 (by omega) (by omega)]; exact f8
  have g9 : g 0 9 = (if s = 1 then min (h 0 9) l else h 0 9) := by rw [fr 0 9 (by omega) (by omega)]; exact f9
  have gc : g 38 0 = h 38 0 := by rw [fr 38 0 (by omega) (by omega)]; exact g0
  refine ⟨⟨by rw [k14]; omega, fun j j0 j1 => ?_⟩, by rw [g7, k14, e7], ?_, fun T T0 T1 => ?_⟩
  · rw [k14] at j1
    rw [gc]
    by_cases jl : j = h 38 14
    · subst jl
      rw [k47 (4 * h 38 14), k47 (4 * h 38 14 + 1), k47 (4 * h 38 14 + 2), k47 (4 * h 38 14 + 3)]
      rw [if_neg (by omega), if_neg (by omega), if_neg (by omega), if_pos rfl, if_neg (by omega), if_neg (by omega), if_pos rfl, if_neg (by omega), if_pos rfl, if_pos rfl]
      exact hc
    · have := hd.1.2 j j0 (by omega)
      rw [k47 (4 * j), k47 (4 * j + 1), k47 (4 * j + 2), k47 (4 * j + 3)]
      rw [if_neg (by omega), if_neg (by omega), if_neg (by omega), if_neg (by omega), if_neg (by omega), if_neg (by omega), if_neg (by omega), if_neg (by omega), if_neg (by omega), if_neg (by omega), if_neg (by omega), if_neg (by omega), if_neg (by omega), if_neg (by omega), if_neg (by omega), if_neg (by omega)]
      exact this
  · rw [g8, g9, mx0, mn0]
    repeat' split
    all_goals omega
  · have hT2 := hd.2.2.2 T T0 T1
    unfold mSo at hT2 ⊢
    rw [k14, show (h 38 14 + 1).toNat = (h 38 14).toNat + 1 by omega, soI, soI_c2 e39 e40 (h 38 14).toNat (fun b b0 b1 => by rw [k47, if_neg (by omega), if_neg (by omega), if_neg (by omega), if_neg (by omega)])]
    unfold syI
    rw [show (((h 38 14).toNat : Nat) : Int) = h 38 14 by omega, k47 (4 * h 38 14), k47 (4 * h 38 14 + 1), k47 (4 * h 38 14 + 2), k47 (4 * h 38 14 + 3)]
    rw [if_neg (show ¬ 4 * h 38 14 = 4 * h 38 14 + 3 by omega), if_neg (show ¬ 4 * h 38 14 = 4 * h 38 14 + 2 by omega), if_neg (show ¬ 4 * h 38 14 = 4 * h 38 14 + 1 by omega), if_pos rfl, if_neg (show ¬ 4 * h 38 14 + 1 = 4 * h 38 14 + 3 by omega), if_neg (show ¬ 4 * h 38 14 + 1 = 4 * h 38 14 + 2 by omega), if_pos rfl, if_neg (show ¬ 4 * h 38 14 + 2 = 4 * h 38 14 + 3 by omega), if_pos rfl, if_pos rfl, e39, e40, g8, g9]
    by_cases q : soI h T (h 38 14).toNat = 1
    · have q' := hT2.mp q
      rw [if_pos q]
      by_cases q2 : T - h 40 c - f ≤ h 39 w
      · rw [if_pos q2]
        by_cases q3 : s = 1
        · rw [if_pos q3, if_pos q3, if_pos q3, mn0]
          exact ⟨fun _ => ⟨q'.1, by split <;> omega⟩, fun _ => rfl⟩
        · rw [if_neg q3, if_neg q3, if_neg q3, mx0]
          refine ⟨fun z => by omega, fun z => ?_⟩
          have := z.1
          split at this <;> omega
      · rw [if_neg q2]
        by_cases q3 : s = 1
        · rw [if_pos q3, if_pos q3, if_pos q3, mn0]
          refine ⟨fun z => by omega, fun z => ?_⟩
          have := z.2
          split at this <;> omega
        · rw [if_neg q3, if_neg q3, if_neg q3, mx0]
          exact ⟨fun _ => ⟨by split <;> omega, q'.2⟩, fun _ => rfl⟩
    · rw [if_neg q]
      have q' : ¬ (h 0 8 ≤ T ∧ T ≤ h 0 9) := fun z => q (hT2.mpr z)
      refine ⟨fun z => by omega, fun z => absurd ?_ q'⟩
      have z1 := z.1
      have z2 := z.2
      rw [mx0] at z1
      rw [mn0] at z2
      repeat' split at z1
      all_goals (repeat' split at z2)
      all_goals omega
theorem p_mark (a : IV t u n h) (hn : n ≤ 10000) {kd c : Int} : PR n h 55 156 [mI kd, mI c] := by
  intro Q hQ
  have en := (v_n a).1
  have tc := a.2.2.2.2.2.2.2.2
  have tb : 0 ≤ h 0 10 ∧ h 0 10 ≤ 2000000000 := by have := tc.2.1; omega
  refine c_mark a.1 tb (fun z => hQ _ _ (fun Q2 k => m_mark a.2.1 (by rw [← tc.1]; exact tb) (fun _ => k h (IVx_s a)) (fun z1 z2 => absurd ⟨z1, by rw [en]; exact z2⟩ z))) (fun hk hc => hQ _ _ (fun Q2 k => ?_))
  rw [en] at hc
  have hT := a.1.1
  unfold TU at hT
  have fr : ∀ z b, ¬ (z = 0 ∧ b = 10) → hs h 0 10 (h 0 10 + mkT kd) z b = h z b := fun z b hz => by rw [hs_v, if_neg hz]
  have e10 : hs h 0 10 (h 0 10 + mkT kd) 0 10 = h 0 10 + mkT kd := by rw [hs_v, if_pos ⟨rfl, rfl⟩]
  generalize hs h 0 10 (h 0 10 + mkT kd) = c1 at fr e10
  have ez : ∀ z, z ≠ 0 → c1 z = h z := fun z hz => funext fun b => fr z b (by omega)
  have eT : mT c1 = mT h := by
    unfold mT
    rw [ez 38 (by omega), ez 45 (by omega)]
  refine m_mark (MV_c a.2.1 (fun z b r => fr z b (by unfold rMV at r; omega))) (by rw [ez 38 (by omega), ← tc.1]; exact tb) (fun z => absurd ⟨hk, by rw [ez 38 (by omega)]; exact hc⟩ z) (fun _ _ => ?_)
  have ec := v_col a hc.1 hc.2
  rw [eT, ez 40 (by omega), ez 41 (by omega), ez 42 (by omega), ez 38 (by omega)]
  have ev : mkV (h (t + 1) c) (h (t + 2) c) (h (t + 3) c) (cl (cT t h - h (t + 1) c)) kd c = (if kd = 0 then h 40 c else if kd = 1 then h 40 c + h 41 c else if kd = 2 then h 40 c - h 42 c else if kd = 3 then (h 40 c + h 41 c) * 2 else if kd = 4 then h 40 c - h 42 c + c else h 40 c + cl (mT h - h 40 c)) := by
    unfold mkV
    rw [ec.1, ec.2.1, ec.2.2, v_T a]
  rw [← ev]
  have et : (if kd = 0 then 1 else if kd = 1 then 11 else if kd = 2 then 101 else if kd = 3 then 1011 else if kd = 4 then 10101 else 100001) = mkT kd := rfl
  have mb : 0 ≤ mkT kd ∧ mkT kd ≤ 100001 := by
    unfold mkT
    repeat' split
    all_goals omega
  rw [et]
  refine k _ ⟨t, u, IV_tc a (fun z b z1 z2 => ?_) ?_⟩
  · rw [hs_v, if_neg (by omega)]; exact fr z b z1
  · refine ⟨?_, ?_, ?_⟩
    · rw [hs_v, if_neg (by omega), hs_v, if_pos ⟨rfl, rfl⟩, e10, tc.1]
    · rw [hs_v, if_neg (by omega), e10]
      have := tc.2.1
      omega
    · have := tc.2.2
      omega
end
