/-! Both objects at one call: what goes by, what is undone, images. -/
theorem rm_st {h : ms_H} {kd c b0 s de : Int} (hs0 : 0 ≤ h 21 3 ∧ h 21 3 ≤ 10) (hs1 : (h 21 3 < 10 ∧ de = 0 ∧ s = h 21 3) ∨ (h 21 3 = 10 ∧ de = 1 ∧ s = 9)) : rmH h kd c b0 21 3 = s + 1 ∧ (rmH h kd c b0 23 s = kd ∧ rmH h kd c b0 24 s = c ∧ rmH h kd c b0 25 s = b0) ∧ (∀ j, 0 ≤ j → j < s → rmH h kd c b0 23 j = h 23 (j + de) ∧ rmH h kd c b0 24 j = h 24 (j + de) ∧ rmH h kd c b0 25 j = h 25 (j + de)) := by
  have e3 : rmB h 21 3 = s := by
    unfold rmB
    rcases hs1 with ⟨a, b, c⟩ | ⟨a, b, c⟩
    · rw [if_neg (by omega)]; omega
    · rw [if_pos (by omega), ls_v, if_neg (by omega), if_neg (by omega), if_neg (by omega), if_pos ⟨rfl, rfl⟩]; omega
  have eB : ∀ j, 0 ≤ j → j < s → rmB h 23 j = h 23 (j + de) ∧ rmB h 24 j = h 24 (j + de) ∧ rmB h 25 j = h 25 (j + de) := fun j j0 j1 => by
    unfold rmB
    rcases hs1 with ⟨a, b, c⟩ | ⟨a, b, c⟩
    · rw [if_neg (by omega), b, Int.add_zero]; exact ⟨rfl, rfl, rfl⟩
    · rw [if_pos (by omega), b, Int.add_comm j 1]
      refine ⟨?_, ?_, ?_⟩
      · rw [ls_v, if_neg (by omega), if_neg (by omega), if_pos (by omega)]
      · rw [ls_v, if_neg (by omega), if_pos (by omega)]
      · rw [ls_v, if_pos (by omega)]
  unfold rmH
  rw [e3]
  refine ⟨?_, ⟨?_, ?_, ?_⟩, fun j j0 j1 => ⟨?_, ?_, ?_⟩⟩
  · rw [hs_v, if_pos ⟨rfl, rfl⟩]
  · rw [hs_v, if_neg (by omega), hs_v, if_neg (by omega), hs_v, if_neg (by omega), hs_v, if_pos ⟨rfl, rfl⟩]
  · rw [hs_v, if_neg (by omega), hs_v, if_neg (by omega), hs_v, if_pos ⟨rfl, rfl⟩]
  · rw [hs_v, if_neg (by omega), hs_v, if_pos ⟨rfl, rfl⟩]
  · rw [hs_v, if_neg (by omega), hs_v, if_neg (by omega), hs_v, if_neg (by omega), hs_v, if_neg (by omega)]; exact (eB j j0 j1).1
  · rw [hs_v, if_neg (by omega), hs_v, if_neg (by omega), hs_v, if_neg (by omega), hs_v, if_neg (by omega)]; exact (eB j j0 j1).2.1
  · rw [hs_v, if_neg (by omega), hs_v, if_neg (by omega), hs_v, if_neg (by omega), hs_v, if_neg (by omega)]; exact (eB j j0 j1).2.2
theorem nt_st {g : ms_H} {s de : Int} (hs0 : 0 ≤ g 38 32 ∧ g 38 32 ≤ 10) (hs1 : (g 38 32 < 10 ∧ de = 0 ∧ s = g 38 32) ∨ (g 38 32 = 10 ∧ de = 1 ∧ s = 9)) : ntH g 38 32 = s + 1 ∧ (∀ b, 0 ≤ b → b < 10 * s → ntH g 53 b = g 53 (b + 10 * de)) ∧ (∀ k, 0 ≤ k → k < 10 → ntH g 53 (10 * s + k) = snap g k) := by
  unfold ntH
  rcases hs1 with ⟨a, b, c⟩ | ⟨a, b, c⟩
  · rw [if_neg (by omega), c]
    refine ⟨?_, fun j j0 j1 => ?_, fun k k0 k1 => ?_⟩
    · rw [hs_v, if_pos ⟨rfl, rfl⟩]
    · rw [hs_v, if_neg (by omega), wrH_v, if_neg (by omega), b]
      congr 1
      omega
    · rw [hs_v, if_neg (by omega), wrH_v, if_pos (by omega)]
      congr 1
      omega
  · rw [if_pos a]
    refine ⟨?_, fun j j0 j1 => ?_, fun k k0 k1 => ?_⟩
    · rw [hs_v, if_pos ⟨rfl, rfl⟩]; omega
    · rw [hs_v, if_neg (by omega), wrH_v, if_neg (by omega), hs_v, if_neg (by omega), shH_v, if_pos (by omega)]
      congr 1
      omega
    · have es : snap (hs (shH g 90) 38 32 9) = snap g := snap_c ⟨by rw [hs_v, if_neg (by omega), shH_v, if_neg (by omega)], by rw [hs_v, if_neg (by omega), shH_v, if_neg (by omega)], funext fun b => by rw [hs_v, if_neg (by omega), shH_v, if_neg (by omega)]⟩
      rw [hs_v, if_neg (by omega), wrH_v, if_pos (by omega), es]
      congr 1
      omega
section
variable {t u n : Int} {h : ms_H}
theorem snap_0 (g : ms_H) : snap g 0 = g 38 11 := rfl
theorem snap_1 (g : ms_H) : snap g 1 = g 38 12 := rfl
theorem snap_2 (g : ms_H) {c : Int} (c0 : 0 ≤ c) : snap g (2 + c) = g 46 c := by
  unfold snap
  rw [if_neg (by omega), if_neg (by omega)]
  congr 1
  omega
/-- a step is done on both sides: c1 the class's heap, g the model's behind its note, m2 at the end -/
theorem NP_push (a : IV t u n h) {kd cl bf : Int} {c1 g m2 : ms_H} (hc1 : ∀ z b, ¬ (z = 21 ∧ (b = 0 ∨ b = 1)) → z ≠ 22 → c1 z b = rmH h kd cl bf z b) (hg : ∀ z b, ¬ (z = 38 ∧ b = 30) → g z b = c1 z b) (hm2 : ∀ z b, ¬ (z = 38 ∧ (b = 11 ∨ b = 12)) → z ≠ 46 → m2 z b = ntH g z b)
  (d0 : c1 21 0 = m2 38 11) (d1 : c1 21 1 = m2 38 12) (ds : ∀ c, 0 ≤ c → c < 8 → c1 22 c = sk (m2 46 c)) (ok : okX (h 38 0) (snap m2)) (sr : SR kd cl bf (snap h) (snap m2)) : IVx (n + 1) m2 := by
  have nw := v_now a
  have np := a.2.2.2.2.1
  have fr : ∀ z b, ¬ (z = 21 ∧ (b = 0 ∨ b = 1 ∨ b = 3)) → ¬ (22 ≤ z ∧ z ≤ 25) → ¬ (z = 38 ∧ (b = 11 ∨ b = 12 ∨ b = 30 ∨ b = 32)) → z ≠ 46 → z ≠ 53 → m2 z b = h z b := fun z b z1 z2 z3 z4 z5 => by
    rw [hm2 z b (by omega) z4]
    have : ntH g z b = g z b := by
      by_cases q : z = 38
      · rw [q]; exact nt_38 g (by omega)
      · rw [nt_z g q z5]
    rw [this, hg z b (by omega), hc1 z b (by omega) (by omega), rm_v h kd cl bf (by omega) (by omega)]
  obtain ⟨s, de, hs1⟩ : ∃ s de : Int, (h 38 32 < 10 ∧ de = 0 ∧ s = h 38 32) ∨ (h 38 32 = 10 ∧ de = 1 ∧ s = 9) := by
    by_cases q : h 38 32 < 10
    · exact ⟨h 38 32, 0, Or.inl ⟨q, rfl, rfl⟩⟩
    · exact ⟨9, 1, Or.inr ⟨by omega, rfl, rfl⟩⟩
  have R := rm_st (h := h) (kd := kd) (c := cl) (b0 := bf) (s := s) (de := de) (by rw [nw.2.2.1]; exact nw.2.2.2) (by rw [nw.2.2.1]; exact hs1)
  have g32 : g 38 32 = h 38 32 := by rw [hg 38 32 (by omega), hc1 38 32 (by omega) (by omega), rm_v h kd cl bf (by omega) (by omega)]
  have N := nt_st (g := g) (s := s) (de := de) (by rw [g32]; exact nw.2.2.2) (by rw [g32]; exact hs1)
  have gs : snap g = snap h := snap_c ⟨by rw [hg 38 11 (by omega), hc1 38 11 (by omega) (by omega), rm_v h kd cl bf (by omega) (by omega)], by rw [hg 38 12 (by omega), hc1 38 12 (by omega) (by omega), rm_v h kd cl bf (by omega) (by omega)], funext fun b => by rw [hg 46 b (by omega), hc1 46 b (by omega) (by omega), rm_v h kd cl bf (by omega) (by omega)]⟩
  have g53 : g 53 = h 53 := funext fun b => by rw [hg 53 b (by omega), hc1 53 b (by omega) (by omega), rm_v h kd cl bf (by omega) (by omega)]
  have cz : ∀ z, 21 ≤ z → z ≤ 25 → m2 z = c1 z := fun z z0 z1 => funext fun b => by rw [hm2 z b (by omega) (by omega), nt_z g (by omega) (by omega), hg z b (by omega)]
  have e0 : m2 38 0 = h 38 0 := fr 38 0 (by omega) (by omega) (by omega) (by omega) (by omega)
  refine ⟨t, u, IV_s (IV_dyn a fr ?_)⟩
  unfold NP
  rw [e0, cz 21 (by omega) (by omega), cz 22 (by omega) (by omega), cz 23 (by omega) (by omega), cz 24 (by omega) (by omega), cz 25 (by omega) (by omega), hm2 38 32 (by omega) (by omega), N.1]
  refine NR_push (kd := kd) (cl := cl) (bf := bf) np hs1 ⟨d0, d1, ?_⟩ (fun c c0 c1 => ?_) (fun j j0 j1 => ?_) ⟨?_, ?_, ?_⟩ (fun b b0 b1 => ?_) (fun k k0 k1 => ?_) ok sr
  · rw [hc1 21 3 (by omega) (by omega)]; exact R.1
  · rw [snap_2 m2 c0]; exact ds c c0 c1
  · rw [hc1 23 j (by omega) (by omega), hc1 24 j (by omega) (by omega), hc1 25 j (by omega) (by omega)]; exact R.2.2 j j0 j1
  · rw [hc1 23 s (by omega) (by omega)]; exact R.2.1.1
  · rw [hc1 24 s (by omega) (by omega)]; exact R.2.1.2.1
  · rw [hc1 25 s (by omega) (by omega)]; exact R.2.1.2.2
  · rw [hm2 53 b (by omega) (by omega), N.2.1 b b0 b1, g53]
  · rw [hm2 53 _ (by omega) (by omega), N.2.2 k k0 k1, gs]
theorem rm_MV (a : IV t u n h) {kd cl bf : Int} {c1 : ms_H} (hc1 : ∀ z b, ¬ (z = 21 ∧ (b = 0 ∨ b = 1)) → z ≠ 22 → c1 z b = rmH h kd cl bf z b) : MV c1 ∧ (∀ z, 26 ≤ z → c1 z = h z) := by
  have e : ∀ z, 26 ≤ z → c1 z = h z := fun z hz => funext fun b => by rw [hc1 z b (by omega) (by omega), rm_v h kd cl bf (by omega) (by omega)]
  exact ⟨MV_c a.2.1 (fun z b r => by rw [e z (by unfold rMV at r; omega)]), e⟩
theorem p_days (a : IV t u n h) {w : Int} : PR n h 39 126 [mI w] := by
  intro Q hQ
  have nw := v_now a
  have st := v_st a
  have np := a.2.2.2.2.1
  refine c_days a.1 (by rw [nw.2.2.1]; exact nw.2.2.2) (fun z => hQ _ _ (fun Q2 k => m_days a.2.1 nw.2.2.2 (fun _ => k h (IVx_s a)) (fun z1 => absurd z1 z) (fun z1 => absurd z1 z))) (fun h1 h2 => hQ _ _ (fun Q2 k => m_days a.2.1 nw.2.2.2 (fun z => absurd h1 z) (fun _ _ => k h (IVx_s a)) (fun _ z => by omega))) (fun h1 h2 => hQ _ _ (fun Q2 k => ?_))
  have hc1 : ∀ z b, ¬ (z = 21 ∧ (b = 0 ∨ b = 1)) → z ≠ 22 → hs (rmH h 0 0 (h 21 0)) 21 0 (h 21 0 + w) z b = rmH h 0 0 (h 21 0) z b := fun z b z1 z2 => by rw [hs_v, if_neg (by omega)]
  have k0 : hs (rmH h 0 0 (h 21 0)) 21 0 (h 21 0 + w) 21 0 = h 38 11 + w := by rw [hs_v, if_pos ⟨rfl, rfl⟩, nw.1]
  have k1 : hs (rmH h 0 0 (h 21 0)) 21 0 (h 21 0 + w) 21 1 = h 38 12 := by rw [hs_v, if_neg (by omega), rm_v h 0 0 _ (by omega) (by omega), nw.2.1]
  have k2 : ∀ c, hs (rmH h 0 0 (h 21 0)) 21 0 (h 21 0 + w) 22 c = h 22 c := fun c => by rw [hs_v, if_neg (by omega), rm_v h 0 0 _ (by omega) (by omega)]
  generalize hs (rmH h 0 0 (h 21 0)) 21 0 (h 21 0 + w) = c1 at hc1 k0 k1 k2
  have M := rm_MV a hc1
  have e38 := M.2 38 (by omega)
  refine m_days M.1 (by rw [e38]; exact nw.2.2.2) (fun z => absurd h1 z) (fun _ z => by rw [e38] at z; omega) (fun _ _ => ?_)
  have ev : sW (h t 9) (h (t + 7)) (h 21 0 + w) = sW (c1 38 2) (c1 45) (c1 38 11 + w) := by
    rw [v_W a, nw.1, e38, M.2 45 (by omega)]
  rw [← ev]
  have ok := np.2.2.1
  have m46 : ∀ c, hs (ntH c1) 38 11 (c1 38 11 + w) 46 c = h 46 c := fun c => by rw [hs_v, if_neg (by omega), nt_z c1 (by omega) (by omega), M.2 46 (by omega)]
  have m11 : hs (ntH c1) 38 11 (c1 38 11 + w) 38 11 = h 38 11 + w := by rw [hs_v, if_pos ⟨rfl, rfl⟩, e38]
  have m12 : hs (ntH c1) 38 11 (c1 38 11 + w) 38 12 = h 38 12 := by rw [hs_v, if_neg (by omega), nt_38 c1 (by omega), e38]
  have hm : ∀ z b, ¬ (z = 38 ∧ (b = 11 ∨ b = 12)) → z ≠ 46 → hs (ntH c1) 38 11 (c1 38 11 + w) z b = ntH c1 z b := fun z b z1 z2 => by rw [hs_v, if_neg (by omega)]
  generalize hs (ntH c1) 38 11 (c1 38 11 + w) = m2 at m46 m11 m12 hm
  refine k _ (NP_push a (c1 := c1) (g := c1) hc1 (fun z b _ => rfl) hm (by rw [k0, m11]) (by rw [k1, m12]) (fun c c0 c1 => by rw [k2, m46]; exact st.1 c c0 c1) ⟨?_, ?_, fun c c0 c1 => ?_, fun c c2 c0 c1 => ?_⟩ ⟨by omega, Or.inl ⟨rfl, ?_, ?_, fun c c0 c1 => ?_⟩⟩)
  · have := ok.1
    rw [snap_0] at this ⊢
    rw [m11]
    omega
  · have := ok.2.1
    rw [snap_1] at this ⊢
    rw [m12]
    exact this
  · rw [snap_2 m2 c0, m46]; exact st.2.1 c c0 c1
  · rw [snap_2 m2 c0, m46]; exact st.2.2 c c2 c0 c1
  · rw [snap_0, nw.1]
  · rw [snap_1, snap_1, m12]
  · rw [snap_2 h c0, snap_2 m2 c0, m46]
theorem p_warms (a : IV t u n h) {w : Int} : PR n h 40 127 [mI w] := by
  intro Q hQ
  have nw := v_now a
  have st := v_st a
  have np := a.2.2.2.2.1
  refine c_warms a.1 (by rw [nw.2.2.1]; exact nw.2.2.2) (fun z => hQ _ _ (fun Q2 k => m_warms a.2.1 nw.2.2.2 (fun _ => k h (IVx_s a)) (fun z1 z2 => absurd ⟨z1, z2⟩ z) (fun z1 z2 => absurd ⟨z1, z2⟩ z))) (fun h1 h2 h3 => hQ _ _ (fun Q2 k => m_warms a.2.1 nw.2.2.2 (fun z => absurd ⟨h1, h2⟩ z) (fun _ _ _ => k h (IVx_s a)) (fun _ _ z => absurd (by rw [nw.2.1]; exact z) h3))) (fun h1 h2 h3 => hQ _ _ (fun Q2 k => ?_))
  rw [nw.2.1] at h3
  have hc1 : ∀ z b, ¬ (z = 21 ∧ (b = 0 ∨ b = 1)) → z ≠ 22 → hs (rmH h 1 0 (h 21 1)) 21 1 (h 21 1 + w) z b = rmH h 1 0 (h 21 1) z b := fun z b z1 z2 => by rw [hs_v, if_neg (by omega)]
  have k0 : hs (rmH h 1 0 (h 21 1)) 21 1 (h 21 1 + w) 21 0 = h 38 11 := by rw [hs_v, if_neg (by omega), rm_v h 1 0 _ (by omega) (by omega), nw.1]
  have k1 : hs (rmH h 1 0 (h 21 1)) 21 1 (h 21 1 + w) 21 1 = h 38 12 + w := by rw [hs_v, if_pos ⟨rfl, rfl⟩, nw.2.1]
  have k2 : ∀ c, hs (rmH h 1 0 (h 21 1)) 21 1 (h 21 1 + w) 22 c = h 22 c := fun c => by rw [hs_v, if_neg (by omega), rm_v h 1 0 _ (by omega) (by omega)]
  generalize hs (rmH h 1 0 (h 21 1)) 21 1 (h 21 1 + w) = c1 at hc1 k0 k1 k2
  have M := rm_MV a hc1
  have e38 := M.2 38 (by omega)
  refine m_warms M.1 (by rw [e38]; exact nw.2.2.2) (fun z => absurd ⟨h1, h2⟩ z) (fun _ _ z => absurd (by rw [e38]; exact h3) z) (fun _ _ _ => ?_)
  have ok := np.2.2.1
  have mz : ∀ z, z ≠ 38 → z ≠ 53 → 26 ≤ z → hs (ntH c1) 38 12 (c1 38 12 + w) z = h z := fun z z1 z2 z3 => funext fun b => by rw [hs_v, if_neg (by omega), nt_z c1 z1 z2, M.2 z z3]
  have m11 : ∀ k, k ≠ 12 → k ≠ 32 → hs (ntH c1) 38 12 (c1 38 12 + w) 38 k = h 38 k := fun k k1 k2 => by rw [hs_v, if_neg (by omega), nt_38 c1 k2, e38]
  have m12 : hs (ntH c1) 38 12 (c1 38 12 + w) 38 12 = h 38 12 + w := by rw [hs_v, if_pos ⟨rfl, rfl⟩, e38]
  have hm : ∀ z b, ¬ (z = 38 ∧ (b = 11 ∨ b = 12)) → z ≠ 46 → hs (ntH c1) 38 12 (c1 38 12 + w) z b = ntH c1 z b := fun z b z1 z2 => by rw [hs_v, if_neg (by omega)]
  generalize hs (ntH c1) 38 12 (c1 38 12 + w) = m2 at mz m11 m12 hm
  have ev : sn (h (t + 1)) (h t 0).toNat (cW t h + (h 21 1 + w)) = fm m2 2 := by
    rw [v_sn a, v_cW a, nw.2.1, fm_snow]
    unfold mT
    rw [mz 40 (by omega) (by omega) (by omega), mz 45 (by omega) (by omega) (by omega), m11 0 (by omega) (by omega), m11 2 (by omega) (by omega), m11 11 (by omega) (by omega), m12]
  rw [← ev]
  have m46 : ∀ c, m2 46 c = h 46 c := fun c => by rw [mz 46 (by omega) (by omega) (by omega)]
  refine k _ (NP_push a (c1 := c1) (g := c1) hc1 (fun z b _ => rfl) hm (by rw [k0, m11 11 (by omega) (by omega)]) (by rw [k1, m12]) (fun c c0 c1 => by rw [k2, m46]; exact st.1 c c0 c1) ⟨?_, ?_, fun c c0 c1 => ?_, fun c c2 c0 c1 => ?_⟩ ⟨by omega, Or.inr (Or.inl ⟨rfl, ?_, ?_, fun c c0 c1 => ?_⟩)⟩)
  · have := ok.1
    rw [snap_0] at this ⊢
    rw [m11 11 (by omega) (by omega)]
    exact this
  · rw [snap_1, m12]
    exact h3
  · rw [snap_2 m2 c0, m46]; exact st.2.1 c c0 c1
  · rw [snap_2 m2 c0, m46]; exact st.2.2 c c2 c0 c1
  · rw [snap_1, nw.2.1]
  · rw [snap_0, snap_0, m11 11 (by omega) (by omega)]
  · rw [snap_2 h c0, snap_2 m2 c0, m46]
/-- a stake is driven or pulled -/
theorem NP_stake (a : IV t u n h) {c v : Int} {c1 g m2 : ms_H} (hc : 0 ≤ c ∧ c < h 38 0) (hv : 0 ≤ v ∧ v ≤ 9) (hc1 : c1 = hs (rmH h 2 c (h 22 c)) 22 c (sk v)) (hg : ∀ z b, ¬ (z = 38 ∧ b = 30) → g z b = c1 z b) (hm2 : m2 = hs (ntH g) 46 c v) : IVx (n + 1) m2 := by
  have nw := v_now a
  have st := v_st a
  have ok := a.2.2.2.2.1.2.2.1
  have hb := a.2.1.2.1.1
  have hc1' : ∀ z b, ¬ (z = 21 ∧ (b = 0 ∨ b = 1)) → z ≠ 22 → c1 z b = rmH h 2 c (h 22 c) z b := fun z b z1 z2 => by rw [hc1, hs_v, if_neg (by omega)]
  have M := rm_MV a hc1'
  have m38 : ∀ k, k ≠ 32 → k ≠ 30 → m2 38 k = h 38 k := fun k k1 k2 => by rw [hm2, hs_v, if_neg (by omega), nt_38 g k1, hg 38 k (by omega), M.2 38 (by omega)]
  have m46 : ∀ j, m2 46 j = if j = c then v else h 46 j := fun j => by
    rw [hm2, hs_v]
    simp only [true_and]
    split
    · rfl
    · rw [nt_z g (by omega) (by omega), hg 46 j (by omega), M.2 46 (by omega)]
  have k2 : ∀ j, c1 22 j = if j = c then sk v else h 22 j := fun j => by
    rw [hc1, hs_v]
    simp only [true_and]
    split
    · rfl
    · rw [rm_v h 2 c _ (by omega) (by omega)]
  refine NP_push a (kd := 2) (cl := c) (bf := h 22 c) (c1 := c1) (g := g) hc1' hg (fun z b z1 z2 => by rw [hm2, hs_v, if_neg (by omega)]) ?_ ?_ (fun j j0 j1 => ?_) ⟨?_, ?_, fun j j0 j1 => ?_, fun j j2 j0 j1 => ?_⟩ ⟨by omega, Or.inr (Or.inr ⟨rfl, ?_, ?_, ?_, fun j j0 j1 j2 => ?_⟩)⟩
  · rw [hc1, hs_v, if_neg (by omega), rm_v h 2 c _ (by omega) (by omega), nw.1, m38 11 (by omega) (by omega)]
  · rw [hc1, hs_v, if_neg (by omega), rm_v h 2 c _ (by omega) (by omega), nw.2.1, m38 12 (by omega) (by omega)]
  · rw [k2, m46]
    split
    · rfl
    · exact st.1 j j0 j1
  · have := ok.1
    rw [snap_0] at this ⊢
    rw [m38 11 (by omega) (by omega)]
    exact this
  · have := ok.2.1
    rw [snap_1] at this ⊢
    rw [m38 12 (by omega) (by omega)]
    exact this
  · rw [snap_2 m2 j0, m46]
    split
    · exact hv
    · exact st.2.1 j j0 j1
  · rw [snap_2 m2 j0, m46, if_neg (by omega)]
    exact st.2.2 j j2 j0 j1
  · rw [snap_2 h hc.1]; exact (st.1 c hc.1 (by omega)).symm
  · rw [snap_0, snap_0, m38 11 (by omega) (by omega)]
  · rw [snap_1, snap_1, m38 12 (by omega) (by omega)]
  · rw [snap_2 h j0, snap_2 m2 j0, m46, if_neg j2]
theorem p_stakes (a : IV t u n h) {c : Int} : PR n h 41 128 [mI c] := by
  intro Q hQ
  have nw := v_now a
  have st := v_st a
  have en := (v_n a).1
  have hb := a.2.1.2.1.1
  have key : (0 ≤ c ∧ c < h 38 0) → (h 22 c = (cH t h c).1 ↔ h 46 c = (mH h c).1 + 1) := fun hc => by
    have mb := mH_b h c
    have s1 := st.2.1 c hc.1 (by omega)
    rw [v_H a hc.1 hc.2, st.1 c hc.1 (by omega)]
    unfold sk
    split <;> omega
  refine c_stakes a.1 (by rw [nw.2.2.1]; exact nw.2.2.2) (fun z => hQ _ _ (fun Q2 k => m_stakes a.2.1 nw.2.2.2 st.2.1 (fun _ => k h (IVx_s a)) (fun z1 => absurd (by rw [en]; exact z1) z) (fun z1 => absurd (by rw [en]; exact z1) z))) (fun hc z => hQ _ _ (fun Q2 k => m_stakes a.2.1 nw.2.2.2 st.2.1 (fun z1 => absurd (by rw [← en]; exact hc) z1) (fun _ _ => k _ (IVx_30 a _)) (fun z1 z2 => absurd ((key z1).mp z) z2))) (fun hc z => hQ _ _ (fun Q2 k => ?_))
  rw [en] at hc
  have mb := mH_b h c
  have eH := v_H a hc.1 hc.2
  rw [eH] at z k ⊢
  have nz := fun y => z (eH ▸ (key hc).mpr y)
  have hc1' : ∀ z b, ¬ (z = 21 ∧ (b = 0 ∨ b = 1)) → z ≠ 22 → hs (rmH h 2 c (h 22 c)) 22 c (mH h c).1 z b = rmH h 2 c (h 22 c) z b := fun z b z1 z2 => by rw [hs_v, if_neg (by omega)]
  have M := rm_MV a hc1'
  generalize hq : hs (rmH h 2 c (h 22 c)) 22 c (mH h c).1 = c1 at hc1' M
  have e38 := M.2 38 (by omega)
  have e46 := M.2 46 (by omega)
  have em : mH c1 c = mH h c := by
    unfold mH mT
    rw [e38, M.2 40 (by omega), M.2 39 (by omega), M.2 45 (by omega)]
  refine m_stakes M.1 (by rw [e38]; exact nw.2.2.2) (by rw [e46]; exact st.2.1) (fun z1 => absurd (by rw [e38]; exact hc) z1) (fun _ z1 => absurd (by rw [e46, em] at z1; exact z1) nz) (fun _ _ => ?_)
  rw [em]
  refine k _ (NP_stake a (c := c) (v := (mH h c).1 + 1) (c1 := c1) (g := hs c1 38 30 (mH h c).2) hc (by omega) ?_ (fun z b hz => by rw [hs_v, if_neg (by omega)]) rfl)
  rw [← hq]
  congr 1
  unfold sk
  rw [if_neg (by omega)]
  omega
theorem p_pulls (a : IV t u n h) {c : Int} : PR n h 42 129 [mI c] := by
  intro Q hQ
  have nw := v_now a
  have st := v_st a
  have en := (v_n a).1
  have hb := a.2.1.2.1.1
  have key : (0 ≤ c ∧ c < h 38 0) → (h 22 c = -9 ↔ h 46 c = 0) := fun hc => by
    have s1 := st.2.1 c hc.1 (by omega)
    rw [st.1 c hc.1 (by omega)]
    unfold sk
    split <;> omega
  refine c_pulls a.1 (by rw [nw.2.2.1]; exact nw.2.2.2) (fun z => hQ _ _ (fun Q2 k => m_pulls a.2.1 nw.2.2.2 st.2.1 (fun _ => k h (IVx_s a)) (fun z1 => absurd (by rw [en]; exact z1) z) (fun z1 => absurd (by rw [en]; exact z1) z))) (fun hc z => hQ _ _ (fun Q2 k => m_pulls a.2.1 nw.2.2.2 st.2.1 (fun z1 => absurd (by rw [← en]; exact hc) z1) (fun _ _ => k _ (IVx_s a)) (fun z1 z2 => absurd ((key z1).mp z) z2))) (fun hc z => hQ _ _ (fun Q2 k => ?_))
  rw [en] at hc
  have nz := fun y => z ((key hc).mpr y)
  have hc1' : ∀ z b, ¬ (z = 21 ∧ (b = 0 ∨ b = 1)) → z ≠ 22 → hs (rmH h 2 c (h 22 c)) 22 c (-9) z b = rmH h 2 c (h 22 c) z b := fun z b z1 z2 => by rw [hs_v, if_neg (by omega)]
  have M := rm_MV a hc1'
  generalize hq : hs (rmH h 2 c (h 22 c)) 22 c (-9) = c1 at hc1' M
  have e38 := M.2 38 (by omega)
  have e46 := M.2 46 (by omega)
  refine m_pulls M.1 (by rw [e38]; exact nw.2.2.2) (by rw [e46]; exact st.2.1) (fun z1 => absurd (by rw [e38]; exact hc) z1) (fun _ z1 => absurd (by rw [e46] at z1; exact z1) nz) (fun _ _ => ?_)
  have ev : h 22 c = c1 46 c - 1 := by
    rw [e46, st.1 c hc.1 (by omega)]
    unfold sk
    rw [if_neg nz]
  rw [← ev]
  refine k _ (NP_stake a (c := c) (v := 0) (c1 := c1) (g := c1) hc (by omega) ?_ (fun z b hz => rfl) rfl)
  rw [← hq]
  rfl
theorem p_undo (a : IV t u n h) : PR n h 43 130 [] := by
  intro Q hQ
  have nw := v_now a
  have np := a.2.2.2.2.1
  refine c_undo a.1 (by rw [nw.2.2.1]; exact nw.2.2.2) (fun z => ?_) (fun z => hQ _ _ (fun Q2 k => m_undo a.2.1 nw.2.2.2 (fun _ => k h (IVx_s a)) (fun z1 => absurd (nw.2.2.1.symm.trans z) z1))) (fun z => hQ _ _ (fun Q2 k => ?_))
  · rw [nw.2.2.1] at z ⊢
    exact (np.2.2.2.2 (h 38 32 - 1) (by omega) (by omega)).1
  rw [nw.2.2.1] at z k
  have t3 := tb_3 h
  have tv : ∀ a b, ¬ (a = 21 ∧ (b = 0 ∨ b = 1 ∨ b = 3)) → a ≠ 22 → tbH h a b = h a b := fun a b ha hb => tb_v h ha hb
  have t0 : tbH h 21 0 = if h 23 (h 38 32 - 1) = 0 then h 25 (h 38 32 - 1) else h 21 0 := by
    unfold tbH
    rw [nw.2.2.1]
    split
    · rw [hs_v, if_pos ⟨rfl, rfl⟩]
    · split
      · rw [hs_v, if_neg (by omega), hs_v, if_neg (by omega)]
      · rw [hs_v, if_neg (by omega), hs_v, if_neg (by omega)]
  have t1 : tbH h 21 1 = if h 23 (h 38 32 - 1) = 1 then h 25 (h 38 32 - 1) else h 21 1 := by
    unfold tbH
    rw [nw.2.2.1]
    split
    · rw [hs_v, if_neg (by omega), hs_v, if_neg (by omega), if_neg (by omega)]
    · split
      · rw [hs_v, if_pos ⟨rfl, rfl⟩]
      · rw [hs_v, if_neg (by omega), hs_v, if_neg (by omega)]
  have t2 : ∀ c, tbH h 22 c = if ¬ h 23 (h 38 32 - 1) = 0 ∧ ¬ h 23 (h 38 32 - 1) = 1 ∧ c = h 24 (h 38 32 - 1) then h 25 (h 38 32 - 1) else h 22 c := fun c => by
    unfold tbH
    rw [nw.2.2.1]
    split
    · rename_i q
      rw [hs_v, if_neg (by omega), hs_v, if_neg (by omega), if_neg (fun y => y.1 q)]
    · rename_i q0
      split
      · rename_i q
        rw [hs_v, if_neg (by omega), hs_v, if_neg (by omega), if_neg (fun y => y.2.1 q)]
      · rename_i q1
        rw [hs_v]
        by_cases q : c = h 24 (h 38 32 - 1)
        · rw [if_pos ⟨rfl, q⟩, if_pos ⟨q0, q1, q⟩]
        · rw [if_neg (fun y => q y.2), if_neg (fun y => q y.2.2), hs_v, if_neg (by omega)]
  rw [nw.2.2.1] at t3
  generalize tbH h = c1 at t3 tv t0 t1 t2
  have ez : ∀ z, 23 ≤ z → c1 z = h z := fun z hz => funext fun b => tv z b (by omega) (by omega)
  have e38 := ez 38 (by omega)
  refine m_undo (MV_c a.2.1 (fun z b r => by rw [ez z (by unfold rMV at r; omega)])) (by rw [e38]; exact nw.2.2.2) (fun z1 => absurd (by rw [e38] at z1; exact z1) z) (fun _ => ?_)
  rw [e38]
  have g0 : ∀ z b, ¬ (z = 38 ∧ b = 32) → hs c1 38 32 (h 38 32 - 1) z b = c1 z b := fun z b hz => by rw [hs_v, if_neg hz]
  have g32 : hs c1 38 32 (h 38 32 - 1) 38 32 = h 38 32 - 1 := by rw [hs_v, if_pos ⟨rfl, rfl⟩]
  generalize hs c1 38 32 (h 38 32 - 1) = g at g0 g32
  have g53 : ∀ b, g 53 b = h 53 b := fun b => by rw [g0 53 b (by omega), ez 53 (by omega)]
  have r11 : rbH g 53 (10 * (h 38 32 - 1)) 38 11 = h 53 (10 * (h 38 32 - 1)) := by rw [rbH_v, if_pos ⟨rfl, rfl⟩, g53]
  have r12 : rbH g 53 (10 * (h 38 32 - 1)) 38 12 = h 53 (10 * (h 38 32 - 1) + 1) := by rw [rbH_v, if_neg (by omega), if_pos ⟨rfl, rfl⟩, g53]
  have r46 : ∀ c, 0 ≤ c → c < 8 → rbH g 53 (10 * (h 38 32 - 1)) 46 c = h 53 (10 * (h 38 32 - 1) + 2 + c) := fun c c0 c1 => by rw [rbH_v, if_neg (by omega), if_neg (by omega), if_pos ⟨rfl, c0, c1⟩, g53]
  have ro : ∀ z b, ¬ (z = 38 ∧ (b = 11 ∨ b = 12)) → z ≠ 46 → rbH g 53 (10 * (h 38 32 - 1)) z b = g z b := fun z b z1 z2 => by rw [rbH_v, if_neg (by omega), if_neg (by omega), if_neg (by omega)]
  generalize rbH g 53 (10 * (h 38 32 - 1)) = m2 at r11 r12 r46 ro
  refine k _ ⟨t, u, IV_s (IV_dyn a (fun z b z1 z2 z3 z4 z5 => ?_) ?_)⟩
  · rw [ro z b (by omega) z4, g0 z b (by omega), tv z b z1 (by omega)]
  · have mz : ∀ z, z ≠ 38 → z ≠ 46 → m2 z = c1 z := fun z z1 z2 => funext fun b => by rw [ro z b (by omega) z2, g0 z b (by omega)]
    unfold NP
    rw [mz 21 (by omega) (by omega), mz 22 (by omega) (by omega), mz 23 (by omega) (by omega), mz 24 (by omega) (by omega), mz 25 (by omega) (by omega), mz 53 (by omega) (by omega), ro 38 0 (by omega) (by omega), ro 38 32 (by omega) (by omega), g0 38 0 (by omega), g32, e38, ez 23 (by omega), ez 24 (by omega), ez 25 (by omega), ez 53 (by omega)]
    refine NR_pop np (by omega) t3 t0 t1 (fun c _ _ => t2 c) (fun k k0 k1 => ?_)
    by_cases q0 : k = 0
    · rw [q0, snap_0, r11, Int.add_zero]
    · by_cases q1 : k = 1
      · rw [q1, snap_1, r12]
      · have := snap_2 m2 (c := k - 2) (by omega)
        rw [show 2 + (k - 2) = k by omega] at this
        rw [this, r46 (k - 2) (by omega) (by omega)]
        congr 1
        omega
end
