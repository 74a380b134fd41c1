/-! Both objects at one call: images. -/
theorem bc_v (h : ms_H) {q o : Int} (hd : q + 5 ≤ o ∨ o + 5 ≤ q) : (bcH h q o q 0 = h o 0 ∧ bcH h q o q 1 = h o 1 ∧ bcH h q o q 3 = h o 3) ∧ (∀ c, 0 ≤ c → c < 8 → bcH h q o (q + 1) c = h (o + 1) c) ∧ (∀ j, 0 ≤ j → j < 10 → bcH h q o (q + 2) j = h (o + 2) j ∧ bcH h q o (q + 3) j = h (o + 3) j ∧ bcH h q o (q + 4) j = h (o + 4) j) ∧ (∀ z b, ¬ (z = q ∧ (b = 0 ∨ b = 1 ∨ b = 3)) → ¬ (q + 1 ≤ z ∧ z ≤ q + 4) → bcH h q o z b = h z b) := by
  have z0 : ∀ b : Int, 0 + (b - 0) = b := fun b => by omega
  unfold bcH
  refine ⟨⟨?_, ?_, ?_⟩, fun c c0 c1 => ?_, fun j j0 j1 => ⟨?_, ?_, ?_⟩, fun z b z1 z2 => ?_⟩
  · rw [cpy_v, if_neg (by omega), cpy_v, if_neg (by omega), cpy_v, if_neg (by omega), hs_v, if_neg (by omega), cpy_v, if_neg (by omega), hs_v, if_neg (by omega), hs_v, if_pos ⟨rfl, rfl⟩]
  · rw [cpy_v, if_neg (by omega), cpy_v, if_neg (by omega), cpy_v, if_neg (by omega), hs_v, if_neg (by omega), cpy_v, if_neg (by omega), hs_v, if_pos ⟨rfl, rfl⟩]
  · rw [cpy_v, if_neg (by omega), cpy_v, if_neg (by omega), cpy_v, if_neg (by omega), hs_v, if_pos ⟨rfl, rfl⟩]
  · rw [cpy_v, if_neg (by omega), cpy_v, if_neg (by omega), cpy_v, if_neg (by omega), hs_v, if_neg (by omega), cpy_v, if_pos (by omega), z0, hs_v, if_neg (by omega), hs_v, if_neg (by omega)]
  · rw [cpy_v, if_neg (by omega), cpy_v, if_neg (by omega), cpy_v, if_pos (by omega), z0, hs_v, if_neg (by omega), cpy_v, if_neg (by omega), hs_v, if_neg (by omega), hs_v, if_neg (by omega)]
  · rw [cpy_v, if_neg (by omega), cpy_v, if_pos (by omega), z0, cpy_v, if_neg (by omega), hs_v, if_neg (by omega), cpy_v, if_neg (by omega), hs_v, if_neg (by omega), hs_v, if_neg (by omega)]
  · rw [cpy_v, if_pos (by omega), z0, cpy_v, if_neg (by omega), cpy_v, if_neg (by omega), hs_v, if_neg (by omega), cpy_v, if_neg (by omega), hs_v, if_neg (by omega), hs_v, if_neg (by omega)]
  · rw [cpy_v, if_neg (by omega), cpy_v, if_neg (by omega), cpy_v, if_neg (by omega), hs_v, if_neg (by omega), cpy_v, if_neg (by omega), hs_v, if_neg (by omega), hs_v, if_neg (by omega)]
theorem kp_v (h : ms_H) (at_ : Int) : kpH h at_ 57 at_ = 1 ∧ kpH h at_ 57 (at_ + 1) = h 38 32 ∧ (∀ k, 0 ≤ k → k < 10 → kpH h at_ 57 (at_ + 2 + k) = snap h k) ∧ (∀ k, 0 ≤ k → k < 100 → kpH h at_ 57 (at_ + 12 + k) = h 53 k) ∧ (∀ z b, ¬ (z = 57 ∧ at_ ≤ b ∧ b < at_ + 112) → kpH h at_ z b = h z b) := by
  have es : snap (hs (hs h 57 at_ 1) 57 (at_ + 1) (h 38 32)) = snap h := snap_c ⟨by rw [hs_v, if_neg (by omega), hs_v, if_neg (by omega)], by rw [hs_v, if_neg (by omega), hs_v, if_neg (by omega)], funext fun b => by rw [hs_v, if_neg (by omega), hs_v, if_neg (by omega)]⟩
  unfold kpH
  refine ⟨?_, ?_, fun k k0 k1 => ?_, fun k k0 k1 => ?_, fun z b hz => ?_⟩
  · rw [kpP_v, if_neg (by omega), wrH_v, if_neg (by omega), hs_v, if_neg (by omega), hs_v, if_pos ⟨rfl, rfl⟩]
  · rw [kpP_v, if_neg (by omega), wrH_v, if_neg (by omega), hs_v, if_pos ⟨rfl, rfl⟩]
  · rw [kpP_v, if_neg (by omega), wrH_v, if_pos (by omega), es]
    congr 1
    omega
  · rw [kpP_v, if_pos (by omega), wrH_v, if_neg (by omega), hs_v, if_neg (by omega), hs_v, if_neg (by omega)]
    congr 1
    omega
  · rw [kpP_v, if_neg (by omega), wrH_v, if_neg (by omega), hs_v, if_neg (by omega), hs_v, if_neg (by omega)]
theorem bk_v (h : ms_H) (at_ : Int) : bkH h at_ 38 32 = h 57 (at_ + 1) ∧ (∀ k, 0 ≤ k → k < 10 → snap (bkH h at_) k = h 57 (at_ + 2 + k)) ∧ (∀ k, 0 ≤ k → k < 100 → bkH h at_ 53 k = h 57 (at_ + 12 + k)) ∧ (∀ z b, ¬ (z = 38 ∧ (b = 11 ∨ b = 12 ∨ b = 32)) → z ≠ 46 → z ≠ 53 → bkH h at_ z b = h z b) := by
  have g57 : ∀ b, hs h 38 32 (h 57 (at_ + 1)) 57 b = h 57 b := fun b => by rw [hs_v, if_neg (by omega)]
  have b11 : bkH h at_ 38 11 = h 57 (at_ + 2) := by
    unfold bkH
    rw [bkP_v, if_neg (by omega), rbH_v, if_pos ⟨rfl, rfl⟩, g57]
  have b12 : bkH h at_ 38 12 = h 57 (at_ + 2 + 1) := by
    unfold bkH
    rw [bkP_v, if_neg (by omega), rbH_v, if_neg (by omega), if_pos ⟨rfl, rfl⟩, g57]
  have b46 : ∀ c, 0 ≤ c → c < 8 → bkH h at_ 46 c = h 57 (at_ + 2 + 2 + c) := fun c c0 c1 => by
    unfold bkH
    rw [bkP_v, if_neg (by omega), rbH_v, if_neg (by omega), if_neg (by omega), if_pos ⟨rfl, c0, c1⟩, g57]
  refine ⟨?_, fun k k0 k1 => ?_, fun k k0 k1 => ?_, fun z b z1 z2 z3 => ?_⟩
  · unfold bkH
    rw [bkP_v, if_neg (by omega), rbH_v, if_neg (by omega), if_neg (by omega), if_neg (by omega), hs_v, if_pos ⟨rfl, rfl⟩]
  · by_cases q0 : k = 0
    · rw [q0, snap_0, b11, Int.add_zero]
    · by_cases q1 : k = 1
      · rw [q1, snap_1, b12]
      · have := snap_2 (bkH h at_) (c := k - 2) (by omega)
        rw [show 2 + (k - 2) = k by omega] at this
        rw [this, b46 (k - 2) (by omega) (by omega)]
        congr 1
        omega
  · unfold bkH
    rw [bkP_v, if_pos (by omega), rbH_v, if_neg (by omega), if_neg (by omega), if_neg (by omega), g57]
  · unfold bkH
    rw [bkP_v, if_neg (by omega), rbH_v, if_neg (by omega), if_neg (by omega), if_neg (by omega), hs_v, if_neg (by omega)]
theorem NI_c2 {h h' : ms_H} {im : Int} (a : NI h im) (e37 : h' 37 im = h 37 im) (e0 : h' 38 0 = h 38 0) (ez : ∀ z, 27 + 5 * im ≤ z → z ≤ 27 + 5 * im + 4 → h' z = h z) (e57 : ∀ b, 112 * im ≤ b → b < 112 * im + 112 → h' 57 b = h 57 b) : NI h' im := by
  obtain ⟨a1, a2, a3⟩ := a
  refine ⟨by rw [e37]; exact a1, by rw [e37, e57 _ (by omega) (by omega)]; exact a2, fun z => ?_⟩
  rw [e37] at z
  rw [e0, ez (27 + 5 * im) (by omega) (by omega), ez (27 + 5 * im + 1) (by omega) (by omega), ez (27 + 5 * im + 2) (by omega) (by omega), ez (27 + 5 * im + 3) (by omega) (by omega), ez (27 + 5 * im + 4) (by omega) (by omega), e57 (112 * im + 1) (by omega) (by omega)]
  exact NR_c (a3 z) ⟨rfl, rfl, rfl⟩ (fun _ _ _ => rfl) (fun _ _ _ => ⟨rfl, rfl, rfl⟩) (fun k k0 k1 => e57 _ (by omega) (by omega)) (fun b b0 b1 => e57 _ (by omega) (by omega))
section
variable {t u n : Int} {h : ms_H}
theorem p_keep (a : IV t u n h) {im : Int} : PR n h 56 157 [mI im] := by
  intro Q hQ
  have nw := v_now a
  have np := a.2.2.2.2.1
  refine c_keep a.1 (fun z => hQ _ _ (fun Q2 k => m_keep a.2.1 (fun _ => k h (IVx_s a)) (fun z1 => absurd z1 z))) (fun hi => hQ _ _ (fun Q2 k => ?_))
  have B := bc_v h (q := 27 + 5 * im) (o := 21) (by omega)
  have cz : ∀ z b, z ≠ 37 → hs (bcH h (27 + 5 * im) 21) 37 im 1 z b = bcH h (27 + 5 * im) 21 z b := fun z b hz => by rw [hs_v, if_neg (by omega)]
  have c37 : ∀ b, hs (bcH h (27 + 5 * im) 21) 37 im 1 37 b = if b = im then 1 else h 37 b := fun b => by
    rw [hs_v]
    simp only [true_and]
    split
    · rfl
    · exact B.2.2.2 37 b (by omega) (by omega)
  generalize hs (bcH h (27 + 5 * im) 21) 37 im 1 = c1 at cz c37
  have fr : ∀ z b, ¬ (z = 27 + 5 * im ∧ (b = 0 ∨ b = 1 ∨ b = 3)) → ¬ (27 + 5 * im + 1 ≤ z ∧ z ≤ 27 + 5 * im + 4) → z ≠ 37 → c1 z b = h z b := fun z b z1 z2 z3 => by rw [cz z b z3, B.2.2.2 z b z1 z2]
  have ez : ∀ z, 38 ≤ z → c1 z = h z := fun z hz => funext fun b => fr z b (by omega) (by omega) (by omega)
  have e38 := ez 38 (by omega)
  refine m_keep (MV_c a.2.1 (fun z b r => by rw [ez z (by unfold rMV at r; omega)])) (fun z => absurd hi z) (fun _ => ?_)
  rw [e38, ← nw.1]
  have K := kp_v c1 (112 * im)
  have sc : snap c1 = snap h := snap_c ⟨by rw [e38], by rw [e38], ez 46 (by omega)⟩
  rw [sc, e38, ez 53 (by omega)] at K
  generalize kpH c1 (112 * im) = m2 at K
  obtain ⟨K0, K1, K2, K3, K4⟩ := K
  have mz : ∀ z, z ≠ 57 → m2 z = c1 z := fun z hz => funext fun b => K4 z b (by omega)
  have new : NI m2 im := by
    refine ⟨Or.inr ?_, ?_, fun _ => ?_⟩
    · rw [mz 37 (by omega), c37, if_pos rfl]
    · rw [K0, mz 37 (by omega), c37, if_pos rfl]
    · rw [mz 38 (by omega), e38, mz (27 + 5 * im) (by omega), mz (27 + 5 * im + 1) (by omega), mz (27 + 5 * im + 2) (by omega), mz (27 + 5 * im + 3) (by omega), mz (27 + 5 * im + 4) (by omega), K1]
      refine NR_c np ⟨?_, ?_, ?_⟩ (fun c c0 c1 => ?_) (fun j j0 j1 => ⟨?_, ?_, ?_⟩) (fun k k0 k1 => K2 k k0 k1) (fun b b0 b1 => K3 b b0 b1)
      · rw [cz _ _ (by omega)]; exact B.1.1
      · rw [cz _ _ (by omega)]; exact B.1.2.1
      · rw [cz _ _ (by omega)]; exact B.1.2.2
      · rw [cz _ _ (by omega)]; exact B.2.1 c c0 c1
      · rw [cz _ _ (by omega)]; exact (B.2.2.1 j j0 j1).1
      · rw [cz _ _ (by omega)]; exact (B.2.2.1 j j0 j1).2.1
      · rw [cz _ _ (by omega)]; exact (B.2.2.1 j j0 j1).2.2
  have old : ∀ im', (im' = 0 ∨ im' = 1) → im' ≠ im → NI h im' → NI m2 im' := fun im' i1 i2 q => by
    refine NI_c2 q ?_ ?_ (fun z z0 z1 => ?_) (fun b b0 b1 => ?_)
    · rw [mz 37 (by omega), c37, if_neg i2]
    · rw [mz 38 (by omega), e38]
    · rw [mz z (by omega)]
      funext b
      exact fr z b (by omega) (by omega) (by omega)
    · rw [K4 57 b (by omega), ez 57 (by omega)]
  refine k _ ⟨t, u, IV_s (IV_ni a (fun z b z1 z2 z3 => ?_) ?_)⟩
  · rw [mz z z3, fr z b (by omega) (by omega) z2]
  · have : im = 0 ∨ im = 1 := by omega
    rcases this with rfl | rfl
    · exact ⟨new, old 1 (Or.inr rfl) (by omega) a.2.2.2.2.2.1.2⟩
    · exact ⟨old 0 (Or.inl rfl) (by omega) a.2.2.2.2.2.1.1, new⟩
theorem p_back (a : IV t u n h) {im : Int} : PR n h 57 158 [mI im] := by
  intro Q hQ
  have ni : (0 ≤ im ∧ im ≤ 1) → NI h im := fun hi => by
    have : im = 0 ∨ im = 1 := by omega
    rcases this with rfl | rfl
    · exact a.2.2.2.2.2.1.1
    · exact a.2.2.2.2.2.1.2
  refine c_back a.1 (fun z => hQ _ _ (fun Q2 k => m_back a.2.1 (fun _ => k h (IVx_s a)) (fun z1 => absurd z1 z) (fun z1 => absurd z1 z))) (fun hi z => hQ _ _ (fun Q2 k => m_back a.2.1 (fun z1 => absurd hi z1) (fun _ _ => k h (IVx_s a)) (fun _ z1 => absurd ((ni hi).2.1.trans z) z1))) (fun hi z => hQ _ _ (fun Q2 k => ?_))
  have I := ni hi
  have N := I.2.2 (by have := I.1; omega)
  have B := bc_v h (q := 21) (o := 27 + 5 * im) (by omega)
  generalize bcH h 21 (27 + 5 * im) = c1 at B
  obtain ⟨⟨B0, B1, B3⟩, B4, B5, fr⟩ := B
  have ez : ∀ z, 26 ≤ z → c1 z = h z := fun z hz => funext fun b => fr z b (by omega) (by omega)
  have e57 := ez 57 (by omega)
  refine m_back (MV_c a.2.1 (fun z b r => by rw [ez z (by unfold rMV at r; omega)])) (fun z1 => absurd hi z1) (fun _ z1 => absurd (by rw [e57] at z1; exact I.2.1.symm.trans z1) z) (fun _ _ => ?_)
  have ev : h (27 + 5 * im) 0 = c1 57 (112 * im + 2) := by
    rw [e57, N.1.1]
    show h 57 (112 * im + 2 + 0) = _
    rw [Int.add_zero]
  rw [← ev]
  have K := bk_v c1 (112 * im)
  rw [e57] at K
  generalize bkH c1 (112 * im) = m2 at K
  obtain ⟨K0, K1, K2, K3⟩ := K
  have mz : ∀ z, z ≠ 38 → z ≠ 46 → z ≠ 53 → m2 z = c1 z := fun z z1 z2 z3 => funext fun b => K3 z b (by omega) z2 z3
  refine k _ ⟨t, u, IV_s (IV_dyn a (fun z b z1 z2 z3 z4 z5 => ?_) ?_)⟩
  · rw [K3 z b (by omega) z4 z5, fr z b z1 (by omega)]
  · unfold NP
    rw [mz 21 (by omega) (by omega) (by omega), mz 22 (by omega) (by omega) (by omega), mz 23 (by omega) (by omega) (by omega), mz 24 (by omega) (by omega) (by omega), mz 25 (by omega) (by omega) (by omega), K0, K3 38 0 (by omega) (by omega) (by omega), ez 38 (by omega)]
    exact NR_c N ⟨B0, B1, B3⟩ B4 B5 K1 K2
end
