/-! Both objects at one call: a text is told. -/
theorem LC_q {a b c a' b' c' : Int → Int} : ∀ (p : List (Int × Int × Int)), LC a b c p → LC a' b' c' p → ∀ i : Int, 0 ≤ i → i < p.length → a i = a' i ∧ b i = b' i ∧ c i = c' i
  | [], _, _, i, i0, i1 => by rw [List.length_nil] at i1; omega
  | x :: r, h, h', i, i0, i1 => by
    rw [List.length_cons, Int.natCast_succ] at i1
    by_cases e : i = r.length
    · rw [e, h.1.1, h.1.2.1, h.1.2.2, h'.1.1, h'.1.2.1, h'.1.2.2]; exact ⟨rfl, rfl, rfl⟩
    · exact LC_q r h.2 h'.2 i i0 (by omega)
theorem LV_q {a b a' b' : Int → Int} : ∀ (p : List (Int × Int)), LV a b p → LV a' b' p → ∀ i : Int, 0 ≤ i → i < p.length → a i = a' i ∧ b i = b' i
  | [], _, _, i, i0, i1 => by rw [List.length_nil] at i1; omega
  | x :: r, h, h', i, i0, i1 => by
    rw [List.length_cons, Int.natCast_succ] at i1
    by_cases e : i = r.length
    · rw [e, h.1.1, h.1.2, h'.1.1, h'.1.2]; exact ⟨rfl, rfl⟩
    · exact LV_q r h.2 h'.2 i i0 (by omega)
theorem LD_q {a a' : Int → Int} : ∀ (p : List Int), LD a p → LD a' p → ∀ i : Int, 0 ≤ i → i < p.length → a i = a' i
  | [], _, _, i, i0, i1 => by rw [List.length_nil] at i1; omega
  | x :: r, h, h', i, i0, i1 => by
    rw [List.length_cons, Int.natCast_succ] at i1
    by_cases e : i = r.length
    · rw [e, h.1, h'.1]
    · exact LD_q r h.2 h'.2 i i0 (by omega)
theorem LC_b {a b c : Int → Int} : ∀ (p : List (Int × Int × Int)), LC a b c p → (∀ x ∈ p, (0 ≤ x.1 ∧ x.1 ≤ 9) ∧ (0 ≤ x.2.1 ∧ x.2.1 ≤ 9) ∧ (0 ≤ x.2.2 ∧ x.2.2 ≤ 9)) → ∀ i : Int, 0 ≤ i → i < p.length → (0 ≤ a i ∧ a i ≤ 9) ∧ (0 ≤ b i ∧ b i ≤ 9) ∧ (0 ≤ c i ∧ c i ≤ 9)
  | [], _, _, i, i0, i1 => by rw [List.length_nil] at i1; omega
  | x :: r, h, o, i, i0, i1 => by
    rw [List.length_cons, Int.natCast_succ] at i1
    by_cases e : i = r.length
    · rw [e, h.1.1, h.1.2.1, h.1.2.2]; exact o x (List.mem_cons_self ..)
    · exact LC_b r h.2 (fun x hx => o x (List.mem_cons_of_mem _ hx)) i i0 (by omega)
theorem LV_b {a b : Int → Int} : ∀ (p : List (Int × Int)), LV a b p → (∀ x ∈ p, (1 ≤ x.1 ∧ x.1 ≤ 9) ∧ (0 ≤ x.2 ∧ x.2 ≤ 1)) → ∀ i : Int, 0 ≤ i → i < p.length → (1 ≤ a i ∧ a i ≤ 9) ∧ (0 ≤ b i ∧ b i ≤ 1)
  | [], _, _, i, i0, i1 => by rw [List.length_nil] at i1; omega
  | x :: r, h, o, i, i0, i1 => by
    rw [List.length_cons, Int.natCast_succ] at i1
    by_cases e : i = r.length
    · rw [e, h.1.1, h.1.2]; exact o x (List.mem_cons_self ..)
    · exact LV_b r h.2 (fun x hx => o x (List.mem_cons_of_mem _ hx)) i i0 (by omega)
theorem LD_b {a : Int → Int} : ∀ (p : List Int), LD a p → (∀ x ∈ p, 0 ≤ x ∧ x ≤ 30) → ∀ i : Int, 0 ≤ i → i < p.length → 0 ≤ a i ∧ a i ≤ 30
  | [], _, _, i, i0, i1 => by rw [List.length_nil] at i1; omega
  | x :: r, h, o, i, i0, i1 => by
    rw [List.length_cons, Int.natCast_succ] at i1
    by_cases e : i = r.length
    · rw [e, h.1]; exact o x (List.mem_cons_self ..)
    · exact LD_b r h.2 (fun x hx => o x (List.mem_cons_of_mem _ hx)) i i0 (by omega)
theorem hand_b {S : S5} (o : okS S) : (0 ≤ (S.2.2.2.2.getD (0, 3)).1 ∧ (S.2.2.2.2.getD (0, 3)).1 ≤ 9) ∧ (0 ≤ (S.2.2.2.2.getD (0, 3)).2 ∧ (S.2.2.2.2.getD (0, 3)).2 ≤ 9) := by
  have := o.2.2.2.2.2
  cases e : S.2.2.2.2 with
  | none => exact ⟨⟨by decide, by decide⟩, by decide, by decide⟩
  | some x => exact this x e
theorem gap_b {S : S5} (o : okS S) : 1 ≤ (if S.2.2.2.1 = 0 then 2 else S.2.2.2.1) ∧ (if S.2.2.2.1 = 0 then 2 else S.2.2.2.1) ≤ 6 := by
  have := o.2.2.2.2.1
  split <;> omega
theorem CV_w {t u : Int} {h g : ms_H} (a : CV t u h) (f : FW u h g) : CV t u g := by
  obtain ⟨a1, a2, a3, a4⟩ := a
  have hT := a1
  unfold TU at hT
  have ez : ∀ z, z ≠ 1 → z ≠ 3 → (z < u ∨ u + 7 < z) → g z = h z := f.1
  have hp := f.2.2
  unfold PU at hp
  refine ⟨a1, ?_, ?_, ?_⟩
  · unfold RC at a2 ⊢
    rw [ez 0 (by omega) (by omega) (by omega), f.2.1 0 (by omega), f.2.1 8 (by omega), ez t (by omega) (by omega) (by omega), ez 21 (by omega) (by omega) (by omega), ez 26 (by omega) (by omega) (by omega), ez 27 (by omega) (by omega) (by omega), ez 32 (by omega) (by omega) (by omega)]
    exact ⟨a2.1, a2.2.1, hp, a2.2.2.2⟩
  · unfold CB at a3 ⊢
    rw [ez t (by omega) (by omega) (by omega), ez 21 (by omega) (by omega) (by omega)]
    exact a3
  · unfold CA at a4 ⊢
    rw [ez t (by omega) (by omega) (by omega), ez (t + 1) (by omega) (by omega) (by omega), ez (t + 2) (by omega) (by omega) (by omega), ez (t + 3) (by omega) (by omega) (by omega), ez (t + 4) (by omega) (by omega) (by omega), ez (t + 5) (by omega) (by omega) (by omega), ez (t + 6) (by omega) (by omega) (by omega), ez (t + 7) (by omega) (by omega) (by omega)]
    exact a4
theorem IV_w {t u n : Int} {h g : ms_H} (a : IV t u n h) (f : FW u h g) : IV t u n g := by
  obtain ⟨a1, a2, a3, a4, a5, a6, a7, a8, a9⟩ := a
  have hT := a1.1
  unfold TU at hT
  have e : ∀ z b, ((z = 1 ∧ (b < 2 ∨ 7 < b)) ∨ (z ≠ 1 ∧ z ≠ 3 ∧ (z < u ∨ u + 7 < z))) → g z b = h z b := fun z b r => by
    rcases r with ⟨r1, r2⟩ | ⟨r1, r2, r3⟩
    · rw [r1]; exact f.2.1 b r2
    · rw [f.1 z r1 r2 r3]
  exact ⟨CV_w a1 f, MV_c a2 (fun z b r => e z b (by unfold rMV at r; omega)), TE_c a3 (fun z b r => e z b (by unfold rTE at r; omega)), EQ_c a4 (fun z b r => e z b (by unfold rEQ at r; omega)), NP_c a5 (fun z b r => e z b (by unfold rNP at r; omega)), ⟨NI_c (Or.inl rfl) a6.1 (fun z b r => e z b (by unfold rNI at r; omega)), NI_c (Or.inr rfl) a6.2 (fun z b r => e z b (by unfold rNI at r; omega))⟩, HD_c a7 (fun z b r => e z b (by unfold rHD at r; omega)), LK_c a8 (fun z b r => e z b (by unfold rLK at r; omega)), TC_c a9 (fun z b r => e z b (by unfold rTC at r; omega))⟩
theorem TM_of {h g : ms_H} (hm : MV h) (te : TE h) (e38 : g 38 = h 38) (e48 : g 48 = h 48) : TM g := by
  refine ⟨RM_e hm.1 (fun k _ => by rw [e38]), ?_⟩
  rw [e38, e48, ← te.2.1, ← te.2.2]
  exact te.1.2
/-- the state behind a text that is told -/
theorem IV_new {t u n : Int} {h f g f2 g2 : ms_H} {S : S5} (a : IV t u n h) (ff : FW u h f) (wd : WD u f S) (wo : WO t u f g) (fm : FM g f2) (ok : okS S) (mo : MO (hs f2 38 18 0) g2 S) : IV u t n g2 := by
  obtain ⟨a1, a2, a3, a4, a5, a6, a7, a8, a9⟩ := a
  have hT := a1.1
  unfold TU at hT
  have hR := a1.2.1
  unfold RC at hR
  have hR2 := a2.1
  unfold RM at hR2
  obtain ⟨W1, ⟨W01, W02, W07, W08, W09, W0⟩, ⟨W11, W1b⟩, W20, ⟨W210, W211, W213, W21⟩, W22, W370, W371⟩ := wo
  obtain ⟨M1, M2, ⟨M30, M31, M32, M33⟩, ⟨M40, M41⟩, ⟨M5, M6, M7⟩, ⟨M11, M12, M14, M132⟩, M46, M570, M571⟩ := mo
  obtain ⟨⟨D1, D2, D3⟩, ⟨D4, D5⟩, ⟨D6, D7, D8⟩, D9, D10, D11⟩ := wd
  -- cells below 38 are g's
  have z38 : ∀ z, z < 38 → g2 z = g z := fun z hz => by
    rw [M1 z (Or.inl hz)]
    funext b
    rw [hs_v, if_neg (by omega), fm.1 z (by omega) (by omega)]
  have zf : ∀ z, (4 ≤ z ∧ z < 20) ∨ z = 2 ∨ (23 ≤ z ∧ z < 37) → g2 z = f z := fun z hz => by rw [z38 z (by omega), W1 z (by omega) (by omega) (by omega) (by omega) (by omega) (by omega)]
  have fh : ∀ z, (z < u ∨ u + 7 < z) → z ≠ 1 → z ≠ 3 → f z = h z := fun z z1 z2 z3 => ff.1 z z2 z3 z1
  -- the model's own
  have m38 : ∀ k, 4 ≤ k → k ≠ 11 → k ≠ 12 → k ≠ 14 → k ≠ 32 → k ≠ 18 → (k < 19 ∨ 25 < k) → g2 38 k = h 38 k := fun k k0 k1 k2 k3 k4 k5 k6 => by
    rw [M2 k k0 k1 k2 k3 k4, hs_v, if_neg (by omega), fm.2 k k6, W1 38 (by omega) (by omega) (by omega) (by omega) (by omega) (by omega), fh 38 (by omega) (by omega) (by omega)]
  have l1 := ok.1
  have hb := hand_b ok
  have gb := gap_b ok
  have u0 : g2 u = f u := zf u (by omega)
  have u1 : g2 (u + 1) = f (u + 1) := zf _ (by omega)
  have u2 : g2 (u + 2) = f (u + 2) := zf _ (by omega)
  have u3 : g2 (u + 3) = f (u + 3) := zf _ (by omega)
  have u4 : g2 (u + 4) = f (u + 4) := zf _ (by omega)
  have u5 : g2 (u + 5) = f (u + 5) := zf _ (by omega)
  have u6 : g2 (u + 6) = f (u + 6) := zf _ (by omega)
  have u7 : g2 (u + 7) = f (u + 7) := zf _ (by omega)
  have g0 : ∀ b, b ≠ 1 → b ≠ 2 → (b < 7 ∨ 9 < b) → g2 0 b = h 0 b := fun b b1 b2 b3 => by rw [z38 0 (by omega), W0 b b1 b2 b3, fh 0 (by omega) (by omega) (by omega)]
  have n0 : g2 u 0 = S.1.length := by rw [u0]; exact D1
  have n6 : g2 u 6 = S.2.1.length := by rw [u0]; exact D2
  have n9 : g2 u 9 = S.2.2.1.length := by rw [u0]; exact D3
  have n4 : g2 u 4 = (if S.2.2.2.1 = 0 then 2 else S.2.2.2.1) := by rw [u0]; exact D4
  have d0 : g2 21 0 = 0 := by rw [z38 21 (by omega)]; exact W210
  have d1 : g2 21 1 = 0 := by rw [z38 21 (by omega)]; exact W211
  have d3 : g2 21 3 = 0 := by rw [z38 21 (by omega)]; exact W213
  refine ⟨⟨?_, ?_, ?_, ?_⟩, ⟨?_, ?_, ?_⟩, ⟨⟨⟨?_, ?_⟩, ⟨?_, ?_⟩, fun i i0 i1 => ?_⟩, ?_, ?_⟩, ⟨⟨?_, ?_, ?_, ?_⟩, ⟨?_, ?_⟩, fun i i0 i1 => ?_, fun i i0 i1 => ?_, fun i i0 i1 => ?_⟩, ⟨⟨?_, ?_, fun c c0 c1 => ?_⟩, ⟨?_, ?_, ?_⟩, ⟨?_, ?_, fun c c0 c1 => ?_, fun c c2 c0 c1 => ?_⟩, fun j j0 j1 => ?_, fun j j0 j1 => ?_⟩, ⟨⟨Or.inl ?_, ?_, fun z => ?_⟩, ⟨Or.inl ?_, ?_, fun z => ?_⟩⟩, ⟨⟨?_, fun k k0 k1 => ?_⟩, ?_, ⟨⟨?_, ?_⟩, ?_, ?_⟩, fun T T0 T1 => ?_⟩, ⟨Or.inl ?_, fun z => ?_⟩, ⟨?_, ?_, ?_⟩⟩
  · unfold TU; omega
  · unfold RC
    rw [g0 0 (by omega) (by omega) (by omega), g0 3 (by omega) (by omega) (by omega), g0 4 (by omega) (by omega) (by omega), g0 5 (by omega) (by omega) (by omega), g0 6 (by omega) (by omega) (by omega), u0, zf t (by omega), fh t (by omega) (by omega) (by omega), zf 26 (by omega), zf 27 (by omega), zf 32 (by omega), fh 26 (by omega) (by omega) (by omega), fh 27 (by omega) (by omega) (by omega), fh 32 (by omega) (by omega) (by omega), z38 0 (by omega), z38 1 (by omega), z38 21 (by omega), W01, W02, W1b 0 (by omega), W1b 8 (by omega), ff.2.1 0 (by omega), ff.2.1 8 (by omega), W21 2 (by omega) (by omega) (by omega), W21 4 (by omega) (by omega) (by omega), W21 5 (by omega) (by omega) (by omega), W21 6 (by omega) (by omega) (by omega), fh 21 (by omega) (by omega) (by omega)]
    exact ⟨⟨hR.1.1, rfl, rfl, hR.1.2.2.2⟩, ff.2.2, hR.2.1, hR.2.2.2⟩
  · unfold CB
    rw [n0, n6, n9, n4, d0, d1]
    exact ⟨by omega, by omega, by omega, gb, by omega, by omega⟩
  · unfold CA
    rw [n0, n6, n9, u1, u2, u3, u4, u5, u6, u7]
    refine ⟨fun i i0 i1 => ?_, LC_b S.1 D9 ok.2.1, LV_b S.2.1 D10 ok.2.2.1, LD_b S.2.2.1 D11 ok.2.2.2.1⟩
    have : i = 0 ∨ i = 1 := by omega
    rcases this with rfl | rfl
    · rw [D6]; exact hb.1
    · rw [D7]; exact hb.2
  · exact RM_e a2.1 (fun k hk => m38 k (by omega) (by omega) (by omega) (by omega) (by omega) (by omega) (by omega))
  · unfold MB
    rw [M30, M31, M32, M33, M11, M12]
    exact ⟨by omega, by omega, by omega, gb, by omega, by omega⟩
  · unfold MA
    rw [M30, M31, M32]
    refine ⟨fun i i0 i1 => ?_, LC_b S.1 M5 ok.2.1, LV_b S.2.1 M6 ok.2.2.1, LD_b S.2.2.1 M7 ok.2.2.2.1⟩
    have : i = 0 ∨ i = 1 := by omega
    rcases this with rfl | rfl
    · rw [M40]; exact hb.1
    · rw [M41]; exact hb.2
  · rw [z38 1 (by omega), W1b 0 (by omega), ff.2.1 0 (by omega)]; exact a3.1.1.1
  · rw [z38 1 (by omega), W1b 8 (by omega), ff.2.1 8 (by omega)]; exact a3.1.1.2
  · rw [z38 1 (by omega), W11]; omega
  · rw [z38 1 (by omega), W11]; omega
  · rw [z38 1 (by omega), W11] at i1; omega
  · rw [z38 1 (by omega), W11, M2 18 (by omega) (by omega) (by omega) (by omega) (by omega), hs_v, if_pos ⟨rfl, rfl⟩]
  · rw [zf 2 (by omega), fh 2 (by omega) (by omega) (by omega), a3.2.2, M1 48 (by omega)]
    funext b
    rw [hs_v, if_neg (by omega), fm.1 48 (by omega) (by omega), W1 48 (by omega) (by omega) (by omega) (by omega) (by omega) (by omega), fh 48 (by omega) (by omega) (by omega)]
  · rw [n0, M30]
  · rw [n6, M31]
  · rw [n9, M32]
  · rw [n4, M33]
  · rw [u4, D6, M40]
  · rw [u4, D7, M41]
  · rw [M30] at i1
    rw [u1, u2, u3]
    exact LC_q S.1 D9 M5 i i0 i1
  · rw [M31] at i1
    rw [u5, u6]
    exact LV_q S.2.1 D10 M6 i i0 i1
  · rw [M32] at i1
    rw [u7]
    exact LD_q S.2.2.1 D11 M7 i i0 i1
  · rw [d0, snap_0, M11]
  · rw [d1, snap_1, M12]
  · rw [z38 22 (by omega), W22 c c0 c1, snap_2 g2 c0, M46 c c0 c1]; rfl
  · rw [d3, M132]
  · rw [M132]; omega
  · rw [M132]; omega
  · rw [snap_0, M11]; omega
  · rw [snap_1, M12]; omega
  · rw [snap_2 g2 c0, M46 c c0 c1]; omega
  · rw [snap_2 g2 c0, M46 c c0 c1]
  · rw [M132] at j1; omega
  · rw [M132] at j1; omega
  · rw [z38 37 (by omega)]; exact W370
  · rw [z38 37 (by omega), W370]; exact M570
  · rw [z38 37 (by omega), W370] at z; omega
  · rw [z38 37 (by omega)]; exact W371
  · rw [z38 37 (by omega), W371]; exact M571
  · rw [z38 37 (by omega), W371] at z; omega
  · rw [M14]; omega
  · rw [M14] at k1; omega
  · rw [z38 0 (by omega), W07, M14]
  · rw [z38 0 (by omega), W08]; omega
  · rw [z38 0 (by omega), W08]; omega
  · rw [z38 0 (by omega), W09]; omega
  · rw [z38 0 (by omega), W09]; omega
  · unfold mSo
    rw [M14, z38 0 (by omega), W08, W09]
    exact ⟨fun _ => ⟨T0, T1⟩, fun _ => rfl⟩
  · rw [z38 20 (by omega)]; exact W20
  · rw [z38 20 (by omega), W20] at z; omega
  · rw [g0 10 (by omega) (by omega) (by omega), m38 16 (by omega) (by omega) (by omega) (by omega) (by omega) (by omega) (by omega)]; exact a9.1
  · rw [g0 10 (by omega) (by omega) (by omega)]; exact a9.2.1
  · exact a9.2.2
theorem p_wold {t u n : Int} {h : ms_H} (a : IV t u n h) : PR n h 35 108 [] := by
  intro Q hQ
  have hT := a.1.1
  unfold TU at hT
  have te := a.2.2.1
  refine c_wold a.1 te.1 (fun g r hg he => hQ _ _ (fun Q2 k => ?_)) (fun f g r S' hf he hw ho => hQ _ _ (fun Q2 k => ?_))
  · have e38 : g 38 = h 38 := hg.1 38 (by omega) (by omega) (by omega)
    have e48 : g 48 = h 48 := hg.1 48 (by omega) (by omega) (by omega)
    rw [te.2.1, te.2.2] at he
    refine m_wold (TM_of a.2.1 te e38 e48) (fun g2 r2 hg2 he2 => ?_) (fun f2 g2 r2 S2 hf2 he2 ok mo => ?_)
    · rw [e38, e48, he] at he2
      cases he2
      exact k _ ⟨t, u, IV_s (IV_fr (IV_w a hg) (fun z b q => by
        by_cases z1 : z = 38
        · rw [z1]; exact hg2.2 b (by omega)
        · rw [hg2.1 z z1 (by omega)]))⟩
    · rw [e38, e48, he] at he2
      cases he2
  · have e38 : g 38 = h 38 := by rw [ho.1 38 (by omega) (by omega) (by omega) (by omega) (by omega) (by omega), hf.1 38 (by omega) (by omega) (by omega)]
    have e48 : g 48 = h 48 := by rw [ho.1 48 (by omega) (by omega) (by omega) (by omega) (by omega) (by omega), hf.1 48 (by omega) (by omega) (by omega)]
    rw [te.2.1, te.2.2] at he
    refine m_wold (TM_of a.2.1 te e38 e48) (fun g2 r2 hg2 he2 => ?_) (fun f2 g2 r2 S2 hf2 he2 ok mo => ?_)
    · rw [e38, e48, he] at he2
      cases he2
    · rw [e38, e48, he] at he2
      cases he2
      exact k _ ⟨u, t, IV_s (IV_new a hf hw ho hf2 ok mo)⟩
