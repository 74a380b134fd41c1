/-! Both objects at one call: a text is told. -/
theorem LC_q {a b c a' b' c' : Int → Int} : ∀ (p : List (Int × Int × Int)), LC a b c p → LC a' b' c' p → ∀ i : Int, 0 ≤ i → i < p.length → a i = a' i ∧ b i = b' i ∧ c i = c' i
  | [], _, _, i, i0, i1 => by rw [List.length_nil] at i1; omega
  | x :: r, h, h', i, i0, i1 => by
    rw [List.length_cons, Int.natCast_succ] at i1
    by_cases e : i = r.length
    · rw [e, h.1.1, h.1.2.1, h.1.2.2, h'.1.1, h'.1.2.1, h'.1.2.2]; exact ⟨rfl, rfl, rfl⟩
    · exact LC_q r h.2 h'.2 i i0 (by omega)
theorem LV_q {a b a' b' : Int → Int} : ∀ (p : List (Int × Int)), LV a b p → LV a' b' p → ∀ i : Int, 0 ≤ i → i < p.length → a i = a' i ∧ b i = b' i
  | [], _, _, i, i0, i1 => by rw [List.length_nil] at i1; omega
  | x :: r, h, h', i, i0, i1 => by
    rw [List.length_cons, Int.natCast_succ] at i1
    by_cases e : i = r.length
    · rw [e, h.1.1, h.1.2, h'.1.1, h'.1.2]; exact ⟨rfl, rfl⟩
    · exact LV_q r h.2 h'.2 i i0 (by omega)
theorem LD_q {a a' : Int → Int} : ∀ (p : List Int), LD a p → LD a' p → ∀ i : Int, 0 ≤ i → i < p.length → a i = a' i
  | [], _, _, i, i0, i1 => by rw [List.length_nil] at i1; omega
  | x :: r, h, h', i, i0, i1 => by
    rw [List.length_cons, Int.natCast_succ] at i1
    by_cases e : i = r.length
    · rw [e, h.1, h'.1]
    · exact LD_q r h.2 h'.2 i i0 (by omega)
theorem LC_b {a b c : Int → Int} : ∀ (p : List (Int × Int × Int)), LC a b c p → (∀ x ∈ p, (0 ≤ x.1 ∧ x.1 ≤ 9) ∧ (0 ≤ x.2.1 ∧ x.2.1 ≤ 9) ∧ (0 ≤ x.2.2 ∧ x.2.2 ≤ 9)) → ∀ i : Int, 0 ≤ i → i < p.length → (0 ≤ a i ∧ a i ≤ 9) ∧ (0 ≤ b i ∧ b i ≤ 9) ∧ (0 ≤ c i ∧ c i ≤ 9)
  | [], _, _, i, i0, i1 => by rw [List.length_nil] at i1; omega
  | x :: r, h, o, i, i0, i1 => by
    rw [List.length_cons, Int.natCast_succ] at i1
    by_cases e : i = r.length
    · rw [e, h.1.1, h.1.2.1, h.1.2.2]; exact o x (List.mem_cons_self ..)
    · exact LC_b r h.2 (fun x hx => o x (List.mem_cons_of_mem _ hx)) i i0 (by omega)
theorem LV_b {a b : Int → Int} : ∀ (p : List (Int × Int)), LV a b p → (∀ x ∈ p, (1 ≤ x.1 ∧ x.1 ≤ 9) ∧ (0 ≤ x.2 ∧ x.2 ≤ 1)) → ∀ i : Int, 0 ≤ i → i < p.length → (1 ≤ a i ∧ a i ≤ 9) ∧ (0 ≤ b i ∧ b i ≤ 1)
  | [], _, _, i, i0, i1 => by rw [List.length_nil] at i1; omega
  | x :: r, h, o, i, i0, i1 => by
    rw [List.length_cons, Int.natCast_succ] at i1
    by_cases e : i = r.length
    · rw [e, h.1.1, h.1.2]; exact o x (List.mem_cons_self ..)
    · exact LV_b r h.2 (fun x hx => o x (List.mem_cons_of_mem _ hx)) i i0 (by omega)
theorem LD_b {a : Int → Int} : ∀ (p : List Int), LD a p → (∀ x ∈ p, 0 ≤ x ∧ x ≤ 30) → ∀ i : Int, 0 ≤ i → i < p.length → 0 ≤ a i ∧ a i ≤ 30
  | [], _, _, i, i0, i1 => by rw [List.length_nil] at i1; omega
  | x :: r, h, o, i, i0, i1 => by
    rw [List.length_cons, Int.natCast_succ] at i1
    by_cases e : i = r.length
    · rw [e, h.1]; exact o x (List.mem_cons_self ..)
    · exact LD_b r h.2 (fun x hx => o x (List.mem_cons_of_mem _ hx)) i i0 (by omega)
theorem hand_b {S : S5} (o : okS S) : (0 ≤ (S.2.2.2.2.getD (0, 3)).1 ∧ (S.2.2.2.2.getD (0, 3)).1 ≤ 9) ∧ (0 ≤ (S.2.2.2.2.getD (0, 3)).2 ∧ (S.2.2.2.2.getD (0, 3)).2 ≤ 9) := by
  have := o.2.2.2.2.2
  cases e : S.2.2.2.2 with
  | none => exact ⟨⟨by decide, by decide⟩, by decide, by decide⟩
  | some x => exact this x e
theorem gap_b {S : S5} (o : okS S) : 1 ≤ (if S.2.2.2.1 = 0 then 2 else S.2.2.2.1) ∧ (if S.2.2.2.1 = 0 then 2 else S.2.2.2.1) ≤ 6 := by
  have := o.2.2.2.2.1
  split <;> omega
theorem CV_w {t u : Int} {h g : ms_H} (a : CV t u h) (f : FW u h g) : CV t u g := by
  obtain ⟨a1, a2, a3, a4⟩ := a
  have hT := a1
  unfold TU at hT
  have e0 := f.1 0 (by omega) (by omega) (by omega)
  have et := f.1 t (by omega) (by omega) (by omega)
  have et1 := f.1 (t + 1) (by omega) (by omega) (by omega)
  have et2 := f.1 (t + 2) (by omega) (by omega) (by omega)
  have et3 := f.1 (t + 3) (by omega) (by omega) (by omega)
  have et4 := f.1 (t + 4) (by omega) (by omega) (by omega)
  have et5 := f.1 (t + 5) (by omega) (by omega) (by omega)
  have et6 := f.1 (t + 6) (by omega) (by omega) (by omega)
  have et7 := f.1 (t + 7) (by omega) (by omega) (by omega)
  have e21 := f.1 21 (by omega) (by omega) (by omega)
  have e26 := f.1 26 (by omega) (by omega) (by omega)
  have e27 := f.1 27 (by omega) (by omega) (by omega)
  have e32 := f.1 32 (by omega) (by omega) (by omega)
  have e10 := f.2.1 0 (by omega)
  have e18 := f.2.1 8 (by omega)
  refine ⟨a1, ?_, ?_, ?_⟩
  · unfold RC at a2 ⊢
    rw [e0, e10, e18, et, e21, e26, e27, e32]
    exact ⟨a2.1, a2.2.1, f.2.2, a2.2.2.2⟩
  · unfold CB at a3 ⊢
    rw [et, e21]
    exact a3
  · unfold CA at a4 ⊢
    rw [et, et1, et2, et3, et4, et5, et6, et7]
    exact a4
theorem IV_w {t u n : Int} {h g : ms_H} (a : IV t u n h) (f : FW u h g) : IV t u n g := by
  obtain ⟨a1, a2, a3, a4, a5, a6, a7, a8, a9⟩ := a
  have hT := a1.1
  unfold TU at hT
  have e : ∀ z b, ((z = 1 ∧ (b < 2 ∨ 7 < b)) ∨ (z ≠ 1 ∧ z ≠ 3 ∧ (z < u ∨ u + 7 < z))) → g z b = h z b := fun z b r => by
    rcases r with ⟨r1, r2⟩ | ⟨r1, r2, r3⟩
    · rw [r1]; exact f.2.1 b r2
    · rw [f.1 z r1 r2 r3]
  exact ⟨CV_w a1 f, MV_c a2 (fun z b r => e z b (by unfold rMV at r; omega)), TE_c a3 (fun z b r => e z b (by unfold rTE at r; omega)), EQ_c a4 (fun z b r => e z b (by unfold rEQ at r; omega)), NP_c a5 (fun z b r => e z b (by unfold rNP at r; omega)), ⟨NI_c (Or.inl rfl) a6.1 (fun z b r => e z b (by unfold rNI at r; omega)), NI_c (Or.inr rfl) a6.2 (fun z b r => e z b (by unfold rNI at r; omega))⟩, HD_c a7 (fun z b r => e z b (by unfold rHD at r; omega)), LK_c a8 (fun z b r => e z b (by unfold rLK at r; omega)), TC_c a9 (fun z b r => e z b (by unfold rTC at r; omega))⟩
theorem TM_of {h g : ms_H} (hm : MV h) (te : TE h) (e38 : g 38 = h 38) (e48 : g 48 = h 48) : TM g := by
  refine ⟨RM_e hm.1 (fun k _ => by rw [e38]), ?_⟩
  rw [e38, e48, ← te.2.1, ← te.2.2]
  exact te.1.2
/-- the cells behind a text that is told -/
theorem nw_z {t u : Int} {h f g f2 g2 : ms_H} (hT : TU t u) (ff : FW u h f) (wo : WO t u f g) (fm : FM g f2) (m1 : ∀ z, z < 38 ∨ (47 ≤ z ∧ z ≠ 57) → g2 z = hs f2 38 18 0 z) (m2 : ∀ k, 4 ≤ k → k ≠ 11 → k ≠ 12 → k ≠ 14 → k ≠ 32 → g2 38 k = hs f2 38 18 0 38 k) :
  (∀ z, z < 38 → g2 z = g z) ∧ (∀ z, (4 ≤ z ∧ z < 20) ∨ z = 2 ∨ (23 ≤ z ∧ z < 37) → g2 z = f z) ∧ (∀ z, (20 ≤ z ∨ z = 0 ∨ z = 2 ∨ z = t) → f z = h z) ∧ (∀ k, 4 ≤ k → k ≠ 11 → k ≠ 12 → k ≠ 14 → k ≠ 32 → k ≠ 18 → (k < 19 ∨ 25 < k) → g2 38 k = h 38 k) ∧ (∀ b, b ≠ 1 → b ≠ 2 → (b < 7 ∨ 9 < b) → g2 0 b = h 0 b) ∧ (g2 u = f u ∧ g2 (u + 1) = f (u + 1) ∧ g2 (u + 2) = f (u + 2) ∧ g2 (u + 3) = f (u + 3) ∧ g2 (u + 4) = f (u + 4) ∧ g2 (u + 5) = f (u + 5) ∧ g2 (u + 6) = f (u + 6) ∧ g2 (u + 7) = f (u + 7)) ∧ g2 t = h t ∧ g2 48 = h 48 ∧ g2 38 18 = 0 := by
  have hT' := hT
  unfold TU at hT'
  have W1 := wo.1
  have W0 := wo.2.1.2.2.2.2.2
  have z38 : ∀ z, z < 38 → g2 z = g z := fun z hz => by
    rw [m1 z (Or.inl hz)]
    funext b
    rw [hs_v, if_neg (by omega), fm.1 z (by omega) (by omega)]
  have zf : ∀ z, (4 ≤ z ∧ z < 20) ∨ z = 2 ∨ (23 ≤ z ∧ z < 37) → g2 z = f z := fun z hz => by rw [z38 z (by omega), W1 z (by omega) (by omega) (by omega) (by omega) (by omega) (by omega)]
  have fh : ∀ z, (20 ≤ z ∨ z = 0 ∨ z = 2 ∨ z = t) → f z = h z := fun z hz => ff.1 z (by omega) (by omega) (by omega)
  refine ⟨z38, zf, fh, fun k k0 k1 k2 k3 k4 k5 k6 => ?_, fun b b1 b2 b3 => ?_, ⟨zf _ (by omega), zf _ (by omega), zf _ (by omega), zf _ (by omega), zf _ (by omega), zf _ (by omega), zf _ (by omega), zf _ (by omega)⟩, ?_, ?_, ?_⟩
  · rw [m2 k k0 k1 k2 k3 k4, hs_v, if_neg (by omega), fm.2 k k6, W1 38 (by omega) (by omega) (by omega) (by omega) (by omega) (by omega), fh 38 (by omega)]
  · rw [z38 0 (by omega), W0 b b1 b2 b3, fh 0 (by omega)]
  · rw [zf t (by omega), fh t (by omega)]
  · rw [m1 48 (by omega)]
    funext b
    rw [hs_v, if_neg (by omega), fm.1 48 (by omega) (by omega), W1 48 (by omega) (by omega) (by omega) (by omega) (by omega) (by omega), fh 48 (by omega)]
  · rw [m2 18 (by omega) (by omega) (by omega) (by omega) (by omega), hs_v, if_pos ⟨rfl, rfl⟩]
theorem nw_CV {t u : Int} {h f g g2 : ms_H} {S : S5} (a : CV t u h) (ff : FW u h f) (wd : WD u f S) (wo : WO t u f g) (ok : okS S) (z38 : ∀ z, z < 38 → g2 z = g z) (zf : ∀ z, (4 ≤ z ∧ z < 20) ∨ z = 2 ∨ (23 ≤ z ∧ z < 37) → g2 z = f z) (fh : ∀ z, (20 ≤ z ∨ z = 0 ∨ z = 2 ∨ z = t) → f z = h z) (g0 : ∀ b, b ≠ 1 → b ≠ 2 → (b < 7 ∨ 9 < b) → g2 0 b = h 0 b) (uu : g2 u = f u ∧ g2 (u + 1) = f (u + 1) ∧ g2 (u + 2) = f (u + 2) ∧ g2 (u + 3) = f (u + 3) ∧ g2 (u + 4) = f (u + 4) ∧ g2 (u + 5) = f (u + 5) ∧ g2 (u + 6) = f (u + 6) ∧ g2 (u + 7) = f (u + 7)) (tt : g2 t = h t) : CV u t g2 := by
  have hR := a.2.1
  refine ⟨?_, ⟨⟨?_, ?_, ?_, ?_, ?_, ?_, ?_, ?_, ?_⟩, ?_, ?_, ⟨?_, ?_, ?_, ?_⟩, ?_, ?_, ?_⟩, ?_, ?_⟩
  · have := a.1
    unfold TU at this ⊢
    omega
  · rw [g0 0 (by decide) (by decide) (by decide)]; exact hR.1.1
  · rw [z38 0 (by decide)]; exact wo.2.1.1
  · rw [z38 0 (by decide)]; exact wo.2.1.2.1
  · rw [g0 3 (by decide) (by decide) (by decide)]; exact hR.1.2.2.2.1
  · rw [g0 4 (by decide) (by decide) (by decide)]; exact hR.1.2.2.2.2.1
  · rw [g0 5 (by decide) (by decide) (by decide)]; exact hR.1.2.2.2.2.2.1
  · rw [g0 6 (by decide) (by decide) (by decide)]; exact hR.1.2.2.2.2.2.2.1
  · rw [z38 1 (by decide), wo.2.2.1.2 0 (by decide), ff.2.1 0 (by decide)]; exact hR.1.2.2.2.2.2.2.2.1
  · rw [z38 1 (by decide), wo.2.2.1.2 8 (by decide), ff.2.1 8 (by decide)]; exact hR.1.2.2.2.2.2.2.2.2
  · rw [uu.1]; exact ff.2.2
  · rw [tt]; exact hR.2.1
  · rw [z38 21 (by decide), wo.2.2.2.2.1.2.2.2 2 (by decide) (by decide) (by decide), fh 21 (by omega)]; exact hR.2.2.2.1.1
  · rw [z38 21 (by decide), wo.2.2.2.2.1.2.2.2 4 (by decide) (by decide) (by decide), fh 21 (by omega)]; exact hR.2.2.2.1.2.1
  · rw [z38 21 (by decide), wo.2.2.2.2.1.2.2.2 5 (by decide) (by decide) (by decide), fh 21 (by omega)]; exact hR.2.2.2.1.2.2.1
  · rw [z38 21 (by decide), wo.2.2.2.2.1.2.2.2 6 (by decide) (by decide) (by decide), fh 21 (by omega)]; exact hR.2.2.2.1.2.2.2
  · rw [zf 27 (by decide), fh 27 (by omega)]; exact hR.2.2.2.2.1
  · rw [zf 32 (by decide), fh 32 (by omega)]; exact hR.2.2.2.2.2.1
  · rw [zf 26 (by decide), fh 26 (by omega)]; exact hR.2.2.2.2.2.2
  · have l1 := ok.1
    have gb := gap_b ok
    unfold CB
    rw [uu.1, wd.1.1, wd.1.2.1, wd.1.2.2, wd.2.1.1, z38 21 (by decide), wo.2.2.2.2.1.1, wo.2.2.2.2.1.2.1]
    exact ⟨by omega, by omega, by omega, gb, by decide, by decide⟩
  · unfold CA
    rw [uu.1, wd.1.1, wd.1.2.1, wd.1.2.2, uu.2.1, uu.2.2.1, uu.2.2.2.1, uu.2.2.2.2.1, uu.2.2.2.2.2.1, uu.2.2.2.2.2.2.1, uu.2.2.2.2.2.2.2]
    refine ⟨fun i i0 i1 => ?_, LC_b S.1 wd.2.2.2.1 ok.2.1, LV_b S.2.1 wd.2.2.2.2.1 ok.2.2.1, LD_b S.2.2.1 wd.2.2.2.2.2 ok.2.2.2.1⟩
    have : i = 0 ∨ i = 1 := by omega
    rcases this with rfl | rfl
    · rw [wd.2.2.1.1]; exact (hand_b ok).1
    · rw [wd.2.2.1.2.1]; exact (hand_b ok).2
theorem nw_MV {h f2 g2 : ms_H} {S : S5} (a : MV h) (ok : okS S) (mo : MO f2 g2 S) (m38 : ∀ k, 4 ≤ k → k ≠ 11 → k ≠ 12 → k ≠ 14 → k ≠ 32 → k ≠ 18 → (k < 19 ∨ 25 < k) → g2 38 k = h 38 k) : MV g2 := by
  refine ⟨RM_e a.1 (fun k hk => m38 k (by omega) (by omega) (by omega) (by omega) (by omega) (by omega) (by omega)), ?_, ?_⟩
  · have l1 := ok.1
    have gb := gap_b ok
    unfold MB
    rw [mo.2.2.1.1, mo.2.2.1.2.1, mo.2.2.1.2.2.1, mo.2.2.1.2.2.2, mo.2.2.2.2.2.1.1, mo.2.2.2.2.2.1.2.1]
    exact ⟨by omega, by omega, by omega, gb, by decide, by decide⟩
  · unfold MA
    rw [mo.2.2.1.1, mo.2.2.1.2.1, mo.2.2.1.2.2.1]
    refine ⟨fun i i0 i1 => ?_, LC_b S.1 mo.2.2.2.2.1.1 ok.2.1, LV_b S.2.1 mo.2.2.2.2.1.2.1 ok.2.2.1, LD_b S.2.2.1 mo.2.2.2.2.1.2.2 ok.2.2.2.1⟩
    have : i = 0 ∨ i = 1 := by omega
    rcases this with rfl | rfl
    · rw [mo.2.2.2.1.1]; exact (hand_b ok).1
    · rw [mo.2.2.2.1.2]; exact (hand_b ok).2
theorem nw_EQ {u : Int} {f f2 g2 : ms_H} {S : S5} (wd : WD u f S) (mo : MO f2 g2 S) (uu : g2 u = f u ∧ g2 (u + 1) = f (u + 1) ∧ g2 (u + 2) = f (u + 2) ∧ g2 (u + 3) = f (u + 3) ∧ g2 (u + 4) = f (u + 4) ∧ g2 (u + 5) = f (u + 5) ∧ g2 (u + 6) = f (u + 6) ∧ g2 (u + 7) = f (u + 7)) : EQ u g2 := by
  unfold EQ
  rw [uu.1, wd.1.1, wd.1.2.1, wd.1.2.2, wd.2.1.1, uu.2.1, uu.2.2.1, uu.2.2.2.1, uu.2.2.2.2.1, uu.2.2.2.2.2.1, uu.2.2.2.2.2.2.1, uu.2.2.2.2.2.2.2, mo.2.2.1.1, mo.2.2.1.2.1, mo.2.2.1.2.2.1, mo.2.2.1.2.2.2, wd.2.2.1.1, wd.2.2.1.2.1, mo.2.2.2.1.1, mo.2.2.2.1.2]
  exact ⟨⟨rfl, rfl, rfl, rfl⟩, ⟨rfl, rfl⟩, fun i i0 i1 => LC_q S.1 wd.2.2.2.1 mo.2.2.2.2.1.1 i i0 i1, fun i i0 i1 => LV_q S.2.1 wd.2.2.2.2.1 mo.2.2.2.2.1.2.1 i i0 i1, fun i i0 i1 => LD_q S.2.2.1 wd.2.2.2.2.2 mo.2.2.2.2.1.2.2 i i0 i1⟩
theorem nw_NP {g2 : ms_H} (d0 : g2 21 0 = 0) (d1 : g2 21 1 = 0) (d3 : g2 21 3 = 0) (s22 : ∀ c, 0 ≤ c → c < 8 → g2 22 c = -9) (m11 : g2 38 11 = 0) (m12 : g2 38 12 = 0) (m32 : g2 38 32 = 0) (m46 : ∀ i, 0 ≤ i → i < 8 → g2 46 i = 0) : NP g2 := by
  refine ⟨⟨?_, ?_, fun c c0 c1 => ?_⟩, ⟨?_, ?_, ?_⟩, ⟨?_, ?_, fun c c0 c1 => ?_, fun c c2 c0 c1 => ?_⟩, fun j j0 j1 => ?_, fun j j0 j1 => ?_⟩
  · rw [d0, snap_0, m11]
  · rw [d1, snap_1, m12]
  · rw [s22 c c0 c1, snap_2 g2 c0, m46 c c0 c1]; rfl
  · rw [d3, m32]
  · rw [m32]; omega
  · rw [m32]; omega
  · rw [snap_0, m11]; omega
  · rw [snap_1, m12]; omega
  · rw [snap_2 g2 c0, m46 c c0 c1]; omega
  · rw [snap_2 g2 c0, m46 c c0 c1]
  · rw [m32] at j1; omega
  · rw [m32] at j1; omega
theorem nw_NI {g2 : ms_H} {im : Int} (e : g2 37 im = 0) (m : g2 57 (112 * im) = 0) : NI g2 im := by
  refine ⟨Or.inl e, by rw [e, m], fun z => ?_⟩
  rw [e] at z
  omega
theorem nw_HD {g2 : ms_H} (e7 : g2 0 7 = 0) (e8 : g2 0 8 = 0) (e9 : g2 0 9 = 39) (m14 : g2 38 14 = 0) : HD g2 := by
  unfold HD HV mSo
  rw [e7, e8, e9, m14]
  exact ⟨⟨by omega, fun k k0 k1 => by omega⟩, rfl, by omega, fun T T0 T1 => ⟨fun _ => ⟨T0, T1⟩, fun _ => rfl⟩⟩
theorem nw_TE {g2 : ms_H} (e10 : g2 1 0 = 2) (e18 : g2 1 8 = 3) (e11 : g2 1 1 = 0) (m18 : g2 38 18 = 0) (e2 : g2 2 = g2 48) : TE g2 := by
  refine ⟨⟨⟨e10, e18⟩, ⟨by rw [e11]; omega, by rw [e11]; omega⟩, fun i i0 i1 => ?_⟩, by rw [e11, m18], e2⟩
  rw [e11] at i1
  omega
/-- the state behind a text that is told -/
theorem IV_new {t u n : Int} {h f g f2 g2 : ms_H} {S : S5} (a : IV t u n h) (ff : FW u h f) (wd : WD u f S) (wo : WO t u f g) (fm : FM g f2) (ok : okS S) (mo : MO (hs f2 38 18 0) g2 S) : IV u t n g2 := by
  obtain ⟨a1, a2, a3, a4, a5, a6, a7, a8, a9⟩ := a
  obtain ⟨z38, zf, fh, m38, g0, uu, tt, e48, m18⟩ := nw_z a1.1 ff wo fm mo.1 mo.2.1
  have e1 := z38 1 (by decide)
  have e21 := z38 21 (by decide)
  have e37 := z38 37 (by decide)
  have e0 := z38 0 (by decide)
  have mz := mo.2.2.2.2.2.1
  refine ⟨nw_CV a1 ff wd wo ok z38 zf fh g0 uu tt, nw_MV a2 ok mo m38, nw_TE ?_ ?_ ?_ m18 ?_, nw_EQ wd mo uu, nw_NP ?_ ?_ ?_ (fun c c0 c1 => ?_) mz.1 mz.2.1 mz.2.2.2 mo.2.2.2.2.2.2.1, ⟨nw_NI ?_ ?_, nw_NI ?_ ?_⟩, nw_HD ?_ ?_ ?_ mz.2.2.1, ⟨Or.inl ?_, fun z => ?_⟩, ⟨?_, ?_, a9.2.2⟩⟩
  · rw [e1, wo.2.2.1.2 0 (by decide), ff.2.1 0 (by decide)]; exact a3.1.1.1
  · rw [e1, wo.2.2.1.2 8 (by decide), ff.2.1 8 (by decide)]; exact a3.1.1.2
  · rw [e1]; exact wo.2.2.1.1
  · rw [zf 2 (by decide), fh 2 (Or.inr (Or.inr (Or.inl rfl))), e48]; exact a3.2.2
  · rw [e21]; exact wo.2.2.2.2.1.1
  · rw [e21]; exact wo.2.2.2.2.1.2.1
  · rw [e21]; exact wo.2.2.2.2.1.2.2.1
  · rw [z38 22 (by decide)]; exact wo.2.2.2.2.2.1 c c0 c1
  · rw [e37]; exact wo.2.2.2.2.2.2.1
  · exact mo.2.2.2.2.2.2.2.1
  · rw [e37]; exact wo.2.2.2.2.2.2.2
  · exact mo.2.2.2.2.2.2.2.2
  · rw [e0]; exact wo.2.1.2.2.1
  · rw [e0]; exact wo.2.1.2.2.2.1
  · rw [e0]; exact wo.2.1.2.2.2.2.1
  · rw [z38 20 (by decide)]; exact wo.2.2.2.1
  · rw [z38 20 (by decide), wo.2.2.2.1] at z
    exact absurd z (by decide)
  · rw [g0 10 (by decide) (by decide) (by decide), m38 16 (by decide) (by decide) (by decide) (by decide) (by decide) (by decide) (by decide)]; exact a9.1
  · rw [g0 10 (by decide) (by decide) (by decide)]; exact a9.2.1
theorem p_wold {t u n : Int} {h : ms_H} (a : IV t u n h) : PR n h 35 108 [] := by
  intro Q hQ
  have hT := a.1.1
  unfold TU at hT
  have te := a.2.2.1
  refine c_wold a.1 te.1 (fun g r hg he => hQ _ _ (fun Q2 k => ?_)) (fun f g r S' hf he hw ho => hQ _ _ (fun Q2 k => ?_))
  · have e38 : g 38 = h 38 := hg.1 38 (by omega) (by omega) (by omega)
    have e48 : g 48 = h 48 := hg.1 48 (by omega) (by omega) (by omega)
    rw [te.2.1, te.2.2] at he
    refine m_wold (TM_of a.2.1 te e38 e48) (fun g2 r2 hg2 he2 => ?_) (fun f2 g2 r2 S2 hf2 he2 ok mo => ?_)
    · rw [e38, e48, he] at he2
      cases he2
      exact k _ ⟨t, u, IV_s (IV_fr (IV_w a hg) (fun z b q => by
        by_cases z1 : z = 38
        · rw [z1]; exact hg2.2 b (by omega)
        · rw [hg2.1 z z1 (by omega)]))⟩
    · rw [e38, e48, he] at he2
      cases he2
  · have e38 : g 38 = h 38 := by rw [ho.1 38 (by omega) (by omega) (by omega) (by omega) (by omega) (by omega), hf.1 38 (by omega) (by omega) (by omega)]
    have e48 : g 48 = h 48 := by rw [ho.1 48 (by omega) (by omega) (by omega) (by omega) (by omega) (by omega), hf.1 48 (by omega) (by omega) (by omega)]
    rw [te.2.1, te.2.2] at he
    refine m_wold (TM_of a.2.1 te e38 e48) (fun g2 r2 hg2 he2 => ?_) (fun f2 g2 r2 S2 hf2 he2 ok mo => ?_)
    · rw [e38, e48, he] at he2
      cases he2
    · rw [e38, e48, he] at he2
      cases he2
      exact k _ ⟨u, t, IV_s (IV_new a hf hw ho hf2 ok mo)⟩
