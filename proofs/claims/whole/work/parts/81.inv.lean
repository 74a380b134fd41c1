/-! What holds between the calls. -/
def EQ (t : Int) (h : ms_H) : Prop := (h t 0 = h 38 0 ∧ h t 6 = h 38 1 ∧ h t 9 = h 38 2 ∧ h t 4 = h 38 3) ∧ (h (t + 4) 0 = h 39 0 ∧ h (t + 4) 1 = h 39 1) ∧ (∀ i, 0 ≤ i → i < h 38 0 → h (t + 1) i = h 40 i ∧ h (t + 2) i = h 41 i ∧ h (t + 3) i = h 42 i) ∧ (∀ i, 0 ≤ i → i < h 38 1 → h (t + 5) i = h 43 i ∧ h (t + 6) i = h 44 i) ∧ (∀ i, 0 ≤ i → i < h 38 2 → h (t + 7) i = h 45 i)
def NP (h : ms_H) : Prop := NR (h 38 0) (h 21) (h 22) (h 23) (h 24) (h 25) (snap h) (h 38 32) (h 53)
def NI (h : ms_H) (im : Int) : Prop := (h 37 im = 0 ∨ h 37 im = 1) ∧ h 57 (112 * im) = h 37 im ∧ (h 37 im = 1 → NR (h 38 0) (h (27 + 5 * im)) (h (27 + 5 * im + 1)) (h (27 + 5 * im + 2)) (h (27 + 5 * im + 3)) (h (27 + 5 * im + 4)) (fun k => h 57 (112 * im + 2 + k)) (h 57 (112 * im + 1)) (fun b => h 57 (112 * im + 12 + b)))
def HD (h : ms_H) : Prop := HV h ∧ h 0 7 = h 38 14 ∧ ((0 ≤ h 0 8 ∧ h 0 8 ≤ 40) ∧ 0 ≤ h 0 9 ∧ h 0 9 ≤ 39) ∧ ∀ t, 0 ≤ t → t ≤ 39 → (mSo h t = 1 ↔ h 0 8 ≤ t ∧ t ≤ h 0 9)
def LK (t : Int) (h : ms_H) : Prop := (h 20 0 = 0 ∨ h 20 0 = 1) ∧ (h 20 0 = 1 → rd h = cL4 t h)
def TC (n : Int) (h : ms_H) : Prop := h 0 10 = h 38 16 ∧ (0 ≤ h 0 10 ∧ h 0 10 ≤ 100001 * n) ∧ 0 ≤ n
def TE (h : ms_H) : Prop := TX h ∧ h 1 1 = h 38 18 ∧ h 2 = h 48
def IV (t u n : Int) (h : ms_H) : Prop := CV t u h ∧ MV h ∧ TE h ∧ EQ t h ∧ NP h ∧ (NI h 0 ∧ NI h 1) ∧ HD h ∧ LK t h ∧ TC n h
def rTE (z b : Int) : Prop := (z = 1 ∧ (b = 0 ∨ b = 1 ∨ b = 8)) ∨ z = 2 ∨ (z = 38 ∧ b = 18) ∨ z = 48
def rEQ (t z b : Int) : Prop := (t ≤ z ∧ z ≤ t + 7) ∨ (z = 38 ∧ 0 ≤ b ∧ b ≤ 3) ∨ (39 ≤ z ∧ z ≤ 45)
def rNP (z b : Int) : Prop := (21 ≤ z ∧ z ≤ 25) ∨ (z = 38 ∧ (b = 0 ∨ b = 11 ∨ b = 12 ∨ b = 32)) ∨ z = 46 ∨ z = 53
def rNI (z b : Int) : Prop := z = 37 ∨ (27 ≤ z ∧ z ≤ 36) ∨ z = 57 ∨ (z = 38 ∧ b = 0)
def rHD (z b : Int) : Prop := (z = 0 ∧ 7 ≤ b ∧ b ≤ 9) ∨ (z = 38 ∧ (b = 0 ∨ b = 14)) ∨ z = 39 ∨ z = 40 ∨ z = 47
def rLK (t z _b : Int) : Prop := z = 20 ∨ z = t ∨ z = t + 2 ∨ z = t + 3
def rTC (z b : Int) : Prop := (z = 0 ∧ b = 10) ∨ (z = 38 ∧ b = 16)
def rMV (z b : Int) : Prop := (z = 38 ∧ ¬ mu b) ∨ (39 ≤ z ∧ z ≤ 45)
theorem TE_c {h h' : ms_H} (a : TE h) (e : ∀ z b, rTE z b → h' z b = h z b) : TE h' := by
  have e2 : h' 2 = h 2 := funext fun b => e 2 b (by unfold rTE; omega)
  have e48 : h' 48 = h 48 := funext fun b => e 48 b (by unfold rTE; omega)
  unfold TE TX at a ⊢
  rw [e 1 0 (by unfold rTE; omega), e 1 1 (by unfold rTE; omega), e 1 8 (by unfold rTE; omega), e 38 18 (by unfold rTE; omega), e2, e48]
  exact a
theorem EQ_c {t : Int} {h h' : ms_H} (a : EQ t h) (e : ∀ z b, rEQ t z b → h' z b = h z b) : EQ t h' := by
  have ez : ∀ z, (t ≤ z ∧ z ≤ t + 7) ∨ (39 ≤ z ∧ z ≤ 45) → h' z = h z := fun z hz => funext fun b => e z b (by unfold rEQ; omega)
  unfold EQ at a ⊢
  rw [ez t (by omega), ez (t + 1) (by omega), ez (t + 2) (by omega), ez (t + 3) (by omega), ez (t + 4) (by omega), ez (t + 5) (by omega), ez (t + 6) (by omega), ez (t + 7) (by omega), ez 39 (by omega), ez 40 (by omega), ez 41 (by omega), ez 42 (by omega), ez 43 (by omega), ez 44 (by omega), ez 45 (by omega), e 38 0 (by unfold rEQ; omega), e 38 1 (by unfold rEQ; omega), e 38 2 (by unfold rEQ; omega), e 38 3 (by unfold rEQ; omega)]
  exact a
theorem snap_c {h h' : ms_H} (e : h' 38 11 = h 38 11 ∧ h' 38 12 = h 38 12 ∧ h' 46 = h 46) : snap h' = snap h := by
  funext j
  unfold snap
  rw [e.1, e.2.1, e.2.2]
theorem NP_c {h h' : ms_H} (a : NP h) (e : ∀ z b, rNP z b → h' z b = h z b) : NP h' := by
  have ez : ∀ z, (21 ≤ z ∧ z ≤ 25) ∨ z = 46 ∨ z = 53 → h' z = h z := fun z hz => funext fun b => e z b (by unfold rNP; omega)
  unfold NP at a ⊢
  rw [snap_c ⟨e 38 11 (by unfold rNP; omega), e 38 12 (by unfold rNP; omega), ez 46 (by omega)⟩, ez 21 (by omega), ez 22 (by omega), ez 23 (by omega), ez 24 (by omega), ez 25 (by omega), ez 53 (by omega), e 38 0 (by unfold rNP; omega), e 38 32 (by unfold rNP; omega)]
  exact a
theorem NI_c {h h' : ms_H} {im : Int} (hi : im = 0 ∨ im = 1) (a : NI h im) (e : ∀ z b, rNI z b → h' z b = h z b) : NI h' im := by
  have ez : ∀ z, z = 37 ∨ (27 ≤ z ∧ z ≤ 36) ∨ z = 57 → h' z = h z := fun z hz => funext fun b => e z b (by unfold rNI; omega)
  unfold NI at a ⊢
  rw [ez 37 (by omega), ez (27 + 5 * im) (by omega), ez (27 + 5 * im + 1) (by omega), ez (27 + 5 * im + 2) (by omega), ez (27 + 5 * im + 3) (by omega), ez (27 + 5 * im + 4) (by omega), ez 57 (by omega), e 38 0 (by unfold rNI; omega)]
  exact a
theorem mSo_c {h h' : ms_H} (e1 : h' 38 14 = h 38 14) (e2 : h' 39 = h 39) (e3 : h' 40 = h 40) (e4 : h' 47 = h 47) : mSo h' = mSo h := by
  have key : ∀ (t : Int) (n : Nat), soI h' t n = soI h t n := fun t n => by
    induction n with
    | zero => rfl
    | succ n ih =>
      unfold soI syI
      rw [ih, e2, e3, e4]
  funext t
  unfold mSo
  rw [e1, key]
theorem HD_c {h h' : ms_H} (a : HD h) (e : ∀ z b, rHD z b → h' z b = h z b) : HD h' := by
  have ez : ∀ z, z = 39 ∨ z = 40 ∨ z = 47 → h' z = h z := fun z hz => funext fun b => e z b (by unfold rHD; omega)
  unfold HD HV at a ⊢
  rw [mSo_c (e 38 14 (by unfold rHD; omega)) (ez 39 (by omega)) (ez 40 (by omega)) (ez 47 (by omega)), ez 47 (by omega), e 38 14 (by unfold rHD; omega), e 38 0 (by unfold rHD; omega), e 0 7 (by unfold rHD; omega), e 0 8 (by unfold rHD; omega), e 0 9 (by unfold rHD; omega)]
  exact a
theorem LK_c {t : Int} {h h' : ms_H} (a : LK t h) (e : ∀ z b, rLK t z b → h' z b = h z b) : LK t h' := by
  have ez : ∀ z, z = 20 ∨ z = t ∨ z = t + 2 ∨ z = t + 3 → h' z = h z := fun z hz => funext fun b => e z b hz
  unfold LK rd cL4 cAH cAS at a ⊢
  rw [ez 20 (by omega), ez t (by omega), ez (t + 2) (by omega), ez (t + 3) (by omega)]
  exact a
theorem TC_c {n : Int} {h h' : ms_H} (a : TC n h) (e : ∀ z b, rTC z b → h' z b = h z b) : TC n h' := by
  unfold TC at a ⊢
  rw [e 0 10 (by unfold rTC; omega), e 38 16 (by unfold rTC; omega)]
  exact a
theorem TC_s {n : Int} {h : ms_H} (a : TC n h) : TC (n + 1) h := by
  unfold TC at a ⊢
  omega
theorem CV_c {t u : Int} {h h' : ms_H} (a : CV t u h) (e : ∀ z b, cvr z b ∨ (z = 21 ∧ (b = 0 ∨ b = 1)) → h' z b = h z b) : CV t u h' := by
  have hb := a.2.2.1
  unfold CB at hb
  refine CV_chg a (fun z b hz => e z b (Or.inl hz)) ?_ ?_
  · rw [e 21 0 (Or.inr (by omega))]; exact hb.2.2.2.2.1
  · rw [e 21 1 (Or.inr (by omega))]; exact hb.2.2.2.2.2
theorem MV_c {h h' : ms_H} (a : MV h) (e : ∀ z b, rMV z b ∨ (z = 38 ∧ (b = 11 ∨ b = 12)) → h' z b = h z b) : MV h' := by
  have hb := a.2.1
  unfold MB at hb
  refine MV_chg a (fun k hk => e 38 k (Or.inl (by unfold rMV; exact Or.inl ⟨rfl, hk⟩))) (fun z z0 z1 => funext fun b => e z b (Or.inl (by unfold rMV; omega))) ?_ ?_
  · rw [e 38 11 (Or.inr (by omega))]; exact hb.2.2.2.2.1
  · rw [e 38 12 (Or.inr (by omega))]; exact hb.2.2.2.2.2
theorem IV_s {t u n : Int} {h : ms_H} (a : IV t u n h) : IV t u (n + 1) h := by
  obtain ⟨a1, a2, a3, a4, a5, a6, a7, a8, a9⟩ := a
  exact ⟨a1, a2, a3, a4, a5, a6, a7, a8, TC_s a9⟩
/-- what no call's answer shows has changed -/
theorem IV_fr {t u n : Int} {h h' : ms_H} (a : IV t u n h) (e : ∀ z b, (z < 38 ∨ (z = 38 ∧ b ≠ 30 ∧ (b < 19 ∨ 25 < b)) ∨ (39 ≤ z ∧ z ≤ 48) ∨ z = 53 ∨ z = 57) → h' z b = h z b) : IV t u n h' := by
  obtain ⟨a1, a2, a3, a4, a5, a6, a7, a8, a9⟩ := a
  have hT := a1.1
  unfold TU at hT
  refine ⟨CV_c a1 (fun z b r => e z b (by unfold cvr at r; omega)), MV_c a2 (fun z b r => e z b (by unfold rMV mu at r; omega)), TE_c a3 (fun z b r => e z b (by unfold rTE at r; omega)), EQ_c a4 (fun z b r => e z b (by unfold rEQ at r; omega)), NP_c a5 (fun z b r => e z b (by unfold rNP at r; omega)), ⟨NI_c (Or.inl rfl) a6.1 (fun z b r => e z b (by unfold rNI at r; omega)), NI_c (Or.inr rfl) a6.2 (fun z b r => e z b (by unfold rNI at r; omega))⟩, HD_c a7 (fun z b r => e z b (by unfold rHD at r; omega)), LK_c a8 (fun z b r => e z b (by unfold rLK at r; omega)), TC_c a9 (fun z b r => e z b (by unfold rTC at r; omega))⟩
/-- what goes by and may be undone has changed -/
theorem IV_dyn {t u n : Int} {h h' : ms_H} (a : IV t u n h) (e : ∀ z b, ¬ (z = 21 ∧ (b = 0 ∨ b = 1 ∨ b = 3)) → ¬ (22 ≤ z ∧ z ≤ 25) → ¬ (z = 38 ∧ (b = 11 ∨ b = 12 ∨ b = 30 ∨ b = 32)) → z ≠ 46 → z ≠ 53 → h' z b = h z b) (np : NP h') : IV t u n h' := by
  obtain ⟨a1, a2, a3, a4, a5, a6, a7, a8, a9⟩ := a
  have hT := a1.1
  unfold TU at hT
  have ok := np.2.2.1
  have d0 := np.1.1
  have d1 := np.1.2.1
  have s0 : snap h' 0 = h' 38 11 := rfl
  have s1 : snap h' 1 = h' 38 12 := rfl
  rw [s0] at d0
  rw [s1] at d1
  have ok0 := ok.1
  have ok1 := ok.2.1
  rw [s0] at ok0
  rw [s1] at ok1
  refine ⟨CV_chg a1 (fun z b r => e z b (by unfold cvr at r; omega) (by unfold cvr at r; omega) (by unfold cvr at r; omega) (by unfold cvr at r; omega) (by unfold cvr at r; omega)) (by rw [d0]; exact ok0) (by rw [d1]; exact ok1), MV_chg a2 (fun k hk => e 38 k (by omega) (by omega) (by unfold mu at hk; omega) (by omega) (by omega)) (fun z z0 z1 => funext fun b => e z b (by omega) (by omega) (by omega) (by omega) (by omega)) ok0 ok1, TE_c a3 (fun z b r => e z b (by unfold rTE at r; omega) (by unfold rTE at r; omega) (by unfold rTE at r; omega) (by unfold rTE at r; omega) (by unfold rTE at r; omega)), EQ_c a4 (fun z b r => e z b (by unfold rEQ at r; omega) (by unfold rEQ at r; omega) (by unfold rEQ at r; omega) (by unfold rEQ at r; omega) (by unfold rEQ at r; omega)), np, ⟨NI_c (Or.inl rfl) a6.1 (fun z b r => e z b (by unfold rNI at r; omega) (by unfold rNI at r; omega) (by unfold rNI at r; omega) (by unfold rNI at r; omega) (by unfold rNI at r; omega)), NI_c (Or.inr rfl) a6.2 (fun z b r => e z b (by unfold rNI at r; omega) (by unfold rNI at r; omega) (by unfold rNI at r; omega) (by unfold rNI at r; omega) (by unfold rNI at r; omega))⟩, HD_c a7 (fun z b r => e z b (by unfold rHD at r; omega) (by unfold rHD at r; omega) (by unfold rHD at r; omega) (by unfold rHD at r; omega) (by unfold rHD at r; omega)), LK_c a8 (fun z b r => e z b (by unfold rLK at r; omega) (by unfold rLK at r; omega) (by unfold rLK at r; omega) (by unfold rLK at r; omega) (by unfold rLK at r; omega)), TC_c a9 (fun z b r => e z b (by unfold rTC at r; omega) (by unfold rTC at r; omega) (by unfold rTC at r; omega) (by unfold rTC at r; omega) (by unfold rTC at r; omega))⟩
/-! values are alike -/
section
variable {t u n : Int} {h : ms_H}
theorem v_W (a : IV t u n h) (d : Int) : sW (h t 9) (h (t + 7)) d = sW (h 38 2) (h 45) d := by
  obtain ⟨a1, a2, a3, a4, -⟩ := a
  unfold sW
  rw [a4.1.2.2.1]
  split
  · rfl
  · have hb := a2.2.1.2.2.1
    have := emod_b (a := d) (b := h 38 2) (by omega)
    exact a4.2.2.2.2 _ this.1 this.2
theorem v_now (a : IV t u n h) : h 21 0 = h 38 11 ∧ h 21 1 = h 38 12 ∧ h 21 3 = h 38 32 ∧ (0 ≤ h 38 32 ∧ h 38 32 ≤ 10) := by
  have np := a.2.2.2.2.1
  exact ⟨np.1.1, np.1.2.1, np.2.1.1, np.2.1.2⟩
theorem v_cW (a : IV t u n h) : cW t h = sW (h 38 2) (h 45) (h 38 11) := by
  unfold cW
  rw [v_W a, (v_now a).1]
theorem v_T (a : IV t u n h) : cT t h = mT h := by
  unfold cT mT
  rw [v_cW a, (v_now a).2.1]
theorem v_st (a : IV t u n h) : (∀ c, 0 ≤ c → c < 8 → h 22 c = sk (h 46 c)) ∧ (∀ c, 0 ≤ c → c < 8 → 0 ≤ h 46 c ∧ h 46 c ≤ 9) ∧ (∀ c, h 38 0 ≤ c → 0 ≤ c → c < 8 → h 46 c = 0) := by
  have np := a.2.2.2.2.1
  have e : ∀ c, 0 ≤ c → snap h (2 + c) = h 46 c := fun c c0 => by
    unfold snap
    rw [if_neg (by omega), if_neg (by omega)]
    congr 1
    omega
  refine ⟨fun c c0 c1 => ?_, fun c c0 c1 => ?_, fun c c2 c0 c1 => ?_⟩
  · rw [← e c c0]; exact np.1.2.2 c c0 c1
  · rw [← e c c0]; exact np.2.2.1.2.2.1 c c0 c1
  · rw [← e c c0]; exact np.2.2.1.2.2.2 c c2 c0 c1
theorem v_col (a : IV t u n h) {c : Int} (c0 : 0 ≤ c) (c1 : c < h 38 0) : h (t + 1) c = h 40 c ∧ h (t + 2) c = h 41 c ∧ h (t + 3) c = h 42 c := a.2.2.2.1.2.2.1 c c0 c1
theorem v_hand (a : IV t u n h) : h (t + 4) 0 = h 39 0 ∧ h (t + 4) 1 = h 39 1 := a.2.2.2.1.2.1
theorem v_n (a : IV t u n h) : h t 0 = h 38 0 ∧ h t 6 = h 38 1 ∧ h t 9 = h 38 2 ∧ h t 4 = h 38 3 := a.2.2.2.1.1
theorem v_H (a : IV t u n h) {c : Int} (c0 : 0 ≤ c) (c1 : c < h 38 0) : cH t h c = mH h c := by
  unfold cH mH
  rw [v_T a, (v_col a c0 c1).1, (v_hand a).1, (v_hand a).2]
theorem v_sn (a : IV t u n h) (T : Int) : sn (h (t + 1)) (h t 0).toNat T = sn (h 40) (h 38 0).toNat T := by
  rw [(v_n a).1]
  unfold sn
  have hb := a.2.1.2.1.1
  refine sm_c _ (fun i i0 i1 => ?_)
  rw [(v_col a i0 (by omega)).1]
end
