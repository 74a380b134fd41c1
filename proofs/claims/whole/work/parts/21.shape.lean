/-! The shapes of all cells once both objects are made (wip/whole/shape.py). -/
def SH : ms_S := [(4, 11), (2, 9), (10, 140), (10, 3), (3, 11), (10, 8), (10, 8), (10, 8), (10, 2), (10, 6), (10, 6), (10, 8), (3, 11), (10, 8), (10, 8), (10, 8), (10, 2), (10, 6), (10, 6), (10, 8), (0, 7), (1, 7), (10, 8), (10, 10), (10, 10), (10, 10), (12, 2), (1, 7), (10, 8), (10, 10), (10, 10), (10, 10), (1, 7), (10, 8), (10, 10), (10, 10), (10, 10), (11, 2), (5, 37), (10, 2), (10, 8), (10, 8), (10, 8), (10, 6), (10, 6), (10, 8), (10, 8), (10, 24), (10, 140), (10, 24), (10, 12), (10, 8), (10, 2), (10, 100), (10, 8), (10, 19), (10, 19), (10, 224)]
theorem sh_b : ms_ob SH 0 4 ∧ ms_ob SH 1 2 ∧ ms_ob SH 4 3 ∧ ms_ob SH 12 3 ∧ ms_ob SH 20 0 ∧ ms_ob SH 21 1 ∧ ms_ob SH 27 1 ∧ ms_ob SH 32 1 ∧ ms_ob SH 38 5 := ⟨rfl, rfl, rfl, rfl, rfl, rfl, rfl, rfl, rfl⟩
theorem sh_n : ms_sh SH 2 = some (10, 140) ∧ ms_sh SH 3 = some (10, 3) ∧ ms_sh SH 5 = some (10, 8) ∧ ms_sh SH 6 = some (10, 8) ∧ ms_sh SH 7 = some (10, 8) ∧ ms_sh SH 8 = some (10, 2) ∧ ms_sh SH 9 = some (10, 6) ∧ ms_sh SH 10 = some (10, 6) ∧ ms_sh SH 11 = some (10, 8) ∧ ms_sh SH 13 = some (10, 8) ∧ ms_sh SH 14 = some (10, 8) ∧ ms_sh SH 15 = some (10, 8) ∧ ms_sh SH 16 = some (10, 2) ∧ ms_sh SH 17 = some (10, 6) ∧ ms_sh SH 18 = some (10, 6) ∧ ms_sh SH 19 = some (10, 8) ∧ ms_sh SH 22 = some (10, 8) ∧ ms_sh SH 23 = some (10, 10) ∧ ms_sh SH 24 = some (10, 10) ∧ ms_sh SH 25 = some (10, 10) ∧ ms_sh SH 26 = some (12, 2) ∧ ms_sh SH 28 = some (10, 8) ∧ ms_sh SH 29 = some (10, 10) ∧ ms_sh SH 30 = some (10, 10) ∧ ms_sh SH 31 = some (10, 10) ∧ ms_sh SH 33 = some (10, 8) ∧ ms_sh SH 34 = some (10, 10) ∧ ms_sh SH 35 = some (10, 10) ∧ ms_sh SH 36 = some (10, 10) ∧ ms_sh SH 37 = some (11, 2) ∧ ms_sh SH 39 = some (10, 2) ∧ ms_sh SH 40 = some (10, 8) ∧ ms_sh SH 41 = some (10, 8) ∧ ms_sh SH 42 = some (10, 8) ∧ ms_sh SH 43 = some (10, 6) ∧ ms_sh SH 44 = some (10, 6) ∧ ms_sh SH 45 = some (10, 8) ∧ ms_sh SH 46 = some (10, 8) ∧ ms_sh SH 47 = some (10, 24) ∧ ms_sh SH 48 = some (10, 140) ∧ ms_sh SH 49 = some (10, 24) ∧ ms_sh SH 50 = some (10, 12) ∧ ms_sh SH 51 = some (10, 8) ∧ ms_sh SH 52 = some (10, 2) ∧ ms_sh SH 53 = some (10, 100) ∧ ms_sh SH 54 = some (10, 8) ∧ ms_sh SH 55 = some (10, 19) ∧ ms_sh SH 56 = some (10, 19) ∧ ms_sh SH 57 = some (10, 224) := ⟨rfl, rfl, rfl, rfl, rfl, rfl, rfl, rfl, rfl, rfl, rfl, rfl, rfl, rfl, rfl, rfl, rfl, rfl, rfl, rfl, rfl, rfl, rfl, rfl, rfl, rfl, rfl, rfl, rfl, rfl, rfl, rfl, rfl, rfl, rfl, rfl, rfl, rfl, rfl, rfl, rfl, rfl, rfl, rfl, rfl, rfl, rfl, rfl, rfl⟩
theorem ms_ar_of {S : ms_S} {z : Int} {kd n : Nat} {N : Int} (h : ms_sh S z = some (kd, n)) (hn : (n : Int) = N) (i : Int) (k : Prop) : ms_ar S z kd i k = (0 ≤ i ∧ i < N ∧ k) := by
  subst hn
  unfold ms_ar
  rw [h]
  apply propext
  constructor
  · rintro ⟨n, h1, h2⟩
    cases h1
    exact h2
  · exact fun q => ⟨_, rfl, q⟩
theorem ar_2 (i : Int) (k : Prop) : ms_ar SH 2 10 i k = (0 ≤ i ∧ i < 140 ∧ k) := ms_ar_of (n := 140) rfl rfl i k
theorem ar_3 (i : Int) (k : Prop) : ms_ar SH 3 10 i k = (0 ≤ i ∧ i < 3 ∧ k) := ms_ar_of (n := 3) rfl rfl i k
theorem ar_5 (i : Int) (k : Prop) : ms_ar SH 5 10 i k = (0 ≤ i ∧ i < 8 ∧ k) := ms_ar_of (n := 8) rfl rfl i k
theorem ar_6 (i : Int) (k : Prop) : ms_ar SH 6 10 i k = (0 ≤ i ∧ i < 8 ∧ k) := ms_ar_of (n := 8) rfl rfl i k
theorem ar_7 (i : Int) (k : Prop) : ms_ar SH 7 10 i k = (0 ≤ i ∧ i < 8 ∧ k) := ms_ar_of (n := 8) rfl rfl i k
theorem ar_8 (i : Int) (k : Prop) : ms_ar SH 8 10 i k = (0 ≤ i ∧ i < 2 ∧ k) := ms_ar_of (n := 2) rfl rfl i k
theorem ar_9 (i : Int) (k : Prop) : ms_ar SH 9 10 i k = (0 ≤ i ∧ i < 6 ∧ k) := ms_ar_of (n := 6) rfl rfl i k
theorem ar_10 (i : Int) (k : Prop) : ms_ar SH 10 10 i k = (0 ≤ i ∧ i < 6 ∧ k) := ms_ar_of (n := 6) rfl rfl i k
theorem ar_11 (i : Int) (k : Prop) : ms_ar SH 11 10 i k = (0 ≤ i ∧ i < 8 ∧ k) := ms_ar_of (n := 8) rfl rfl i k
theorem ar_13 (i : Int) (k : Prop) : ms_ar SH 13 10 i k = (0 ≤ i ∧ i < 8 ∧ k) := ms_ar_of (n := 8) rfl rfl i k
theorem ar_14 (i : Int) (k : Prop) : ms_ar SH 14 10 i k = (0 ≤ i ∧ i < 8 ∧ k) := ms_ar_of (n := 8) rfl rfl i k
theorem ar_15 (i : Int) (k : Prop) : ms_ar SH 15 10 i k = (0 ≤ i ∧ i < 8 ∧ k) := ms_ar_of (n := 8) rfl rfl i k
theorem ar_16 (i : Int) (k : Prop) : ms_ar SH 16 10 i k = (0 ≤ i ∧ i < 2 ∧ k) := ms_ar_of (n := 2) rfl rfl i k
theorem ar_17 (i : Int) (k : Prop) : ms_ar SH 17 10 i k = (0 ≤ i ∧ i < 6 ∧ k) := ms_ar_of (n := 6) rfl rfl i k
theorem ar_18 (i : Int) (k : Prop) : ms_ar SH 18 10 i k = (0 ≤ i ∧ i < 6 ∧ k) := ms_ar_of (n := 6) rfl rfl i k
theorem ar_19 (i : Int) (k : Prop) : ms_ar SH 19 10 i k = (0 ≤ i ∧ i < 8 ∧ k) := ms_ar_of (n := 8) rfl rfl i k
theorem ar_22 (i : Int) (k : Prop) : ms_ar SH 22 10 i k = (0 ≤ i ∧ i < 8 ∧ k) := ms_ar_of (n := 8) rfl rfl i k
theorem ar_23 (i : Int) (k : Prop) : ms_ar SH 23 10 i k = (0 ≤ i ∧ i < 10 ∧ k) := ms_ar_of (n := 10) rfl rfl i k
theorem ar_24 (i : Int) (k : Prop) : ms_ar SH 24 10 i k = (0 ≤ i ∧ i < 10 ∧ k) := ms_ar_of (n := 10) rfl rfl i k
theorem ar_25 (i : Int) (k : Prop) : ms_ar SH 25 10 i k = (0 ≤ i ∧ i < 10 ∧ k) := ms_ar_of (n := 10) rfl rfl i k
theorem ar_26 (i : Int) (k : Prop) : ms_ar SH 26 12 i k = (0 ≤ i ∧ i < 2 ∧ k) := ms_ar_of (n := 2) rfl rfl i k
theorem ar_28 (i : Int) (k : Prop) : ms_ar SH 28 10 i k = (0 ≤ i ∧ i < 8 ∧ k) := ms_ar_of (n := 8) rfl rfl i k
theorem ar_29 (i : Int) (k : Prop) : ms_ar SH 29 10 i k = (0 ≤ i ∧ i < 10 ∧ k) := ms_ar_of (n := 10) rfl rfl i k
theorem ar_30 (i : Int) (k : Prop) : ms_ar SH 30 10 i k = (0 ≤ i ∧ i < 10 ∧ k) := ms_ar_of (n := 10) rfl rfl i k
theorem ar_31 (i : Int) (k : Prop) : ms_ar SH 31 10 i k = (0 ≤ i ∧ i < 10 ∧ k) := ms_ar_of (n := 10) rfl rfl i k
theorem ar_33 (i : Int) (k : Prop) : ms_ar SH 33 10 i k = (0 ≤ i ∧ i < 8 ∧ k) := ms_ar_of (n := 8) rfl rfl i k
theorem ar_34 (i : Int) (k : Prop) : ms_ar SH 34 10 i k = (0 ≤ i ∧ i < 10 ∧ k) := ms_ar_of (n := 10) rfl rfl i k
theorem ar_35 (i : Int) (k : Prop) : ms_ar SH 35 10 i k = (0 ≤ i ∧ i < 10 ∧ k) := ms_ar_of (n := 10) rfl rfl i k
theorem ar_36 (i : Int) (k : Prop) : ms_ar SH 36 10 i k = (0 ≤ i ∧ i < 10 ∧ k) := ms_ar_of (n := 10) rfl rfl i k
theorem ar_37 (i : Int) (k : Prop) : ms_ar SH 37 11 i k = (0 ≤ i ∧ i < 2 ∧ k) := ms_ar_of (n := 2) rfl rfl i k
theorem ar_39 (i : Int) (k : Prop) : ms_ar SH 39 10 i k = (0 ≤ i ∧ i < 2 ∧ k) := ms_ar_of (n := 2) rfl rfl i k
theorem ar_40 (i : Int) (k : Prop) : ms_ar SH 40 10 i k = (0 ≤ i ∧ i < 8 ∧ k) := ms_ar_of (n := 8) rfl rfl i k
theorem ar_41 (i : Int) (k : Prop) : ms_ar SH 41 10 i k = (0 ≤ i ∧ i < 8 ∧ k) := ms_ar_of (n := 8) rfl rfl i k
theorem ar_42 (i : Int) (k : Prop) : ms_ar SH 42 10 i k = (0 ≤ i ∧ i < 8 ∧ k) := ms_ar_of (n := 8) rfl rfl i k
theorem ar_43 (i : Int) (k : Prop) : ms_ar SH 43 10 i k = (0 ≤ i ∧ i < 6 ∧ k) := ms_ar_of (n := 6) rfl rfl i k
theorem ar_44 (i : Int) (k : Prop) : ms_ar SH 44 10 i k = (0 ≤ i ∧ i < 6 ∧ k) := ms_ar_of (n := 6) rfl rfl i k
theorem ar_45 (i : Int) (k : Prop) : ms_ar SH 45 10 i k = (0 ≤ i ∧ i < 8 ∧ k) := ms_ar_of (n := 8) rfl rfl i k
theorem ar_46 (i : Int) (k : Prop) : ms_ar SH 46 10 i k = (0 ≤ i ∧ i < 8 ∧ k) := ms_ar_of (n := 8) rfl rfl i k
theorem ar_47 (i : Int) (k : Prop) : ms_ar SH 47 10 i k = (0 ≤ i ∧ i < 24 ∧ k) := ms_ar_of (n := 24) rfl rfl i k
theorem ar_48 (i : Int) (k : Prop) : ms_ar SH 48 10 i k = (0 ≤ i ∧ i < 140 ∧ k) := ms_ar_of (n := 140) rfl rfl i k
theorem ar_49 (i : Int) (k : Prop) : ms_ar SH 49 10 i k = (0 ≤ i ∧ i < 24 ∧ k) := ms_ar_of (n := 24) rfl rfl i k
theorem ar_50 (i : Int) (k : Prop) : ms_ar SH 50 10 i k = (0 ≤ i ∧ i < 12 ∧ k) := ms_ar_of (n := 12) rfl rfl i k
theorem ar_51 (i : Int) (k : Prop) : ms_ar SH 51 10 i k = (0 ≤ i ∧ i < 8 ∧ k) := ms_ar_of (n := 8) rfl rfl i k
theorem ar_52 (i : Int) (k : Prop) : ms_ar SH 52 10 i k = (0 ≤ i ∧ i < 2 ∧ k) := ms_ar_of (n := 2) rfl rfl i k
theorem ar_53 (i : Int) (k : Prop) : ms_ar SH 53 10 i k = (0 ≤ i ∧ i < 100 ∧ k) := ms_ar_of (n := 100) rfl rfl i k
theorem ar_54 (i : Int) (k : Prop) : ms_ar SH 54 10 i k = (0 ≤ i ∧ i < 8 ∧ k) := ms_ar_of (n := 8) rfl rfl i k
theorem ar_55 (i : Int) (k : Prop) : ms_ar SH 55 10 i k = (0 ≤ i ∧ i < 19 ∧ k) := ms_ar_of (n := 19) rfl rfl i k
theorem ar_56 (i : Int) (k : Prop) : ms_ar SH 56 10 i k = (0 ≤ i ∧ i < 19 ∧ k) := ms_ar_of (n := 19) rfl rfl i k
theorem ar_57 (i : Int) (k : Prop) : ms_ar SH 57 10 i k = (0 ≤ i ∧ i < 224 ∧ k) := ms_ar_of (n := 224) rfl rfl i k
/-- where the model's rows are -/
def RM (h : ms_H) : Prop := h 38 4 = 39 ∧ h 38 5 = 40 ∧ h 38 6 = 41 ∧ h 38 7 = 42 ∧ h 38 8 = 43 ∧ h 38 9 = 44 ∧ h 38 10 = 45 ∧ h 38 13 = 46 ∧ h 38 15 = 47 ∧ h 38 17 = 48 ∧ h 38 26 = 49 ∧ h 38 27 = 50 ∧ h 38 28 = 51 ∧ h 38 29 = 52 ∧ h 38 31 = 53 ∧ h 38 33 = 54 ∧ h 38 34 = 55 ∧ h 38 35 = 56 ∧ h 38 36 = 57
