/-! Pure words: what the methods answer. -/
def cl (x : Int) : Int := if x < 0 then 0 else if 8 < x then 8 else x
def sW (nd : Int) (w : Int → Int) (day : Int) : Int := if nd = 0 then 0 else w (day % nd)
theorem cl_b (x : Int) : 0 ≤ cl x ∧ cl x ≤ 8 := by
  unfold cl
  repeat' split
  all_goals omega
theorem rg_of {z : Int} (h1 : -2147483648 ≤ z) (h2 : z ≤ 2147483647) : rg z := ⟨h1, h2⟩
theorem tmod_p {a b : Int} (ha : 0 ≤ a) : a.tmod b = a % b := Int.tmod_eq_emod_of_nonneg ha
theorem tdiv_p {a b : Int} (ha : 0 ≤ a) : a.tdiv b = a / b := Int.tdiv_eq_ediv_of_nonneg ha
theorem emod_b {a b : Int} (hb : 0 < b) : 0 ≤ a % b ∧ a % b < b := ⟨Int.emod_nonneg a (by omega), Int.emod_lt_of_pos a hb⟩
/-- a sum over 0 .. n - 1 -/
def sm (g : Int → Int) : Nat → Int
  | 0 => 0
  | n + 1 => sm g n + g n
theorem sm_b {g : Int → Int} {lo hi : Int} : ∀ n : Nat, (∀ i : Int, 0 ≤ i → i < n → lo ≤ g i ∧ g i ≤ hi) → n * lo ≤ sm g n ∧ sm g n ≤ n * hi
  | 0, _ => by simp [sm]
  | n + 1, h => by
    have h1 := sm_b n (fun i h0 h1 => h i h0 (by omega))
    have h2 := h n (by omega) (by omega)
    rw [sm, Int.natCast_succ, Int.add_mul, Int.add_mul]
    omega
theorem sm_c {g g' : Int → Int} : ∀ n : Nat, (∀ i : Int, 0 ≤ i → i < n → g i = g' i) → sm g n = sm g' n
  | 0, _ => rfl
  | n + 1, h => by
    rw [sm, sm, sm_c n (fun i h0 h1 => h i h0 (by omega)), h n (by omega) (by omega)]
/-- what is known of the model's cells -/
def MB (h : ms_H) : Prop := (0 ≤ h 38 0 ∧ h 38 0 ≤ 8) ∧ (0 ≤ h 38 1 ∧ h 38 1 ≤ 6) ∧ (0 ≤ h 38 2 ∧ h 38 2 ≤ 8) ∧ (1 ≤ h 38 3 ∧ h 38 3 ≤ 6) ∧ (0 ≤ h 38 11 ∧ h 38 11 ≤ 9999) ∧ (-9 ≤ h 38 12 ∧ h 38 12 ≤ 9)
def MA (h : ms_H) : Prop := (∀ i, 0 ≤ i → i < 2 → 0 ≤ h 39 i ∧ h 39 i ≤ 9) ∧ (∀ i, 0 ≤ i → i < h 38 0 → (0 ≤ h 40 i ∧ h 40 i ≤ 9) ∧ (0 ≤ h 41 i ∧ h 41 i ≤ 9) ∧ (0 ≤ h 42 i ∧ h 42 i ≤ 9)) ∧ (∀ i, 0 ≤ i → i < h 38 1 → (1 ≤ h 43 i ∧ h 43 i ≤ 9) ∧ (0 ≤ h 44 i ∧ h 44 i ≤ 1)) ∧ (∀ i, 0 ≤ i → i < h 38 2 → 0 ≤ h 45 i ∧ h 45 i ≤ 30)
def MV (h : ms_H) : Prop := RM h ∧ MB h ∧ MA h
theorem MV_warm {h : ms_H} (hv : MV h) {n : Int} : 0 ≤ sW (h 38 2) (h 45) n ∧ sW (h 38 2) (h 45) n ≤ 30 := by
  obtain ⟨-, ⟨-, -, h1, -⟩, -, -, -, h2⟩ := hv
  unfold sW
  split
  · omega
  · have := emod_b (a := n) (b := h 38 2) (by omega)
    exact h2 _ this.1 this.2
/-- how warm it is now -/
def mT (h : ms_H) : Int := sW (h 38 2) (h 45) (h 38 11) + h 38 12
theorem MV_T {h : ms_H} (hv : MV h) : -9 ≤ mT h ∧ mT h ≤ 39 := by
  have h1 := MV_warm hv (n := h 38 11)
  obtain ⟨-, ⟨-, -, -, -, -, h2⟩, -⟩ := hv
  unfold mT
  omega
theorem hs_v (h : ms_H) (z k v a b : Int) : hs h z k v a b = if a = z ∧ b = k then v else h a b := rfl
theorem hs_hs (h : ms_H) (z k v w : Int) : hs (hs h z k v) z k w = hs h z k w := by
  funext a b
  unfold hs
  split <;> rfl
theorem bt {P : Prop} [Decidable P] {r : Int} (hr : r = if P then 1 else 0) (h : ¬ r = 0) : P := by
  by_cases z : P
  · exact z
  · rw [if_neg z] at hr; exact absurd hr h
theorem bf {P : Prop} [Decidable P] {r : Int} (hr : r = if P then 1 else 0) (h : r = 0) : ¬ P := by
  intro z
  rw [if_pos z] at hr; omega
theorem b01 {P : Prop} [Decidable P] {r : Int} (hr : r = if P then 1 else 0) : r = 0 ∨ r = 1 := by
  rw [hr]; split
  · exact Or.inr rfl
  · exact Or.inl rfl
/-- the greatest of 0 and g 0 .. g (n - 1) -/
def mxm (g : Int → Int) : Nat → Int
  | 0 => 0
  | n + 1 => if mxm g n < g n then g n else mxm g n
theorem mxm_b {g : Int → Int} {hi : Int} (h0 : 0 ≤ hi) : ∀ n : Nat, (∀ i : Int, 0 ≤ i → i < n → g i ≤ hi) → 0 ≤ mxm g n ∧ mxm g n ≤ hi
  | 0, _ => by simp [mxm]; omega
  | n + 1, h => by
    have h1 := mxm_b h0 n (fun i h0 h1 => h i h0 (by omega))
    have h2 := h n (by omega) (by omega)
    unfold mxm
    split <;> omega
theorem mxm_c {g g' : Int → Int} : ∀ n : Nat, (∀ i : Int, 0 ≤ i → i < n → g i = g' i) → mxm g n = mxm g' n
  | 0, _ => rfl
  | n + 1, h => by
    rw [mxm, mxm, mxm_c n (fun i h0 h1 => h i h0 (by omega)), h n (by omega) (by omega)]
/-- the first of k .. k + n - 1 with g at most 0; -9: none -/
def fst0 (g : Int → Int) : Nat → Int → Int
  | 0, _ => -9
  | n + 1, k => if g k ≤ 0 then k else fst0 g n (k + 1)
