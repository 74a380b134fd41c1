/-! Pure: odds, counts, what may be undone. -/
theorem od_fin : ∀ n : Fin 7, ∀ x : Fin 11, ∀ k : Fin 15, ogm ((k.val : Int) - 7) n.val x.val = sww x.val n.val ((k.val : Int) - 7) := by decide +kernel
theorem sww_lo {x : Int} : ∀ (n : Nat) (m m' : Int), m ≤ -n → m' ≤ -n → sww x n m = sww x n m'
  | 0, m, m', h1, h2 => by
    unfold sww
    rw [if_pos (by omega), if_pos (by omega)]
  | n + 1, m, m', h1, h2 => by
    unfold sww
    rw [sww_lo n (m + 1) (m' + 1) (by omega) (by omega), sww_lo n (m - 1) (m' - 1) (by omega) (by omega)]
theorem sww_hi {x : Int} : ∀ (n : Nat) (m m' : Int), (n : Int) < m → (n : Int) < m' → sww x n m = sww x n m'
  | 0, m, m', h1, h2 => by
    unfold sww
    rw [if_neg (by omega), if_neg (by omega)]
  | n + 1, m, m', h1, h2 => by
    unfold sww
    rw [sww_hi n (m + 1) (m' + 1) (by omega) (by omega), sww_hi n (m - 1) (m' - 1) (by omega) (by omega)]
theorem ogm_lo {x n m m' : Int} (hn : 0 ≤ n) (h1 : m ≤ -n) (h2 : m' ≤ -n) : ogm m n x = ogm m' n x := by
  unfold ogm
  refine sm_c _ (fun i i0 i1 => ?_)
  unfold otm
  rw [if_pos (by omega), if_pos (by omega)]
theorem ogm_hi {x n m m' : Int} (hn : 0 ≤ n) (h1 : n < m) (h2 : n < m') : ogm m n x = ogm m' n x := by
  unfold ogm
  refine sm_c _ (fun i i0 i1 => ?_)
  unfold otm
  rw [if_neg (by omega), if_neg (by omega)]
theorem od_eq {x n m : Int} (hx : 0 ≤ x ∧ x ≤ 10) (hn : 0 ≤ n ∧ n ≤ 6) : ogm m n x = sww x n.toNat m := by
  have key : ∀ k : Int, -7 ≤ k → k ≤ 7 → ogm k n x = sww x n.toNat k := fun k k0 k1 => by
    have := od_fin ⟨n.toNat, by omega⟩ ⟨x.toNat, by omega⟩ ⟨(k + 7).toNat, by omega⟩
    dsimp only at this
    rw [show (((k + 7).toNat : Nat) : Int) - 7 = k by omega, show ((n.toNat : Nat) : Int) = n by omega, show ((x.toNat : Nat) : Int) = x by omega] at this
    exact this
  by_cases h1 : m < -7
  · rw [ogm_lo hn.1 (m' := -7) (by omega) (by omega), sww_lo n.toNat m (-7) (by omega) (by omega)]
    exact key _ (by omega) (by omega)
  · by_cases h2 : 7 < m
    · rw [ogm_hi hn.1 (m' := 7) (by omega) (by omega), sww_hi n.toNat m 7 (by omega) (by omega)]
      exact key _ (by omega) (by omega)
    · exact key _ (by omega) (by omega)
/-- how many of 0 .. n - 1 lie from l to r -/
theorem cnt_e {l r : Int} (hl : 0 ≤ l) : ∀ n : Nat, sm (fun t => if l ≤ t ∧ t ≤ r then 1 else 0) n = (if (n : Int) ≤ l then 0 else if r < l then 0 else if (n : Int) ≤ r + 1 then n - l else r + 1 - l)
  | 0 => by
    rw [sm, if_pos (by omega)]
  | n + 1 => by
    rw [sm, cnt_e hl n, Int.natCast_succ]
    repeat' split
    all_goals omega
theorem wcn_e {g : Int → Int} {l r : Int} (hl : 0 ≤ l) (hr : r ≤ 39) (hg : ∀ t, 0 ≤ t → t ≤ 39 → (g t = 1 ↔ l ≤ t ∧ t ≤ r)) : ∀ j : Nat, j ≤ 40 → wcn g j = (if r < l then 0 else if r < 40 - (j : Int) then 0 else if l ≤ 40 - (j : Int) then r + 1 - (40 - (j : Int)) else r + 1 - l)
  | 0, _ => by
    rw [wcn]
    repeat' split
    all_goals omega
  | j + 1, hj => by
    have h1 := hg (39 - j) (by omega) (by omega)
    rw [wcn, wcn_e hl hr hg j (by omega), Int.natCast_succ]
    by_cases h2 : g (39 - j) = 1
    · have h3 := h1.mp h2
      rw [if_pos h2]
      repeat' split
      all_goals omega
    · rw [if_neg h2]
      have h3 : ¬ (l ≤ 39 - (j : Int) ∧ 39 - (j : Int) ≤ r) := fun z => h2 (h1.mpr z)
      repeat' split
      all_goals omega
theorem wcn_40 {g : Int → Int} {l r : Int} (hl : 0 ≤ l) (hr : r ≤ 39) (hg : ∀ t, 0 ≤ t → t ≤ 39 → (g t = 1 ↔ l ≤ t ∧ t ≤ r)) : wcn g 40 = max (r - l + 1) 0 := by
  rw [wcn_e hl hr hg 40 (by omega), mx0]
  repeat' split
  all_goals omega
theorem wls_e {g : Int → Int} {l r : Int} (hl : 0 ≤ l) (hr : r ≤ 39) (hg : ∀ t, 0 ≤ t → t ≤ 39 → (g t = 1 ↔ l ≤ t ∧ t ≤ r)) : ∀ j : Nat, j ≤ 40 → wls g j = (if r < l then -9 else if r < 40 - (j : Int) then -9 else if l ≤ 40 - (j : Int) then 40 - (j : Int) else l)
  | 0, _ => by
    rw [wls]
    repeat' split
    all_goals omega
  | j + 1, hj => by
    have h1 := hg (39 - j) (by omega) (by omega)
    rw [wls, wls_e hl hr hg j (by omega), Int.natCast_succ]
    by_cases h2 : g (39 - j) = 1
    · have h3 := h1.mp h2
      rw [if_pos h2]
      repeat' split
      all_goals omega
    · rw [if_neg h2]
      have h3 : ¬ (l ≤ 39 - (j : Int) ∧ 39 - (j : Int) ≤ r) := fun z => h2 (h1.mpr z)
      repeat' split
      all_goals omega
theorem wls_40 {g : Int → Int} {l r : Int} (hl : 0 ≤ l) (hr : r ≤ 39) (hg : ∀ t, 0 ≤ t → t ≤ 39 → (g t = 1 ↔ l ≤ t ∧ t ≤ r)) : wls g 40 = if max (r - l + 1) 0 = 0 then -9 else l := by
  rw [wls_e hl hr hg 40 (by omega), mx0]
  repeat' split
  all_goals omega
theorem askf_c {g g' : Int → Int} {base : Int} {s : Int × Int} : ∀ k : Nat, (∀ i : Int, 0 ≤ i → i < k → g i = g' i) → askf g base k s = askf g' base k s
  | 0, _ => rfl
  | k + 1, h => by
    rw [askf, askf, askf_c k (fun i i0 i1 => h i i0 (by omega)), h k (by omega) (by omega)]
theorem askc_c {g g' : Int → Int → Int} {base : Int} {s : Int × Int} : ∀ k : Nat, (∀ c i : Int, 0 ≤ c → c < k → 0 ≤ i → i < 8 → g c i = g' c i) → askc g base k s = askc g' base k s
  | 0, _ => rfl
  | k + 1, h => by
    rw [askc, askc, askc_c k (fun c i c0 c1 => h c i c0 (by omega)), askf_c 8 (fun i i0 i1 => h k i (by omega) (by omega) i0 (by omega))]
theorem askw_c {g g' : Int → Int → Int → Int} {n : Nat} {s : Int × Int} : ∀ k : Nat, (∀ w c i : Int, 0 ≤ w → w < k → 0 ≤ c → c < n → 0 ≤ i → i < 8 → g w c i = g' w c i) → askw g n k s = askw g' n k s
  | 0, _ => rfl
  | k + 1, h => by
    rw [askw, askw, askw_c k (fun w c i w0 w1 => h w c i w0 (by omega)), askc_c n (fun c i c0 c1 i0 i1 => h k c i (by omega) (by omega) c0 c1 i0 i1)]
/-- a stake's place as the class has it; the states of a stack; a step -/
def sk (v : Int) : Int := if v = 0 then -9 else v - 1
def Xj (m : Int) (cur a : Int → Int) (j k : Int) : Int := if j = m then cur k else a (10 * j + k)
def okX (n : Int) (x : Int → Int) : Prop := (0 ≤ x 0 ∧ x 0 ≤ 9999) ∧ (-9 ≤ x 1 ∧ x 1 ≤ 9) ∧ (∀ c, 0 ≤ c → c < 8 → 0 ≤ x (2 + c) ∧ x (2 + c) ≤ 9) ∧ (∀ c, n ≤ c → 0 ≤ c → c < 8 → x (2 + c) = 0)
def SR (kd cl bf : Int) (x y : Int → Int) : Prop := (0 ≤ cl ∧ cl ≤ 7) ∧ ((kd = 0 ∧ x 0 = bf ∧ x 1 = y 1 ∧ ∀ c, 0 ≤ c → c < 8 → x (2 + c) = y (2 + c)) ∨ (kd = 1 ∧ x 1 = bf ∧ x 0 = y 0 ∧ ∀ c, 0 ≤ c → c < 8 → x (2 + c) = y (2 + c)) ∨ (kd = 2 ∧ sk (x (2 + cl)) = bf ∧ x 0 = y 0 ∧ x 1 = y 1 ∧ ∀ c, 0 ≤ c → c < 8 → c ≠ cl → x (2 + c) = y (2 + c)))
theorem okX_c {n : Int} {x x' : Int → Int} (h : okX n x) (e : ∀ k, 0 ≤ k → k < 10 → x' k = x k) : okX n x' := by
  obtain ⟨h1, h2, h3, h4⟩ := h
  refine ⟨by rw [e 0 (by omega) (by omega)]; exact h1, by rw [e 1 (by omega) (by omega)]; exact h2, fun c c0 c1 => ?_, fun c cn c0 c1 => ?_⟩
  · rw [e (2 + c) (by omega) (by omega)]; exact h3 c c0 c1
  · rw [e (2 + c) (by omega) (by omega)]; exact h4 c cn c0 c1
theorem SR_c {kd cl bf : Int} {x y x' y' : Int → Int} (h : SR kd cl bf x y) (ex : ∀ k, 0 ≤ k → k < 10 → x' k = x k) (ey : ∀ k, 0 ≤ k → k < 10 → y' k = y k) : SR kd cl bf x' y' := by
  have x0 := ex 0 (by omega) (by omega)
  have x1 := ex 1 (by omega) (by omega)
  have y0 := ey 0 (by omega) (by omega)
  have y1 := ey 1 (by omega) (by omega)
  obtain ⟨h0, h1⟩ := h
  refine ⟨h0, ?_⟩
  rw [x0, x1, y0, y1, ex (2 + cl) (by omega) (by omega)]
  have e : ∀ c, 0 ≤ c → c < 8 → x' (2 + c) = x (2 + c) ∧ y' (2 + c) = y (2 + c) := fun c c0 c1 => ⟨ex _ (by omega) (by omega), ey _ (by omega) (by omega)⟩
  rcases h1 with ⟨a, b, c, d⟩ | ⟨a, b, c, d⟩ | ⟨a, b, c, d, f⟩
  · exact Or.inl ⟨a, b, c, fun k k0 k1 => by rw [(e k k0 k1).1, (e k k0 k1).2]; exact d k k0 k1⟩
  · exact Or.inr (Or.inl ⟨a, b, c, fun k k0 k1 => by rw [(e k k0 k1).1, (e k k0 k1).2]; exact d k k0 k1⟩)
  · exact Or.inr (Or.inr ⟨a, b, c, d, fun k k0 k1 k2 => by rw [(e k k0 k1).1, (e k k0 k1).2]; exact f k k0 k1 k2⟩)
/-- the class's day, stakes and steps beside the model's state, count and notes -/
def NR (n : Int) (D St Kd Cl Bf cur : Int → Int) (m : Int) (a : Int → Int) : Prop := (D 0 = cur 0 ∧ D 1 = cur 1 ∧ ∀ c, 0 ≤ c → c < 8 → St c = sk (cur (2 + c))) ∧ (D 3 = m ∧ 0 ≤ m ∧ m ≤ 10) ∧ okX n cur ∧ (∀ j, 0 ≤ j → j < m → okX n (fun k => a (10 * j + k))) ∧ (∀ j, 0 ≤ j → j < m → SR (Kd j) (Cl j) (Bf j) (fun k => a (10 * j + k)) (fun k => Xj m cur a (j + 1) k))
theorem NR_c {n m : Int} {D St Kd Cl Bf cur a D' St' Kd' Cl' Bf' cur' a' : Int → Int} (h : NR n D St Kd Cl Bf cur m a) (hD : D' 0 = D 0 ∧ D' 1 = D 1 ∧ D' 3 = D 3) (hS : ∀ c, 0 ≤ c → c < 8 → St' c = St c) (hK : ∀ j, 0 ≤ j → j < 10 → Kd' j = Kd j ∧ Cl' j = Cl j ∧ Bf' j = Bf j) (hc : ∀ k, 0 ≤ k → k < 10 → cur' k = cur k) (ha : ∀ b, 0 ≤ b → b < 100 → a' b = a b) : NR n D' St' Kd' Cl' Bf' cur' m a' := by
  obtain ⟨⟨h1, h2, h3⟩, ⟨h4, h5, h6⟩, h7, h8, h9⟩ := h
  refine ⟨⟨?_, ?_, fun c c0 c1 => ?_⟩, ⟨?_, h5, h6⟩, okX_c h7 hc, fun j j0 j1 => ?_, fun j j0 j1 => ?_⟩
  · rw [hD.1, hc 0 (by omega) (by omega)]; exact h1
  · rw [hD.2.1, hc 1 (by omega) (by omega)]; exact h2
  · rw [hS c c0 c1, hc (2 + c) (by omega) (by omega)]; exact h3 c c0 c1
  · rw [hD.2.2]; exact h4
  · exact okX_c (h8 j j0 j1) (fun k k0 k1 => ha _ (by omega) (by omega))
  · have e := hK j j0 (by omega)
    rw [e.1, e.2.1, e.2.2]
    refine SR_c (h9 j j0 j1) (fun k k0 k1 => ha _ (by omega) (by omega)) (fun k k0 k1 => ?_)
    unfold Xj
    split
    · exact hc k k0 k1
    · exact ha _ (by omega) (by omega)
theorem NR_push {n m s de kd cl bf : Int} {D St Kd Cl Bf cur a D' St' Kd' Cl' Bf' cur' a' : Int → Int} (h : NR n D St Kd Cl Bf cur m a) (hs : (m < 10 ∧ de = 0 ∧ s = m) ∨ (m = 10 ∧ de = 1 ∧ s = 9)) (hD : D' 0 = cur' 0 ∧ D' 1 = cur' 1 ∧ D' 3 = s + 1) (hS : ∀ c, 0 ≤ c → c < 8 → St' c = sk (cur' (2 + c))) (hK : ∀ j, 0 ≤ j → j < s → Kd' j = Kd (j + de) ∧ Cl' j = Cl (j + de) ∧ Bf' j = Bf (j + de)) (hK2 : Kd' s = kd ∧ Cl' s = cl ∧ Bf' s = bf) (ha : ∀ b, 0 ≤ b → b < 10 * s → a' b = a (b + 10 * de)) (ha2 : ∀ k, 0 ≤ k → k < 10 → a' (10 * s + k) = cur k) (ho : okX n cur') (hr : SR kd cl bf cur cur') : NR n D' St' Kd' Cl' Bf' cur' (s + 1) a' := by
  obtain ⟨⟨h1, h2, h3⟩, ⟨h4, h5, h6⟩, h7, h8, h9⟩ := h
  refine ⟨⟨hD.1, hD.2.1, hS⟩, ⟨hD.2.2, by omega, by omega⟩, ho, fun j j0 j1 => ?_, fun j j0 j1 => ?_⟩
  · by_cases jl : j = s
    · rw [jl]
      exact okX_c h7 (fun k k0 k1 => ha2 k k0 k1)
    · refine okX_c (h8 (j + de) (by omega) (by omega)) (fun k k0 k1 => ?_)
      rw [ha _ (by omega) (by omega)]
      congr 1
      omega
  · by_cases jl : j = s
    · rw [jl, hK2.1, hK2.2.1, hK2.2.2]
      refine SR_c hr (fun k k0 k1 => ha2 k k0 k1) (fun k k0 k1 => ?_)
      unfold Xj
      rw [if_pos rfl]
    · have e := hK j j0 (by omega)
      rw [e.1, e.2.1, e.2.2]
      refine SR_c (h9 (j + de) (by omega) (by omega)) (fun k k0 k1 => ?_) (fun k k0 k1 => ?_)
      · rw [ha _ (by omega) (by omega)]
        congr 1
        omega
      · unfold Xj
        rw [if_neg (by omega)]
        by_cases jm : j + 1 = s
        · rw [if_pos (by omega), jm]
          exact ha2 k k0 k1
        · rw [if_neg (by omega), ha _ (by omega) (by omega)]
          congr 1
          omega
theorem NR_pop {n m : Int} {D St Kd Cl Bf cur a D' St' cur' : Int → Int} (h : NR n D St Kd Cl Bf cur m a) (hm : 1 ≤ m) (hD : D' 3 = m - 1) (h0 : D' 0 = if Kd (m - 1) = 0 then Bf (m - 1) else D 0) (h1 : D' 1 = if Kd (m - 1) = 1 then Bf (m - 1) else D 1) (hS : ∀ c, 0 ≤ c → c < 8 → St' c = if ¬ Kd (m - 1) = 0 ∧ ¬ Kd (m - 1) = 1 ∧ c = Cl (m - 1) then Bf (m - 1) else St c) (hc : ∀ k, 0 ≤ k → k < 10 → cur' k = a (10 * (m - 1) + k)) : NR n D' St' Kd Cl Bf cur' (m - 1) a := by
  obtain ⟨⟨g1, g2, g3⟩, ⟨g4, g5, g6⟩, g7, g8, g9⟩ := h
  have r := g9 (m - 1) (by omega) (by omega)
  have r' : SR (Kd (m - 1)) (Cl (m - 1)) (Bf (m - 1)) cur' cur := by
    refine SR_c r (fun k k0 k1 => hc k k0 k1) (fun k k0 k1 => ?_)
    unfold Xj
    rw [if_pos (by omega)]
  clear r
  obtain ⟨r0, r⟩ := r'
  refine ⟨⟨?_, ?_, fun c c0 c1 => ?_⟩, ⟨hD, by omega, by omega⟩, ?_, fun j j0 j1 => g8 j j0 (by omega), fun j j0 j1 => ?_⟩
  · rw [h0]
    rcases r with ⟨a1, a2, a3, a4⟩ | ⟨a1, a2, a3, a4⟩ | ⟨a1, a2, a3, a4, a5⟩
    · rw [if_pos a1, a2]
    · rw [if_neg (by omega), g1, a3]
    · rw [if_neg (by omega), g1, a3]
  · rw [h1]
    rcases r with ⟨a1, a2, a3, a4⟩ | ⟨a1, a2, a3, a4⟩ | ⟨a1, a2, a3, a4, a5⟩
    · rw [if_neg (by omega), g2, a3]
    · rw [if_pos a1, a2]
    · rw [if_neg (by omega), g2, a4]
  · rw [hS c c0 c1]
    rcases r with ⟨a1, a2, a3, a4⟩ | ⟨a1, a2, a3, a4⟩ | ⟨a1, a2, a3, a4, a5⟩
    · rw [if_neg (fun z => z.1 a1), g3 c c0 c1, a4 c c0 c1]
    · rw [if_neg (fun z => z.2.1 a1), g3 c c0 c1, a4 c c0 c1]
    · by_cases e : c = Cl (m - 1)
      · rw [if_pos ⟨by omega, by omega, e⟩, e, a2]
      · rw [if_neg (fun z => e z.2.2), g3 c c0 c1, a5 c c0 c1 e]
  · exact okX_c (g8 (m - 1) (by omega) (by omega)) (fun k k0 k1 => hc k k0 k1)
  · refine SR_c (g9 j j0 (by omega)) (fun k k0 k1 => rfl) (fun k k0 k1 => ?_)
    unfold Xj
    by_cases e : j + 1 = m - 1
    · rw [if_pos e, if_neg (by omega), hc k k0 k1, e]
    · rw [if_neg e, if_neg (by omega)]
theorem hil_c {w w' : Int → Int} : ∀ (p : List Int), (∀ i : Int, 0 ≤ i → i < p.length → w i = w' i) → hil w p = hil w' p
  | [], _ => rfl
  | x :: p, h => by
    rw [List.length_cons, Int.natCast_succ] at h
    rw [hil, hil, hil_c p (fun i i0 i1 => h i i0 (by omega)), h p.length (by omega) (by omega)]
theorem sea_c {w w' : Int → Int} : ∀ (p : List Int), (∀ i : Int, 0 ≤ i → i < p.length → w i = w' i) → sea w p = sea w' p
  | [], _ => rfl
  | x :: p, h => by
    rw [List.length_cons, Int.natCast_succ] at h
    rw [sea, sea, sea_c p (fun i i0 i1 => h i i0 (by omega)), h p.length (by omega) (by omega)]
theorem drw_c {A B N : Int} {w1 w2 v1 v2 : Int → Int} (e : ∀ i, 0 ≤ i → i < N → w1 i = v1 i ∧ w2 i = v2 i) : ∀ (k : Nat) (s : S4) (p : List Int), (p.length : Int) + k ≤ N → drw (J4 A B w1 w2) k s p = drw (J4 A B v1 v2) k s p
  | 0, s, p, hp => by
    rw [drw, drw]
    unfold J4 lss
    rw [hil_c p (fun i i0 i1 => (e i i0 (by omega)).1), sea_c p (fun i i0 i1 => (e i i0 (by omega)).2)]
  | k + 1, s, p, hp => by
    rw [drw, drw]
    have : (fun s x => drw (J4 A B w1 w2) k s (x :: p)) = (fun s x => drw (J4 A B v1 v2) k s (x :: p)) := by
      funext s x
      exact drw_c e k s (x :: p) (by rw [List.length_cons]; omega)
    rw [this]
