/-! The text: what is read, as pure words. -/
def rnn (lo hi : Int) (g : Int → Int) : Nat → Int → Int
  | 0, i => i
  | k + 1, i => if lo ≤ g i ∧ g i ≤ hi then rnn lo hi g k (i + 1) else i
/-- where a run of such bytes ends -/
def RU (lo hi : Int) (g : Int → Int) (n i : Int) : Int := rnn lo hi g (n - i).toNat i
theorem RU_1 {lo hi n i : Int} {g : Int → Int} (h : i < n) (h1 : lo ≤ g i ∧ g i ≤ hi) : RU lo hi g n i = RU lo hi g n (i + 1) := by
  unfold RU
  rw [show (n - i).toNat = (n - (i + 1)).toNat + 1 by omega, rnn, if_pos h1]
theorem RU_0 {lo hi n i : Int} {g : Int → Int} (h : ¬ (i < n ∧ lo ≤ g i ∧ g i ≤ hi)) : RU lo hi g n i = i := by
  unfold RU
  by_cases h1 : i < n
  · rw [show (n - i).toNat = (n - (i + 1)).toNat + 1 by omega, rnn, if_neg (by omega)]
  · rw [show (n - i).toNat = 0 by omega, rnn]
theorem rnn_b (lo hi : Int) (g : Int → Int) : ∀ (k : Nat) (i : Int), i ≤ rnn lo hi g k i ∧ rnn lo hi g k i ≤ i + k
  | 0, i => by rw [rnn]; omega
  | k + 1, i => by
    have := rnn_b lo hi g k (i + 1)
    rw [rnn]
    split <;> omega
theorem RU_b {lo hi n i : Int} {g : Int → Int} (h : i ≤ n) : i ≤ RU lo hi g n i ∧ RU lo hi g n i ≤ n := by
  have := rnn_b lo hi g (n - i).toNat i
  unfold RU
  omega
theorem RU_p {lo hi n i : Int} {g : Int → Int} (h : i < n) (h1 : lo ≤ g i ∧ g i ≤ hi) : i + 1 ≤ RU lo hi g n i := by
  rw [RU_1 h h1]
  exact (RU_b (by omega)).1
/-- the number that begins at j, of f figures: two at most count -/
def vl (g : Int → Int) (j f : Int) : Int := if f ≤ 0 then 0 else if f = 1 then g j - 48 else (g j - 48) * 10 + g (j + 1) - 48
abbrev nOK (g : Int → Int) (n lo hi j : Int) : Prop := (1 ≤ RU 48 57 g n j - j ∧ RU 48 57 g n j - j ≤ 2) ∧ ¬ (1 < RU 48 57 g n j - j ∧ g j = 48) ∧ lo ≤ vl g j (RU 48 57 g n j - j) ∧ vl g j (RU 48 57 g n j - j) ≤ hi
def rN (g : Int → Int) (n lo hi i : Int) : Int × Option Int := if nOK g n lo hi (RU 32 32 g n i) then (RU 48 57 g n (RU 32 32 g n i), some (vl g (RU 32 32 g n i) (RU 48 57 g n (RU 32 32 g n i) - RU 32 32 g n i))) else (RU 32 32 g n i, none)
def rE (g : Int → Int) (n i : Int) : Int × Option Unit := if RU 32 32 g n i < n ∧ g (RU 32 32 g n i) = 59 then (RU 32 32 g n i + 1, some ()) else (RU 32 32 g n i, none)
def bnd {α β : Type} (x : Int × Option α) (f : Int → α → Int × Option β) : Int × Option β := match x with
  | (j, none) => (j, none)
  | (j, some a) => f j a
/-- columns, voters, days, gap (0: none), hands; the last one first -/
abbrev S5 : Type := List (Int × Int × Int) × List (Int × Int) × List Int × Int × Option (Int × Int)
def rC (g : Int → Int) (n i : Int) (S : S5) : Int × Option S5 := bnd (rN g n 0 9 i) (fun i a => bnd (rN g n 0 9 i) (fun i b => bnd (rN g n 0 9 i) (fun i c => bnd (rE g n i) (fun i _ => (i, some ((a, b, c) :: S.1, S.2))))))
def rG (g : Int → Int) (n i : Int) (S : S5) : Int × Option S5 := bnd (rN g n 1 6 i) (fun i a => bnd (rE g n i) (fun i _ => (i, some (S.1, S.2.1, S.2.2.1, a, S.2.2.2.2))))
def rH (g : Int → Int) (n i : Int) (S : S5) : Int × Option S5 := bnd (rN g n 0 9 i) (fun i a => bnd (rN g n 0 9 i) (fun i b => bnd (rE g n i) (fun i _ => (i, some (S.1, S.2.1, S.2.2.1, S.2.2.2.1, some (a, b))))))
def rV (g : Int → Int) (n i : Int) (S : S5) : Int × Option S5 := bnd (rN g n 1 9 i) (fun i a => bnd (rN g n 0 1 i) (fun i b => bnd (rE g n i) (fun i _ => (i, some (S.1, (a, b) :: S.2.1, S.2.2)))))
def rD (g : Int → Int) (n i : Int) (S : S5) : Int × Option S5 := bnd (rN g n 0 30 i) (fun i a => bnd (rE g n i) (fun i _ => (i, some (S.1, S.2.1, a :: S.2.2.1, S.2.2.2))))
/-- an item, from its first byte on -/
def rI (g : Int → Int) (n j : Int) (S : S5) : Int × Option S5 :=
  if j + 1 < n ∧ 97 ≤ g (j + 1) ∧ g (j + 1) ≤ 122 then (j, none)
  else if g j = 99 then (if S.1.length < 8 then rC g n (j + 1) S else (j, none))
  else if g j = 103 then (if S.2.2.2.1 = 0 then rG g n (j + 1) S else (j, none))
  else if g j = 104 then (if S.2.2.2.2 = none then rH g n (j + 1) S else (j, none))
  else if g j = 118 then (if S.2.1.length < 6 then rV g n (j + 1) S else (j, none))
  else if g j = 100 then (if S.2.2.1.length < 8 then rD g n (j + 1) S else (j, none))
  else (j, none)
def rW (g : Int → Int) (n : Int) : Nat → Int → Int → S5 → Int × Option S5
  | 0, i, _, _ => (-10 - i, none)
  | f + 1, i, it, S => if RU 32 32 g n i < n then (match rI g n (RU 32 32 g n i) S with
    | (j, none) => (-10 - j, none)
    | (j, some S') => rW g n f j (it + 1) S') else (it, some S)
theorem bnd_n {α β : Type} {x : Int × Option α} {f : Int → α → Int × Option β} {j : Int} (h : x = (j, none)) : bnd x f = (j, none) := by rw [h]; rfl
theorem bnd_s {α β : Type} {x : Int × Option α} {f : Int → α → Int × Option β} {j : Int} {a : α} (h : x = (j, some a)) : bnd x f = f j a := by rw [h]; rfl
theorem rN_b {g : Int → Int} {n lo hi i : Int} (h : i ≤ n) : i ≤ (rN g n lo hi i).1 ∧ (rN g n lo hi i).1 ≤ n := by
  have a := RU_b (lo := 32) (hi := 32) (g := g) h
  have b := RU_b (lo := 48) (hi := 57) (g := g) a.2
  unfold rN
  split
  · exact ⟨Int.le_trans a.1 b.1, b.2⟩
  · exact a
theorem rN_v {g : Int → Int} {n lo hi i j v : Int} (h : rN g n lo hi i = (j, some v)) : lo ≤ v ∧ v ≤ hi := by
  unfold rN at h
  split at h
  · rename_i h1
    cases h
    exact h1.2.2
  · cases h
theorem rE_b {g : Int → Int} {n i : Int} (h : i ≤ n) : i ≤ (rE g n i).1 ∧ (rE g n i).1 ≤ n := by
  have a := RU_b (lo := 32) (hi := 32) (g := g) h
  unfold rE
  split
  · exact ⟨by show i ≤ RU 32 32 g n i + 1; omega, by show RU 32 32 g n i + 1 ≤ n; omega⟩
  · exact a
theorem bnd_b {α β : Type} {x : Int × Option α} {f : Int → α → Int × Option β} {i n : Int} (h : i ≤ x.1 ∧ x.1 ≤ n) (hf : ∀ j a, i ≤ j → j ≤ n → i ≤ (f j a).1 ∧ (f j a).1 ≤ n) : i ≤ (bnd x f).1 ∧ (bnd x f).1 ≤ n := by
  obtain ⟨j, a⟩ := x
  cases a with
  | none => exact h
  | some a => exact hf j a h.1 h.2
theorem rN_b' {g : Int → Int} {n lo hi i j : Int} (h0 : i ≤ j) (h : j ≤ n) : i ≤ (rN g n lo hi j).1 ∧ (rN g n lo hi j).1 ≤ n := ⟨Int.le_trans h0 (rN_b h).1, (rN_b h).2⟩
theorem rE_b' {g : Int → Int} {n i j : Int} (h0 : i ≤ j) (h : j ≤ n) : i ≤ (rE g n j).1 ∧ (rE g n j).1 ≤ n := ⟨Int.le_trans h0 (rE_b h).1, (rE_b h).2⟩
theorem rC_b {g : Int → Int} {n i : Int} {S : S5} (h : i ≤ n) : i ≤ (rC g n i S).1 ∧ (rC g n i S).1 ≤ n := bnd_b (rN_b h) (fun _ _ a b => bnd_b (rN_b' a b) (fun _ _ a b => bnd_b (rN_b' a b) (fun _ _ a b => bnd_b (rE_b' a b) (fun _ _ a b => ⟨a, b⟩))))
theorem rG_b {g : Int → Int} {n i : Int} {S : S5} (h : i ≤ n) : i ≤ (rG g n i S).1 ∧ (rG g n i S).1 ≤ n := bnd_b (rN_b h) (fun _ _ a b => bnd_b (rE_b' a b) (fun _ _ a b => ⟨a, b⟩))
theorem rH_b {g : Int → Int} {n i : Int} {S : S5} (h : i ≤ n) : i ≤ (rH g n i S).1 ∧ (rH g n i S).1 ≤ n := bnd_b (rN_b h) (fun _ _ a b => bnd_b (rN_b' a b) (fun _ _ a b => bnd_b (rE_b' a b) (fun _ _ a b => ⟨a, b⟩)))
theorem rV_b {g : Int → Int} {n i : Int} {S : S5} (h : i ≤ n) : i ≤ (rV g n i S).1 ∧ (rV g n i S).1 ≤ n := bnd_b (rN_b h) (fun _ _ a b => bnd_b (rN_b' a b) (fun _ _ a b => bnd_b (rE_b' a b) (fun _ _ a b => ⟨a, b⟩)))
theorem rD_b {g : Int → Int} {n i : Int} {S : S5} (h : i ≤ n) : i ≤ (rD g n i S).1 ∧ (rD g n i S).1 ≤ n := bnd_b (rN_b h) (fun _ _ a b => bnd_b (rE_b' a b) (fun _ _ a b => ⟨a, b⟩))
theorem rI_b {g : Int → Int} {n j k : Int} {S S' : S5} (h : j < n) (he : rI g n j S = (k, some S')) : j + 1 ≤ k ∧ k ≤ n := by
  unfold rI at he
  have C := rC_b (g := g) (S := S) (show j + 1 ≤ n by omega)
  have G := rG_b (g := g) (S := S) (show j + 1 ≤ n by omega)
  have H := rH_b (g := g) (S := S) (show j + 1 ≤ n by omega)
  have V := rV_b (g := g) (S := S) (show j + 1 ≤ n by omega)
  have D := rD_b (g := g) (S := S) (show j + 1 ≤ n by omega)
  repeat' split at he
  all_goals first
    | (cases he; done)
    | (rw [he] at C; exact C)
    | (rw [he] at G; exact G)
    | (rw [he] at H; exact H)
    | (rw [he] at V; exact V)
    | (rw [he] at D; exact D)
