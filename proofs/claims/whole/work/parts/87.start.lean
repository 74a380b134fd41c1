/-! Both objects are new. -/
theorem dg_zero {z : Int} : ∀ l : lg, l.all (fun e => decide (e.2.1 ≠ z) || (decide (e.1 ≠ 0) && decide (e.2.2.1 = 10))) = true → ∀ b, dg l z b = 0
  | [], _, _ => rfl
  | (0, y, k, v) :: r, h, b => by
    rw [List.all_cons, Bool.and_eq_true] at h
    have h1 : y ≠ z := by simpa using h.1
    show hs (dg r) y k v z b = 0
    rw [hs_v, if_neg (fun q => h1 q.1.symm)]
    exact dg_zero r h.2 b
  | (m + 1, y, k, v) :: r, h, b => by
    rw [List.all_cons, Bool.and_eq_true] at h
    show ms_nw (dg r) y k.toNat z b = 0
    unfold ms_nw
    by_cases q : z = y
    · have h1 : k = 10 := by
        have := h.1
        simp only [q, ne_eq, not_true_eq_false, decide_false, Bool.false_or, Bool.and_eq_true, decide_eq_true_eq] at this
        exact this.2
      rw [if_pos q, h1]
      rfl
    · rw [if_neg q]
      exact dg_zero r h.2 b
theorem hp_RC : RC 4 12 hp0 := by
  unfold RC
  decide +kernel
theorem hp_CB : CB 4 hp0 := by
  unfold CB
  decide +kernel
theorem hp_RM : RM hp0 := by
  unfold RM
  decide +kernel
theorem hp_MB : MB hp0 := by
  unfold MB
  decide +kernel
theorem hp_n : (hp0 4 0 = 0 ∧ hp0 4 6 = 0 ∧ hp0 4 9 = 0 ∧ hp0 4 4 = 2) ∧ (hp0 38 0 = 0 ∧ hp0 38 1 = 0 ∧ hp0 38 2 = 0 ∧ hp0 38 3 = 2) ∧ (hp0 8 0 = 0 ∧ hp0 8 1 = 3) ∧ (hp0 39 0 = 0 ∧ hp0 39 1 = 3) ∧ (hp0 1 0 = 2 ∧ hp0 1 8 = 3 ∧ hp0 1 1 = 0 ∧ hp0 38 18 = 0) ∧ (hp0 21 0 = 0 ∧ hp0 21 1 = 0 ∧ hp0 21 3 = 0) ∧ (hp0 38 11 = 0 ∧ hp0 38 12 = 0 ∧ hp0 38 32 = 0) ∧ (hp0 37 0 = 0 ∧ hp0 37 1 = 0 ∧ hp0 57 0 = 0 ∧ hp0 57 112 = 0) ∧ (hp0 0 7 = 0 ∧ hp0 0 8 = 0 ∧ hp0 0 9 = 39 ∧ hp0 38 14 = 0) ∧ hp0 20 0 = 0 ∧ hp0 0 10 = 0 ∧ hp0 38 16 = 0 := by decide +kernel
theorem hp_22 : ∀ c : Fin 8, hp0 22 (c.val : Int) = -9 ∧ hp0 46 (c.val : Int) = 0 := by decide +kernel
theorem hp_2 : mkL.all (fun e => decide (e.2.1 ≠ 2) || (decide (e.1 ≠ 0) && decide (e.2.2.1 = 10))) = true ∧ mkL.all (fun e => decide (e.2.1 ≠ 48) || (decide (e.1 ≠ 0) && decide (e.2.2.1 = 10))) = true := by decide +kernel
theorem hp_IV : IV 4 12 0 hp0 := by
  obtain ⟨n1, n2, n3, n4, n5, n6, n7, n8, n9, n10, n11, n12⟩ := hp_n
  have f8 : ∀ c : Int, 0 ≤ c → c < 8 → hp0 22 c = -9 ∧ hp0 46 c = 0 := fun c c0 c1 => by
    have := hp_22 ⟨c.toNat, by omega⟩
    dsimp only at this
    rw [show ((c.toNat : Nat) : Int) = c by omega] at this
    exact this
  have two : ∀ z : Int, (z = 8 ∨ z = 39) → ∀ i, 0 ≤ i → i < 2 → 0 ≤ hp0 z i ∧ hp0 z i ≤ 9 := fun z hz i i0 i1 => by
    have : i = 0 ∨ i = 1 := by omega
    rcases hz with rfl | rfl
    · rcases this with rfl | rfl
      · rw [n3.1]; omega
      · rw [n3.2]; omega
    · rcases this with rfl | rfl
      · rw [n4.1]; omega
      · rw [n4.2]; omega
  refine ⟨⟨Or.inl ⟨rfl, rfl⟩, hp_RC, hp_CB, ?_⟩, ⟨hp_RM, hp_MB, ?_⟩, nw_TE n5.1 n5.2.1 n5.2.2.1 n5.2.2.2 ?_, ?_, nw_NP n6.1 n6.2.1 n6.2.2 (fun c c0 c1 => (f8 c c0 c1).1) n7.1 n7.2.1 n7.2.2 (fun c c0 c1 => (f8 c c0 c1).2), ⟨nw_NI n8.1 n8.2.2.1, nw_NI n8.2.1 n8.2.2.2⟩, nw_HD n9.1 n9.2.1 n9.2.2.1 n9.2.2.2, ⟨Or.inl n10, fun z => ?_⟩, ⟨?_, ?_, ?_⟩⟩
  · unfold CA
    rw [n1.1, n1.2.1, n1.2.2.1]
    exact ⟨two 8 (Or.inl rfl), fun i i0 i1 => by omega, fun i i0 i1 => by omega, fun i i0 i1 => by omega⟩
  · unfold MA
    rw [n2.1, n2.2.1, n2.2.2.1]
    exact ⟨two 39 (Or.inr rfl), fun i i0 i1 => by omega, fun i i0 i1 => by omega, fun i i0 i1 => by omega⟩
  · funext b
    show dg mkL 2 b = dg mkL 48 b
    rw [dg_zero mkL hp_2.1, dg_zero mkL hp_2.2]
  · unfold EQ
    rw [n1.1, n1.2.1, n1.2.2.1, n1.2.2.2, n2.1, n2.2.1, n2.2.2.1, n2.2.2.2, n4.1, n4.2]
    exact ⟨⟨rfl, rfl, rfl, rfl⟩, ⟨n3.1, n3.2⟩, fun i i0 i1 => by omega, fun i i0 i1 => by omega, fun i i0 i1 => by omega⟩
  · rw [n10] at z; omega
  · rw [n11, n12]
  · rw [n11]; omega
  · omega
