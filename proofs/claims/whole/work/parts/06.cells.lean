/-! Cells: what the small machine's heap stands for. -/
abbrev ms_cls : List vw_C := [(RX0, TX0, 7), (RX1, TX1, 7), (RX2, TX2, 9), (RX3, TX3, 11), (RX4, TX4, 11), (RX5, TX5, 37)]
def ms_ty : Nat → Nat → FieldType
  | 0 => tyX0
  | 1 => tyX1
  | 2 => tyX2
  | 3 => tyX3
  | 4 => tyX4
  | _ => tyX5
def ms_tys (cA : Nat → ClassId) : List (ClassId × FieldType) := [(cA 0, .int), (cA 1, .boolean), (cA 2, .object RX1)]
def ms_rf (ad : Nat → Nat) (v : Int) : Option Nat := if v < 0 then none else some (ad v.toNat)
def ms_fv (ad : Nat → Nat) (t : Nat) (v : Int) : Value := if t = 3 then va_rf (ms_rf ad v) else if t = 2 then .long (Int64.ofInt v) else .int (Int32.ofInt v)
def ms_cell (ad : Nat → Nat) (cA : Nat → ClassId) (sh : Nat × Nat) (f : Int → Int) : va_E :=
  if sh.1 < 10 then .inr (sh.1, (List.range sh.2).map (fun k : Nat => ms_fv ad (ms_ft sh.1 k) (f k)))
  else if sh.1 = 12 then .inl (cA 2, sh.2, .inr (.inr (.inr (.inr (fun j => ms_rf ad (f j))))))
  else .inl (cA (sh.1 - 10), sh.2, .inl (fun j => Int32.ofInt (f j)))
def ms_ws (ad : Nat → Nat) (cA : Nat → ClassId) (S : ms_S) (h : ms_H) : va_W := (List.range S.length).map (fun z => (ad z, ms_cell ad cA (S.getD z (0, 0)) (h z)))
def ms_isr (kd : Nat) (b : Int) : Prop := kd = 12 ∨ (kd < 10 ∧ ms_ft kd b = 3)
def ms_hok (S : ms_S) (h : ms_H) : Prop := (∀ a b, rg (h a b)) ∧ ∀ a b kd n, ms_sh S a = some (kd, n) → ms_isr kd b → h a b < S.length
theorem ms_sh_x {S : ms_S} {z : Int} {q : Nat × Nat} (h : ms_sh S z = some q) : 0 ≤ z ∧ z.toNat < S.length ∧ S[z.toNat]? = some q ∧ ((z.toNat : Nat) : Int) = z := by
  unfold ms_sh at h
  split at h
  · cases h
  · exact ⟨by omega, (List.getElem?_eq_some_iff.mp h).1, h, by omega⟩
theorem ms_sh_nat (S : ms_S) (k : Nat) : ms_sh S (k : Int) = S[k]? := by
  unfold ms_sh
  rw [if_neg (by omega)]
  rfl
theorem ms_ws_at {ad : Nat → Nat} {cA : Nat → ClassId} {S : ms_S} {h : ms_H} {z : Int} {q : Nat × Nat} (hs : ms_sh S z = some q) : (ms_ws ad cA S h)[z.toNat]? = some (ad z.toNat, ms_cell ad cA q (h z)) := by
  obtain ⟨h0, h1, h2, h3⟩ := ms_sh_x hs
  unfold ms_ws
  rw [List.getElem?_map, List.getElem?_range h1]
  show some (ad z.toNat, ms_cell ad cA (S.getD z.toNat (0, 0)) (h z.toNat)) = _
  rw [h3, List.getD_eq_getElem?_getD, h2]
  rfl
theorem ms_ws_len {ad : Nat → Nat} {cA : Nat → ClassId} {S : ms_S} {h : ms_H} : (ms_ws ad cA S h).length = S.length := by simp [ms_ws]
theorem ms_ws_nat {ad : Nat → Nat} {cA : Nat → ClassId} {S : ms_S} {h : ms_H} {k : Nat} (hk : k < S.length) : (ms_ws ad cA S h)[k]? = some (ad k, ms_cell ad cA (S.getD k (0, 0)) (h k)) := by
  unfold ms_ws
  rw [List.getElem?_map, List.getElem?_range hk]
  rfl
/-- one cell changed -/
theorem ms_ws_set {ad : Nat → Nat} {cA : Nat → ClassId} {S : ms_S} {h h' : ms_H} {z : Int} {q : Nat × Nat} {e : va_E} (hs : ms_sh S z = some q) (ho : ∀ a, a ≠ z → h' a = h a) (he : ms_cell ad cA q (h' z) = e) : (ms_ws ad cA S h).set z.toNat (ad z.toNat, e) = ms_ws ad cA S h' := by
  obtain ⟨h0, h1, h2, h3⟩ := ms_sh_x hs
  apply List.ext_getElem?
  intro k
  by_cases hk : k < S.length
  · by_cases hkz : k = z.toNat
    · subst hkz
      rw [List.getElem?_set_self (by rw [ms_ws_len]; exact hk), ms_ws_at hs, he]
    · rw [List.getElem?_set_ne (fun q => hkz q.symm), ms_ws_nat hk, ms_ws_nat hk, ho (k : Int) (by omega)]
  · rw [List.getElem?_eq_none (by rw [List.length_set, ms_ws_len]; omega), List.getElem?_eq_none (by rw [ms_ws_len]; omega)]
theorem hs_ne {h : ms_H} {z k v a : Int} (ha : a ≠ z) : hs h z k v a = h a := by
  funext b
  unfold hs
  rw [if_neg (fun q => ha q.1)]
theorem ms_obj_cell {ad : Nat → Nat} {cA : Nat → ClassId} {ci n : Nat} {f : Int → Int} (hc : ci < 10) : ms_cell ad cA (ci, n) f = .inr (ci, (List.range n).map (fun k : Nat => ms_fv ad (ms_ft ci k) (f k))) := by
  unfold ms_cell
  rw [if_pos hc]
theorem ms_int_cell {ad : Nat → Nat} {cA : Nat → ClassId} {n : Nat} {f : Int → Int} : ms_cell ad cA (10, n) f = .inl (cA 0, n, .inl (fun j => Int32.ofInt (f j))) := rfl
theorem ms_bool_cell {ad : Nat → Nat} {cA : Nat → ClassId} {n : Nat} {f : Int → Int} : ms_cell ad cA (11, n) f = .inl (cA 1, n, .inl (fun j => Int32.ofInt (f j))) := rfl
theorem ms_ref_cell {ad : Nat → Nat} {cA : Nat → ClassId} {n : Nat} {f : Int → Int} : ms_cell ad cA (12, n) f = .inl (cA 2, n, .inr (.inr (.inr (.inr (fun j => ms_rf ad (f j)))))) := rfl
/-- a field written -/
theorem ms_ws_put {ad : Nat → Nat} {cA : Nat → ClassId} {S : ms_S} {h : ms_H} {z v : Int} {ci n k : Nat} (hs0 : ms_sh S z = some (ci, n)) (hc : ci < 10) :
    (ms_ws ad cA S h).set z.toNat (ad z.toNat, .inr (ci, ((List.range n).map (fun k : Nat => ms_fv ad (ms_ft ci k) (h z k))).set k (ms_fv ad (ms_ft ci k) v))) = ms_ws ad cA S (hs h z k v) := by
  refine ms_ws_set hs0 (fun a ha => hs_ne ha) ?_
  rw [ms_obj_cell hc]
  congr 2
  apply List.ext_getElem?
  intro j
  by_cases hj : j < n
  · by_cases hjk : j = k
    · subst hjk
      rw [List.getElem?_set_self (by simpa using hj), List.getElem?_map, List.getElem?_range hj]
      show some (ms_fv ad (ms_ft ci j) (hs h z j v z j)) = _
      unfold hs
      rw [if_pos ⟨rfl, rfl⟩]
    · rw [List.getElem?_set_ne (fun q => hjk q.symm), List.getElem?_map, List.getElem?_map, List.getElem?_range hj]
      show some (ms_fv ad (ms_ft ci j) (hs h z k v z j)) = some (ms_fv ad (ms_ft ci j) (h z j))
      unfold hs
      rw [if_neg (fun q => hjk (by have := q.2; omega))]
  · rw [List.getElem?_eq_none (by simpa using hj), List.getElem?_eq_none (by simpa using hj)]
/-- an element written -/
theorem ms_upd {f : Int → Int} {i v : Int} (hi : 0 ≤ i) (g : Int → Int) (hg : ∀ b, g b = if b = i then v else f b) : (fun j : Nat => Int32.ofInt (g j)) = upd (fun j : Nat => Int32.ofInt (f j)) i.toNat (Int32.ofInt v) := by
  funext j
  show _ = if j = i.toNat then _ else _
  rw [hg]
  by_cases hj : (j : Int) = i
  · rw [if_pos hj, if_pos (by omega)]
  · rw [if_neg hj, if_neg (by omega)]
theorem hs_at (h : ms_H) (z i v b : Int) : hs h z i v z b = if b = i then v else h z b := by
  unfold hs
  by_cases hb : b = i
  · rw [if_pos ⟨rfl, hb⟩, if_pos hb]
  · rw [if_neg (fun q => hb q.2), if_neg hb]
theorem ms_ws_int {ad : Nat → Nat} {cA : Nat → ClassId} {S : ms_S} {h : ms_H} {z i v : Int} {n : Nat} (hs0 : ms_sh S z = some (10, n)) (hi : 0 ≤ i) :
    (ms_ws ad cA S h).set z.toNat (ad z.toNat, .inl (cA 0, n, .inl (upd (fun j : Nat => Int32.ofInt (h z j)) i.toNat (Int32.ofInt v)))) = ms_ws ad cA S (hs h z i v) := by
  refine ms_ws_set hs0 (fun a ha => hs_ne ha) ?_
  rw [ms_int_cell, ms_upd hi (hs h z i v z) (hs_at h z i v)]
theorem ms_ws_bool {ad : Nat → Nat} {cA : Nat → ClassId} {S : ms_S} {h : ms_H} {z i v : Int} {n : Nat} (hs0 : ms_sh S z = some (11, n)) (hi : 0 ≤ i) :
    (ms_ws ad cA S h).set z.toNat (ad z.toNat, .inl (cA 1, n, .inl (upd (fun j : Nat => Int32.ofInt (h z j)) i.toNat (Int32.ofInt v)))) = ms_ws ad cA S (hs h z i v) := by
  refine ms_ws_set hs0 (fun a ha => hs_ne ha) ?_
  rw [ms_bool_cell, ms_upd hi (hs h z i v z) (hs_at h z i v)]
theorem ms_ws_ref {ad : Nat → Nat} {cA : Nat → ClassId} {S : ms_S} {h : ms_H} {z i v : Int} {n : Nat} (hs0 : ms_sh S z = some (12, n)) (hi : 0 ≤ i) (hv : 0 ≤ v) :
    (ms_ws ad cA S h).set z.toNat (ad z.toNat, .inl (cA 2, n, .inr (.inr (.inr (.inr (va_up (fun j : Nat => ms_rf ad (h z j)) i.toNat (some (ad v.toNat)))))))) = ms_ws ad cA S (hs h z i v) := by
  refine ms_ws_set hs0 (fun a ha => hs_ne ha) ?_
  rw [ms_ref_cell]
  congr 6
  apply congrArg Sum.inr
  funext j
  show ms_rf ad (hs h z i v z j) = if j = i.toNat then _ else _
  rw [hs_at]
  by_cases hj : (j : Int) = i
  · rw [if_pos hj, if_pos (by omega)]
    unfold ms_rf
    rw [if_neg (by omega)]
  · rw [if_neg hj, if_neg (by omega)]
theorem ms_cpy_ne {h : ms_H} {s sp d dp n a : Int} (ha : a ≠ d) : ms_cpy h s sp d dp n a = h a := by
  funext b
  unfold ms_cpy
  rw [if_neg (fun q => ha q.1)]
theorem ms_ws_cpy {ad : Nat → Nat} {cA : Nat → ClassId} {S : ms_S} {h : ms_H} {s sp d dp n : Int} {n1 : Nat} (hs1 : ms_sh S d = some (10, n1)) (h1 : 0 ≤ sp) (h2 : 0 ≤ dp) (h3 : 0 ≤ n) :
    (ms_ws ad cA S h).set d.toNat (ad d.toNat, .inl (cA 0, n1, .inl (va_cpy (fun j : Nat => Int32.ofInt (h s j)) (fun j : Nat => Int32.ofInt (h d j)) sp.toNat dp.toNat n.toNat))) = ms_ws ad cA S (ms_cpy h s sp d dp n) := by
  refine ms_ws_set hs1 (fun a ha => ms_cpy_ne ha) ?_
  rw [ms_int_cell]
  congr 3
  apply congrArg Sum.inl
  funext j
  unfold va_cpy ms_cpy
  by_cases hj : dp ≤ (j : Int) ∧ (j : Int) < dp + n
  · rw [if_pos ⟨rfl, hj.1, hj.2⟩, if_pos (by omega)]
    congr 2
    omega
  · rw [if_neg (fun q => hj q.2), if_neg (by omega)]
/-- a cell made -/
def ms_ad (ad : Nat → Nat) (n q : Nat) : Nat → Nat := fun k => if k = n then q else ad k
theorem ms_ad_lt {ad : Nat → Nat} {n q k : Nat} (h : k < n) : ms_ad ad n q k = ad k := by
  unfold ms_ad
  rw [if_neg (by omega)]
theorem ms_ad_self {ad : Nat → Nat} {n q : Nat} : ms_ad ad n q n = q := by
  unfold ms_ad
  rw [if_pos rfl]
theorem ms_rf_ext {S : ms_S} {ad ad' : Nat → Nat} (h : ∀ k, k < S.length → ad' k = ad k) {v : Int} (hv : v < S.length) : ms_rf ad' v = ms_rf ad v := by
  unfold ms_rf
  split
  · rfl
  · rw [h _ (by omega)]
theorem ms_cell_ext {S : ms_S} {ad ad' : Nat → Nat} {cA : Nat → ClassId} (h : ∀ k, k < S.length → ad' k = ad k) {q : Nat × Nat} {f : Int → Int} (hf : ∀ b, ms_isr q.1 b → f b < S.length) : ms_cell ad' cA q f = ms_cell ad cA q f := by
  unfold ms_cell
  split
  · rename_i hc
    congr 2
    apply List.map_congr_left
    intro k _
    unfold ms_fv
    split
    · rename_i h3
      rw [ms_rf_ext h (hf k (Or.inr ⟨hc, h3⟩))]
    · rfl
  · split
    · rename_i hc
      congr 6
      apply congrArg Sum.inr
      funext j
      exact ms_rf_ext h (hf j (Or.inl hc))
    · rfl
theorem ms_ws_push {ad : Nat → Nat} {cA : Nat → ClassId} {S : ms_S} {h : ms_H} {q : Nat × Nat} {a : Nat} {e : va_E} (hh : ms_hok S h) (he : ms_cell (ms_ad ad S.length a) cA q (ms_nw h S.length q.1 S.length) = e) :
    ms_ws ad cA S h ++ [(a, e)] = ms_ws (ms_ad ad S.length a) cA (S ++ [q]) (ms_nw h S.length q.1) := by
  apply List.ext_getElem?
  intro k
  by_cases hk : k < S.length
  · rw [List.getElem?_append_left (by rw [ms_ws_len]; exact hk), ms_ws_nat hk, ms_ws_nat (by simp; omega), ms_ad_lt hk]
    have h1 : (S ++ [q]).getD k (0, 0) = S.getD k (0, 0) := by
      rw [List.getD_eq_getElem?_getD, List.getD_eq_getElem?_getD, List.getElem?_append_left hk]
    have h2 : ms_nw h S.length q.1 k = h k := by
      funext b
      unfold ms_nw
      rw [if_neg (by omega)]
    rw [h1, h2, ms_cell_ext (S := S) (fun j hj => ms_ad_lt hj)]
    intro b hb
    refine hh.2 k b (S.getD k (0, 0)).1 (S.getD k (0, 0)).2 ?_ hb
    rw [ms_sh_nat, List.getD_eq_getElem?_getD, List.getElem?_eq_getElem hk]
    rfl
  · by_cases hk2 : k = S.length
    · subst hk2
      rw [List.getElem?_append_right (by rw [ms_ws_len]; omega), ms_ws_nat (by simp)]
      have h1 : (S ++ [q]).getD S.length (0, 0) = q := by
        rw [List.getD_eq_getElem?_getD]
        simp
      rw [h1, ms_ad_self, he, ms_ws_len]
      simp
    · rw [List.getElem?_eq_none (by simp [ms_ws_len]; omega), List.getElem?_eq_none (by rw [ms_ws_len]; simp; omega)]
-- the heap stays as it must be
theorem hok_set {S : ms_S} {h : ms_H} {z k v : Int} (hh : ms_hok S h) (hv : rg v) (hr : ∀ kd n, ms_sh S z = some (kd, n) → ms_isr kd k → v < S.length) : ms_hok S (hs h z k v) := by
  refine ⟨fun a b => ?_, fun a b kd n hs1 hi => ?_⟩
  · unfold hs
    split
    · exact hv
    · exact hh.1 a b
  · unfold hs
    split
    · rename_i hq
      obtain ⟨rfl, rfl⟩ := hq
      exact hr kd n hs1 hi
    · exact hh.2 a b kd n hs1 hi
theorem hok_cpy {S : ms_S} {h : ms_H} {s sp d dp n : Int} {n1 : Nat} (hh : ms_hok S h) (hd : ms_sh S d = some (10, n1)) : ms_hok S (ms_cpy h s sp d dp n) := by
  refine ⟨fun a b => ?_, fun a b kd n hs1 hi => ?_⟩
  · unfold ms_cpy
    split
    · exact hh.1 _ _
    · exact hh.1 a b
  · unfold ms_cpy
    split
    · rename_i hq
      obtain ⟨rfl, -⟩ := hq
      rw [hd] at hs1
      cases hs1
      rcases hi with hi | hi
      · cases hi
      · exact absurd hi.1 (by decide)
    · exact hh.2 a b kd n hs1 hi
theorem hok_new {S : ms_S} {h : ms_H} {q : Nat × Nat} (hh : ms_hok S h) : ms_hok (S ++ [q]) (ms_nw h S.length q.1) := by
  refine ⟨fun a b => ?_, fun a b kd n hs1 hi => ?_⟩
  · unfold ms_nw
    split
    · split
      · unfold rg; omega
      · unfold rg; omega
    · exact hh.1 a b
  · unfold ms_nw
    split
    · rw [List.length_append]
      split <;> simp <;> omega
    · rename_i hq
      have h1 := ms_sh_x hs1
      have h2 : ms_sh S a = some (kd, n) := by
        unfold ms_sh
        rw [if_neg (by omega)]
        have h3 := h1.2.2.1
        rw [List.getElem?_append_left (by have h4 := h1.2.1; rw [List.length_append] at h4; simp at h4; omega)] at h3
        exact h3
      have h5 := hh.2 a b kd n h2 hi
      rw [List.length_append]
      simp
      omega
