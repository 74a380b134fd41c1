/-! Numbers, cells, locals: what the small machine's state stands for. -/
theorem rg_toInt {z : Int} (h : rg z) : (Int32.ofInt z).toInt = z := by
  unfold rg at h
  exact Int32.toInt_ofInt_of_le (by omega) (by omega)
theorem rg_inj {x y : Int} (hx : rg x) (hy : rg y) : Int32.ofInt x = Int32.ofInt y ↔ x = y := ⟨fun h => by rw [← rg_toInt hx, ← rg_toInt hy, h], fun h => by rw [h]⟩
theorem rg_lt {x y : Int} (hx : rg x) (hy : rg y) : Int32.ofInt x < Int32.ofInt y ↔ x < y := by rw [Int32.lt_iff_toInt_lt, rg_toInt hx, rg_toInt hy]
theorem rg_le {x y : Int} (hx : rg x) (hy : rg y) : Int32.ofInt x ≤ Int32.ofInt y ↔ x ≤ y := by rw [Int32.le_iff_toInt_le, rg_toInt hx, rg_toInt hy]
theorem rg_0 : rg 0 := by unfold rg; omega
theorem of_0 : Int32.ofInt 0 = 0 := rfl
theorem rg_div {x y : Int} (hx : rg x) (hy : rg y) (h : rg (x.tdiv y)) : Int32.ofInt x / Int32.ofInt y = Int32.ofInt (x.tdiv y) := by
  rw [← Int32.toInt_inj, Int32.toInt_div, rg_toInt hx, rg_toInt hy, rg_toInt h]
  unfold rg at h
  exact Int.bmod_eq_of_le (by omega) (by omega)
theorem rg_rem1 {x y : Int} (hx : rg x) : rg (x.tmod y) := by
  have h := Int.natAbs_tmod x y
  have h2 : x.natAbs % y.natAbs ≤ x.natAbs := Nat.mod_le _ _
  unfold rg at hx ⊢
  by_cases hp : 0 ≤ x
  · have := Int.tmod_nonneg y hp
    omega
  · have : (x.tmod y) ≤ 0 := by
      have h3 := Int.tmod_nonneg y (show 0 ≤ -x by omega)
      rw [Int.neg_tmod] at h3
      omega
    omega
theorem rg_cl {z : Int} (h : rg z) : (Int32.ofInt z).toNatClampNeg = z.toNat := by
  show (Int32.ofInt z).toInt.toNat = z.toNat
  rw [rg_toInt h]
theorem rg_in {z : Int} {n : Nat} (h : rg z) (h0 : 0 ≤ z) (h1 : z < n) : vp_in (Int32.ofInt z) n := by
  rw [vp_in_iff, rg_toInt h]
  exact ⟨h0, h1⟩
theorem of_nI {z : Int} (h : 0 ≤ z) : Int32.ofInt z = nI z.toNat := by
  show _ = Int32.ofNat z.toNat
  rw [← Int32.ofInt_eq_ofNat, Int.toNat_of_nonneg h]
theorem nI_of_cast (n : Nat) : nI n = Int32.ofInt (n : Int) := by
  show Int32.ofNat n = _
  rw [Int32.ofInt_eq_ofNat]
theorem of_tn (z : Int) : (Int32.ofInt z).toBitVec.toNat = (z % 4294967296).toNat := by
  show (BitVec.ofInt 32 z).toNat = _
  rw [BitVec.toNat_ofInt]
  rfl
theorem of_and1 (x : Int) : Int32.ofInt x &&& 1 = Int32.ofInt (x % 2) := by
  rw [pk_and (Int32.ofInt x) (m := 1) 1 (by decide), of_tn, nI_of_cast]
  congr 1
  omega
theorem of_and31 (x : Int) : Int32.ofInt x &&& 31 = Int32.ofInt (x % 32) := by
  rw [pk_and (Int32.ofInt x) (m := 31) 5 (by decide), of_tn, nI_of_cast]
  congr 1
  omega
theorem nb_and (a b : Nat) : nI a &&& nI b = nI (a &&& b) := by
  rw [← Int32.toBitVec_inj]
  show (BitVec.ofNat 32 a) &&& (BitVec.ofNat 32 b) = BitVec.ofNat 32 (a &&& b)
  rw [BitVec.ofNat_and]
theorem of_and {x y : Int} (hx : 0 ≤ x) (hy : 0 ≤ y) : Int32.ofInt x &&& Int32.ofInt y = Int32.ofInt ((x.toNat &&& y.toNat : Nat) : Int) := by
  rw [of_nI hx, of_nI hy, nb_and, nI_of_cast]
theorem sh_l : ∀ n, n < 31 → ((nI n &&& 31).toBitVec.smod 32).toNat = n := by decide +kernel
theorem sh_u : ∀ n, n < 31 → (((nI n).toUInt32 &&& Int32.toUInt32 31).toBitVec % 32).toNat = n := by decide +kernel
theorem cast_pow (k : Nat) : ((2 ^ k : Nat) : Int) = (2 : Int) ^ k := by
  rw [Int.natCast_pow]; rfl
theorem of_shl {x y : Int} (hx : 0 ≤ x) (hy : 0 ≤ y) (hy2 : y ≤ 30) (h : rg (x * 2 ^ y.toNat)) : Int32.ofInt x <<< (Int32.ofInt y &&& 31) = Int32.ofInt (x * 2 ^ y.toNat) := by
  have e : ((x.toNat * 2 ^ y.toNat : Nat) : Int) = x * 2 ^ y.toNat := by
    rw [Int.natCast_mul, cast_pow, Int.toNat_of_nonneg hx]
  rw [of_nI hx, of_nI hy, pk_shlN _ y.toNat (sh_l _ (by omega)) (by unfold rg at h; omega), nI_of_cast, e]
theorem of_shr {x y : Int} (hr : rg x) (hx : 0 ≤ x) (hy : 0 ≤ y) (hy2 : y ≤ 30) : Int32.ofInt x >>> (Int32.ofInt y &&& 31) = Int32.ofInt (x / 2 ^ y.toNat) := by
  have e : ((x.toNat / 2 ^ y.toNat : Nat) : Int) = x / 2 ^ y.toNat := by
    rw [Int.natCast_ediv, cast_pow, Int.toNat_of_nonneg hx]
  rw [of_nI hx, of_nI hy, pk_shrN (by unfold rg at hr; omega) _ y.toNat (sh_l _ (by omega)), nI_of_cast, e]
theorem of_ushr {x y : Int} (hr : rg x) (hx : 0 ≤ x) (hy : 0 ≤ y) (hy2 : y ≤ 30) : ((Int32.ofInt x).toUInt32 >>> ((Int32.ofInt y).toUInt32 &&& Int32.toUInt32 31)).toInt32 = Int32.ofInt (x / 2 ^ y.toNat) := by
  have e : ((x.toNat / 2 ^ y.toNat : Nat) : Int) = x / 2 ^ y.toNat := by
    rw [Int.natCast_ediv, cast_pow, Int.toNat_of_nonneg hx]
  rw [of_nI hx, of_nI hy, pk_ushrN (by unfold rg at hr; omega) _ y.toNat (sh_u _ (by omega)), nI_of_cast, e]
theorem rg_shr {x : Int} {k : Nat} (hr : rg x) (hx : 0 ≤ x) : rg (x / 2 ^ k) := by
  have h1 : 0 ≤ x / 2 ^ k := Int.ediv_nonneg hx (Int.pow_nonneg (by omega))
  have h2 : x / 2 ^ k ≤ x := Int.ediv_le_self _ hx
  unfold rg at hr ⊢
  omega
theorem rg_and {x y : Int} (hr : rg x) (hx : 0 ≤ x) : rg ((x.toNat &&& y.toNat : Nat) : Int) := by
  have h := Nat.and_le_left (n := x.toNat) (m := y.toNat)
  unfold rg at hr ⊢
  omega
theorem rg_max {x y : Int} (hx : rg x) (hy : rg y) : (if Int32.ofInt x < Int32.ofInt y then Int32.ofInt y else Int32.ofInt x) = Int32.ofInt (max x y) := by
  by_cases h : x < y
  · rw [if_pos ((rg_lt hx hy).mpr h), Int.max_eq_right (by omega)]
  · rw [if_neg (fun q => h ((rg_lt hx hy).mp q)), Int.max_eq_left (by omega)]
theorem rg_min {x y : Int} (hx : rg x) (hy : rg y) : (if Int32.ofInt y < Int32.ofInt x then Int32.ofInt y else Int32.ofInt x) = Int32.ofInt (min x y) := by
  by_cases h : y < x
  · rw [if_pos ((rg_lt hy hx).mpr h), Int.min_eq_right (by omega)]
  · rw [if_neg (fun q => h ((rg_lt hy hx).mp q)), Int.min_eq_left (by omega)]
/-- values -/
def ms_c (ad ex : Nat → Nat) : ms_V → Value
  | Sum.inl z => .int (Int32.ofInt z)
  | Sum.inr (Sum.inl z) => .long (Int64.ofInt z)
  | Sum.inr (Sum.inr (Sum.inl z)) => .ref (ad z.toNat)
  | Sum.inr (Sum.inr (Sum.inr n)) => .ref (ex n)
def ms_vok (S : ms_S) : ms_V → Prop
  | Sum.inl z => rg z
  | Sum.inr (Sum.inl z) => rg z
  | Sum.inr (Sum.inr (Sum.inl z)) => rg z ∧ 0 ≤ z ∧ z < S.length
  | Sum.inr (Sum.inr (Sum.inr _)) => True
theorem ms_c_cat {ad ex : Nat → Nat} {v : ms_V} (h : ms_nl v = true) : (ms_c ad ex v).category = 1 := by
  rcases v with z | z | z | z
  · rfl
  · cases h
  · rfl
  · rfl
theorem ms_c_cat2 (ad ex : Nat → Nat) (v : ms_V) : (ms_c ad ex v).category ≤ 2 := by
  rcases v with z | z | z | z <;> simp [ms_c, Value.category]
theorem ms_sum (ad ex : Nat → Nat) : ∀ (st : List ms_V), (((st.map (ms_c ad ex)).map fun v => v.category).sum) ≤ 2 * st.length
  | [] => by simp
  | v :: st => by
    have h1 := ms_sum ad ex st
    have h2 := ms_c_cat2 ad ex v
    simp only [List.map_cons, List.sum_cons, List.length_cons]
    omega
theorem ms_vok_mono {S S' : ms_S} (h : S.length ≤ S'.length) {v : ms_V} (hv : ms_vok S v) : ms_vok S' v := by
  rcases v with z | z | z | z
  · exact hv
  · exact hv
  · exact ⟨hv.1, hv.2.1, by have := hv.2.2; omega⟩
  · trivial
theorem ms_c_ext {S : ms_S} {ad ad' ex : Nat → Nat} (h : ∀ k, k < S.length → ad' k = ad k) {v : ms_V} (hv : ms_vok S v) : ms_c ad' ex v = ms_c ad ex v := by
  rcases v with z | z | z | z
  · rfl
  · rfl
  · show Value.ref _ = Value.ref _
    rw [h z.toNat (by have := hv.2; omega)]
  · rfl
theorem ms_c_exts {S : ms_S} {ad ad' ex : Nat → Nat} (h : ∀ k, k < S.length → ad' k = ad k) {vs : List ms_V} (hv : ∀ v ∈ vs, ms_vok S v) : vs.map (ms_c ad' ex) = vs.map (ms_c ad ex) :=
  List.map_congr_left (fun v hm => ms_c_ext h (hv v hm))
/-- locals -/
def lv1 (ad ex : Nat → Nat) (L : List ms_V) (i : Nat) : Option (Nat × Value) := match L[i]? with
  | some v => if ms_nl v = true then some (i, ms_c ad ex v) else none
  | none => none
def lvl (ad ex : Nat → Nat) (L : List ms_V) : List (Nat × Value) := (List.range L.length).filterMap (lv1 ad ex L)
theorem lvl_mem {ad ex : Nat → Nat} {L : List ms_V} {q : Nat × Value} : q ∈ lvl ad ex L ↔ ∃ v, L[q.1]? = some v ∧ ms_nl v = true ∧ q.2 = ms_c ad ex v := by
  unfold lvl
  rw [List.mem_filterMap]
  constructor
  · rintro ⟨i, hi, h⟩
    unfold lv1 at h
    split at h
    · rename_i v hv
      split at h
      · rename_i hn
        cases h
        exact ⟨v, hv, hn, rfl⟩
      · cases h
    · cases h
  · rintro ⟨v, hv, hn, he⟩
    refine ⟨q.1, List.mem_range.mpr (List.getElem?_eq_some_iff.mp hv).1, ?_⟩
    unfold lv1
    rw [hv]
    simp only [hn, if_true]
    rw [← he]
theorem lvl_at {ad ex : Nat → Nat} {L : List ms_V} {ls : Array Slot} {nL i : Nat} {v : ms_V} (h : lv_has ls nL (lvl ad ex L)) (hv : L[i]? = some v) (hn : ms_nl v = true) : ls[i]? = some (.val (ms_c ad ex v)) :=
  h.2.2 (i, ms_c ad ex v) (lvl_mem.mpr ⟨v, hv, hn, rfl⟩)
theorem lvl_set {ad ex : Nat → Nat} {L : List ms_V} {ls : Array Slot} {nL i : Nat} {v : ms_V} (hi : i < L.length) (h : lv_has ls nL ((i, ms_c ad ex v) :: (lvl ad ex L).filter (fun q => !(q.1 == i) && !(q.1 + 1 == i && q.2.category == 2)))) : lv_has ls nL (lvl ad ex (L.set i v)) := by
  refine ⟨h.1, h.2.1, fun q hq => ?_⟩
  obtain ⟨w, h1, h2, h3⟩ := lvl_mem.mp hq
  by_cases hqi : q.1 = i
  · rw [hqi, List.getElem?_set_self hi] at h1
    cases h1
    refine h.2.2 q (List.mem_cons.mpr (Or.inl ?_))
    rw [← h3, ← hqi]
  · rw [List.getElem?_set_ne (fun z => hqi z.symm)] at h1
    refine h.2.2 q (List.mem_cons.mpr (Or.inr (List.mem_filter.mpr ⟨lvl_mem.mpr ⟨w, h1, h2, h3⟩, ?_⟩)))
    have hc : q.2.category = 1 := by rw [h3]; exact ms_c_cat h2
    simp [hqi, hc]
theorem lvl_ext {S : ms_S} {ad ad' ex : Nat → Nat} {L : List ms_V} (h : ∀ k, k < S.length → ad' k = ad k) (hv : ∀ v ∈ L, ms_vok S v) : lvl ad' ex L = lvl ad ex L := by
  unfold lvl
  have : lv1 ad' ex L = lv1 ad ex L := by
    funext i
    unfold lv1
    split
    · rename_i v hi
      rw [ms_c_ext h (hv v (List.mem_of_getElem? hi))]
    · rfl
  rw [this]
