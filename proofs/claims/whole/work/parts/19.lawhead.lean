-- ===== end of PART A; then your names; then what follows =====
/-! THE CLAIM OUT OF ONE WALK OF THE LAW'S BODY. Your part is whole_start (and what it stands on); all else here is the same for every law, but numbers. -/
def R_law : String := "SleetLineLaw"
def lw_P (b : Addr) (xs : List Int32) (args : Array Value) (s : State) : Prop := args = #[.ref b] ∧ s.IntsAt b xs ∧ xs.length ≤ 3072 ∧ (Jvm.Cond.and given_1 narrow_1).before args s = true
def lw_Q (_ : Array Value) (s : State) (o : Outcome) (t : State) : Prop := o = .returned (some (.int 1)) ∧ Framed s o t [] 600000 7302250
def lw_Z (below : List Frame) (a : Array Value) (s : State) : State → Prop := fun t => ∃ o, t.status = .running ∧ Ended t below o ∧ lw_Q a s o t
/-- the law's own end, with 1 on the stack, nothing written that was there before, its room as the claim has it -/
theorem lw_ret {p : Program} {l : Launch} {e : Env} {s : State} {m : MethodId} {below : List Frame} {meth : Method} {c : Code} {b : Nat} (hx : p.tables.exec = Jvm.exec) (hb : c.code = code) (hr : meth.sig.returnType = ret) (hlocks : meth.locks = false) {pc : Nat} {H : Heap} {ls : Array Slot} (hdg : decode code pc = .ok (.ireturn, 1)) : W p l e room_1 s m #[Value.ref b] below meth c H [] 600000 7302250 (lw_Z below #[Value.ref b] s) (F0 m pc ls [.int 1]) := by
  intro T hT X
  obtain ⟨fs, hret, hrun, hended, hW, hframe⟩ := X.leave (v := some (.int 1)) (hlocks := hlocks) (fun h => by rw [hr] at h; cases h)
  have hmeth' : T.vm.method? m = some meth := X.method'
  refine ⟨T.setFrames fs, ?_, .returned (some (.int 1)), hrun, hended, rfl, ⟨_, rfl⟩, hW, hframe⟩
  jvm_step X.here [X.here.top, hx, hb, hdg, hmeth', hr, ret, narrow_b1]
  (try refine ⟨rfl, ?_⟩); (try refine ⟨rfl, ?_⟩)
  first | (intro acts; rw [hret _ acts rfl rfl rfl]) | rw [hret _ _ rfl rfl rfl]
  exact Steps.refl _
/-- what holds at the law's entry: the machine, the code, the tables' words (any of lw_tbl by 'hts w (by decide +kernel)'), the script of L ints xs at the cell b, what the Statement gives of the start (any of its parts by flat_of_before) -/
def lw_At (p : Program) (s : State) (m : MethodId) (meth : Method) (c : Code) (b L : Nat) (xs : Nat → Int32) : Prop :=
  p.tables.exec = Jvm.exec ∧ c.code = code ∧ meth.sig.returnType = ret ∧ c.maxLocals = 4 ∧ s.vm.findClass R_law = some m.cls ∧ (∀ w ∈ lw_tbl, w.before #[Value.ref b] s = true) ∧ va_X b L xs s s.heap ∧ b < s.heap.size ∧ meth.locks = false ∧ (Jvm.Cond.and given_1 narrow_1).before #[Value.ref b] s = true

/-! The law's walk out of the small machine's. -/
def ms_XL (L : Nat) (f : Int → Int) : ms_Z := fun n => if n = 0 then some (L, f) else ms_X1 n
def ms_law (L : Nat) (f : Int → Int) : Prop := ms_WP (ms_Ok ms_P 30) (ms_XL L f) ML_law (fun r _ _ => r = some (mI 1)) (M_bl ML_law 0) [mE 0, mL 0, mL 0, mL 0] [] ([], 0, 0) (fun _ _ => 0)
theorem wd_law : (wd 130 (.arrayClass .int) && wd 289 (.arrayClass .boolean) && wd 88 (.instantiable RX4 11) && wd 96 (.instantiable RX2 9) && wd 132 (.instantiable RX3 11) && wd 190 (.instantiable RX0 7) && wd 223 (.instantiable RX1 7) && wd 655 (.instantiable RX5 37) && wd 78 (.initialized "SleetLine")) = true := by decide +kernel
theorem lt_over : lw_tbl[254]? = some (Cond.arrayOver (.object RX1)) := by decide +kernel
theorem lt_lays : lw_tbl[555]? = some (Cond.laysStatic "SleetLine" "ORDERS" "[I") := by decide +kernel
theorem lt_nest : ∀ q ∈ ms_nest, Cond.methodLinkNest q.1 q.2.1 q.2.2 "SleetLine" ∈ lw_tbl := by
  intro q hq
  simp only [ms_nest, List.mem_cons, List.not_mem_nil, or_false] at hq
  rcases hq with rfl | rfl | rfl | rfl | rfl
  · exact List.mem_of_getElem? (i := 97) (by decide +kernel)
  · exact List.mem_of_getElem? (i := 133) (by decide +kernel)
  · exact List.mem_of_getElem? (i := 191) (by decide +kernel)
  · exact List.mem_of_getElem? (i := 224) (by decide +kernel)
  · exact List.mem_of_getElem? (i := 321) (by decide +kernel)
theorem ms_arrK {args : Array Value} {s : State} {ty : FieldType} (h : (Cond.arrayClass ty).before args s = true) (hty : ∀ C, ty ≠ .object C) : ∃ cA : ClassId, ArrOfT s cA ty ∧ va_RA s cA ty := by
  obtain ⟨c, k, comp, h1, h2, h3⟩ := Cond.arrayClass_spec h
  refine ⟨c, fun n z => ⟨fun k h => (by cases h), k, h2, comp, h3⟩, ?_⟩
  cases ty
  case object C => exact absurd rfl (hty C)
  all_goals exact h1
theorem ms_arrO {s : State} {C : String} (h : va_AO C s) : ∃ cA : ClassId, ArrOfT s cA (.object C) ∧ va_RA s cA (.object C) := by
  obtain ⟨comp, c, k, h1, h2, h3, h4, h5⟩ := Cond.arrayOver_spec h
  exact ⟨c, fun n z => ⟨fun k h => (by cases h), k, h3, comp, h4⟩, k, comp, h3, h4, h1, h5⟩
theorem rg_i32 (x : Int32) : rg x.toInt := by
  have h1 := Int32.le_toInt x
  have h2 := Int32.toInt_lt x
  unfold rg
  omega
set_option maxHeartbeats 4000000 in
theorem law_of_wp {p : Program} {e : Env} {s : State} {m : MethodId} {below : List Frame} {meth : Method} {c : Code} (l : Launch) {b L : Nat} {xs : Nat → Int32} (hL : L ≤ 3072) (C0 : lw_At p s m meth c b L xs) (hwp : ms_law L (fun i => (xs i.toNat).toInt)) : W p l e room_1 s m #[Value.ref b] below meth c s.heap [] 0 0 (lw_Z below #[Value.ref b] s) (entryFrame m ([Value.ref b] : List Value).toArray 4) := by
  obtain ⟨hx, hb, hr, hml, hown, hts, hX, hbl, hlocks, hgv⟩ := id C0
  have hg := flat_of_before _ hgv
  have w12 := wd_law
  simp only [Bool.and_eq_true] at w12
  obtain ⟨⟨⟨⟨⟨⟨⟨⟨v1, v2⟩, v3⟩, v4⟩, v5⟩, v6⟩, v7⟩, v8⟩, v9⟩ := w12
  have htg : ∀ w ∈ gw, w.before #[Value.ref b] s = true := fun w hw => hts w (List.mem_filter.mp hw).1
  have hA : ∀ q : Nat, s.heap.size ≤ q → (fun q : Nat => s.heap.size ≤ q) q := fun _ h => h
  have hnA : ∀ a : Nat, a < s.heap.size → ¬ (fun q : Nat => s.heap.size ≤ q) a := fun a h => Nat.not_le.mpr h
  obtain ⟨c0, i0, k0⟩ := u_known (C := RX0) (T := TX0) (N := 7) (n := 7) htg (ms_cls_ok (ci := 0) rfl).2.2.2.2.1 (htg _ (wd_in v6))
  obtain ⟨c1, i1', k1⟩ := u_known (C := RX1) (T := TX1) (N := 7) (n := 7) htg (ms_cls_ok (ci := 1) rfl).2.2.2.2.1 (htg _ (wd_in v7))
  obtain ⟨c2, i2, k2⟩ := u_known (C := RX2) (T := TX2) (N := 9) (n := 9) htg (ms_cls_ok (ci := 2) rfl).2.2.2.2.1 (htg _ (wd_in v4))
  obtain ⟨c3, i3, k3⟩ := u_known (C := RX3) (T := TX3) (N := 11) (n := 11) htg (ms_cls_ok (ci := 3) rfl).2.2.2.2.1 (htg _ (wd_in v5))
  obtain ⟨c4, i4, k4⟩ := u_known (C := RX4) (T := TX4) (N := 11) (n := 11) htg (ms_cls_ok (ci := 4) rfl).2.2.2.2.1 (htg _ (wd_in v3))
  obtain ⟨c5, i5, k5⟩ := u_known (C := RX5) (T := TX5) (N := 37) (n := 37) htg (ms_cls_ok (ci := 5) rfl).2.2.2.2.1 (htg _ (wd_in v8))
  have hAO : va_AO RX1 s := va_AO.of (hts _ (List.mem_of_getElem? lt_over))
  obtain ⟨a0, ha0⟩ := ms_arrK (htg _ (wd_in v1)) (fun C h => by cases h)
  obtain ⟨a1, ha1⟩ := ms_arrK (htg _ (wd_in v2)) (fun C h => by cases h)
  obtain ⟨a2, ha2⟩ := ms_arrO hAO
  obtain ⟨D, hKc⟩ : ∃ D : va_G, ∀ (k : Nat) (q : vw_C), ms_cls[k]? = some q → u_Kn s q.1 q.2.1 q.2.2 (D.1 k) (D.2 k) := by
    refine ⟨(fun k => match k with | 0 => c0 | 1 => c1 | 2 => c2 | 3 => c3 | 4 => c4 | _ => c5, fun k => match k with | 0 => i0 | 1 => i1' | 2 => i2 | 3 => i3 | 4 => i4 | _ => i5), ?_⟩
    intro k q hq
    match k, hq with
    | 0, hq => cases hq; exact k0
    | 1, hq => cases hq; exact k1
    | 2, hq => cases hq; exact k2
    | 3, hq => cases hq; exact k3
    | 4, hq => cases hq; exact k4
    | 5, hq => cases hq; exact k5
    | n + 6, hq => simp [ms_cls] at hq
  obtain ⟨cA, hcA⟩ : ∃ cA : Nat → ClassId, cA 0 = a0 ∧ cA 1 = a1 ∧ cA 2 = a2 := ⟨fun k => match k with | 0 => a0 | 1 => a1 | _ => a2, rfl, rfl, rfl⟩
  have hK : va_K D ms_cls (ms_tys cA) s := by
    refine ⟨hKc, fun k q hq => ?_⟩
    unfold ms_tys at hq
    match k, hq with
    | 0, hq => cases hq; rw [hcA.1]; exact ha0
    | 1, hq => cases hq; rw [hcA.2.1]; exact ha1
    | 2, hq => cases hq; rw [hcA.2.2]; exact ha2
    | n + 3, hq => simp at hq
  obtain ⟨to, hto, hT⟩ : ∃ t : Nat, (Term.static "SleetLine" "ORDERS" "[I").eval #[Value.ref b] s none [] s = some (.ref t) ∧ va_T .int t 7 (fun j => .int (Int32.ofInt (ms_ord j))) (fun q : Nat => s.heap.size ≤ q) s s.heap := by
    refine va_Tof (by decide) (hg (.arrayOf (.static "SleetLine" "ORDERS" "[I") .int) (by decide +kernel)) (va_eqt (hg (.eq (.length (.static "SleetLine" "ORDERS" "[I")) (.int 7)) (by decide +kernel))) ?_ hnA
    intro j hj
    match j, hj with
    | 0, _ => exact va_eqt (hg (.eq (.elem (.static "SleetLine" "ORDERS" "[I") (.int 0)) (.int 1)) (by decide +kernel))
    | 1, _ => exact va_eqt (hg (.eq (.elem (.static "SleetLine" "ORDERS" "[I") (.int 1)) (.int 1)) (by decide +kernel))
    | 2, _ => exact va_eqt (hg (.eq (.elem (.static "SleetLine" "ORDERS" "[I") (.int 2)) (.int 2)) (by decide +kernel))
    | 3, _ => exact va_eqt (hg (.eq (.elem (.static "SleetLine" "ORDERS" "[I") (.int 3)) (.int 6)) (by decide +kernel))
    | 4, _ => exact va_eqt (hg (.eq (.elem (.static "SleetLine" "ORDERS" "[I") (.int 4)) (.int 24)) (by decide +kernel))
    | 5, _ => exact va_eqt (hg (.eq (.elem (.static "SleetLine" "ORDERS" "[I") (.int 5)) (.int 120)) (by decide +kernel))
    | 6, _ => exact va_eqt (hg (.eq (.elem (.static "SleetLine" "ORDERS" "[I") (.int 6)) (.int 720)) (by decide +kernel))
    | n + 7, h => omega
  have hZ := va_Zref (hts _ (List.mem_of_getElem? lt_lays)) (htg _ (wd_in v9)) hto hnA
  obtain ⟨ex, he0, he1⟩ : ∃ ex : Nat → Nat, ex 0 = b ∧ ex 1 = to := ⟨fun k => if k = 0 then b else to, rfl, rfl⟩
  have hstat : ms_stat ex (fun q : Nat => s.heap.size ≤ q) s := by
    refine ⟨by rw [he1]; exact hZ, by rw [he1]; exact hT, hAO, fun q hq => va_Nw.of rfl (hts _ (lt_nest q hq))⟩
  have hS : va_S (fun q : Nat => s.heap.size ≤ q) s.heap s.heap [] := va_S.rf
  have hfin : ms_fin p l e room_1 s m #[Value.ref b] below meth c (lw_Z below #[Value.ref b] s) D cA ex (fun q : Nat => s.heap.size ≤ q) [] (fun _ => 0) ML_law (fun r _ _ => r = some (mI 1)) := by
    intro pc ls ad' G h' H locs hrh
    obtain ⟨r1, r2, r3, r4, r5, r6, r7⟩ := hrh
    refine ⟨fun z hq hz hd hrt => ?_, fun z hq hz hd hrt => ?_, fun hq hd hrt => ?_⟩
    · cases hq
      have m1 : M_mc ML_law ≤ 600000 := Nat.le_of_ble_eq_true rfl
      have m2 : M_ms ML_law ≤ 7302250 := Nat.le_of_ble_eq_true rfl
      refine va_forget (fun q hq => r3.2.2 q hq) ?_
      refine W.widen (k := 600000) (n := 7302250) (Nat.le_trans r5.1 m1) (Nat.le_trans r5.2 m2) ?_
      exact lw_ret hx hb hr hlocks hd
    · cases hq
    · cases hq
  have hXok : ∀ n q, ms_XL L (fun i => (xs i.toNat).toInt) n = some q → va_T .int (ex n) q.1 (fun j => .int (Int32.ofInt (q.2 j))) (fun q : Nat => s.heap.size ≤ q) s s.heap ∧ q.1 < 2 ^ 31 ∧ ∀ i : Int, 0 ≤ i → i < q.1 → rg (q.2 i) := by
    intro n q hq
    unfold ms_XL at hq
    split at hq
    · rename_i hn
      cases hq
      subst hn
      refine ⟨?_, by show L < 2 ^ 31; omega, fun i _ _ => rg_i32 _⟩
      obtain ⟨scr, g1, g2, g3, g4, g5⟩ := hX
      rw [he0]
      refine ⟨scr, g1, g2, g3, by show L ≤ scr.slots.size; omega, by show scr.slots.size.toInt32 = Int32.ofNat L; rw [g4], fun j hj => ?_, hnA b hbl⟩
      rw [g5 j hj]
      show some (Value.int (xs j)) = some (Value.int (Int32.ofInt (xs ((j : Int).toNat)).toInt))
      rw [Int32.ofInt_toInt, Int.toNat_natCast]
    · unfold ms_X1 at hq
      split at hq
      · rename_i hn1
        cases hq
        subst hn1
        refine ⟨by rw [he1]; exact hT, by decide, fun i _ _ => ms_ord_rg i⟩
      · cases hq
  have C : ms_cx p l e room_1 s m #[Value.ref b] below meth c (lw_Z below #[Value.ref b] s) D cA ex (fun q : Nat => s.heap.size ≤ q) [] (fun _ => 0) ms_P ML_law 30 (ms_Ok ms_P 30) (ms_XL L (fun i => (xs i.toNat).toInt)) (fun r _ _ => r = some (mI 1)) :=
    ⟨hx, hb, hml, hown, htg, hK, hA, fun z => absurd z (by decide), hstat, ⟨Nat.le_of_ble_eq_true rfl, Nat.le_of_ble_eq_true rfl, Nat.le_of_ble_eq_true rfl, Nat.le_of_ble_eq_true rfl⟩, ms_sound l D cA ex ms_P ms_P_ok 30, ms_P_ok, ms_L_ok, hXok, hfin⟩
  have hRW := hwp _ (ms_step C)
  rw [lg_entry_eq]
  have hen := ms_enter (ad := fun _ => 0) (ex := ex) (n := 4) (S := []) (vs := [mE 0]) (fun v hv => by rw [List.mem_singleton.mp hv]; rfl) (fun v hv => by rw [List.mem_singleton.mp hv]; trivial) (by decide)
  have e1 : [mE 0].map (ms_c (fun _ => 0) ex) = [Value.ref b] := by rw [← he0]; rfl
  rw [e1] at hen
  have hgo := hRW (ms_L_ok 0) (fun _ => 0) s.heap [] _ ⟨fun k q h => by simp [ms_ws] at h, ⟨fun i j p q h => by simp [ms_ws] at h, fun k q h => by simp [ms_ws] at h⟩, hS, ⟨fun _ _ => rg_0, fun a b kd n h => by simp [ms_sh] at h⟩, ⟨Nat.zero_le _, Nat.zero_le _⟩, Nat.le_refl _, fun _ _ => rfl⟩ hen (fun v hv => by cases hv)
  exact hgo
