/-! How a state of the small machine stands for one of the machine; contracts; calls. -/
def ms_nestok (U : State) : Prop := ∀ q ∈ ms_nest, va_Nw (.methodLinkNest q.1 q.2.1 q.2.2 "SleetLine") U
/-- what of the tables and statics the methods read, beside words -/
def ms_stat (ex : Nat → Nat) (A : Nat → Prop) (U : State) : Prop := va_Z "SleetLine" "ORDERS" "[I" (.ref (ex 1)) A U U.heap ∧ va_T .int (ex 1) 7 (fun j => .int (Int32.ofInt (ms_ord j))) A U U.heap ∧ va_AO RX1 U ∧ ms_nestok U
theorem ms_stat_to {ex : Nat → Nat} {A B : Nat → Prop} {s U : State} {locs : List Loc} (h : ms_stat ex A s) (hS : va_S A s.heap U.heap locs) (hAB : ∀ q, B q → A q) (hW : s.WarmedH U.vm) : ms_stat ex B U := by
  obtain ⟨h1, h2, h3, h4⟩ := h
  refine ⟨?_, ?_, va_AO.moved hW.alike h3, fun q hq => va_Nw.warmM hW (h4 q hq)⟩
  · exact ((h1.kept (fun a h5 h6 => hS.2.1 a h5 h6)).narrow hAB).moved hW.alike
  · exact ((h2.kept (fun a h5 h6 => hS.2.1 a h5 h6)).narrow hAB).moved hW.alike
theorem ms_stat_calling {ex : Nat → Nat} {A : Nat → Prop} {U : State} {g : JFrame} {mk : MethodId} {a : Array Value} (h : ms_stat ex A U) : ms_stat ex A (U.calling g mk a) := by
  obtain ⟨h1, h2, h3, h4⟩ := h
  refine ⟨?_, ?_, va_AO.moved (u := U) (U := U.calling g mk a) (Vm.Alike.refl U.vm) h3, fun q hq => va_Nw.same rfl (u := U) (U := U.calling g mk a) rfl (h4 q hq)⟩
  · exact va_Z.moved (u := U) (U := U.calling g mk a) (Vm.Alike.refl U.vm) h1
  · exact va_T.moved (u := U) (U := U.calling g mk a) (Vm.Alike.refl U.vm) h2
def ms_rm (d : Nat) (M : ms_M) : Room := { frames := d, cells := M_mc M, slots := M_ms M, locals := 60 * d }
def ms_wsM (M : ms_M) : List Cond := .code (M_nm M) (M_by M) (M_ml M) (M_rt M) :: gw
abbrev ms_U : Type := ms_S × ms_H × (Nat → Nat)
def ms_pre (D : va_G) (cA : Nat → ClassId) (ex ad : Nat → Nat) (S : ms_S) (h : ms_H) (sz : Nat) (U : State) : Prop :=
  U.heap.size = sz ∧ va_P D ms_cls (ms_ws ad cA S h) U.heap ∧ va_K D ms_cls (ms_tys cA) U ∧ va_D (fun _ => True) (ms_ws ad cA S h) ∧ ms_stat ex (va_A (ms_ws ad cA S h) sz) U
def ms_ps (ad : Nat → Nat) (S : ms_S) (Q : ms_Q) (r : Option ms_V) (u : ms_U) : Prop := Q r u.1 u.2.1 ∧ S.length ≤ u.1.length ∧ (∀ k, k < S.length → u.2.2 k = ad k) ∧ ms_hok u.1 u.2.1
def ms_wd (D : va_G) (cA : Nat → ClassId) (A : Nat → Prop) (u : ms_U) (t : State) : Prop := va_P D ms_cls (ms_ws u.2.2 cA u.1 u.2.1) t.heap ∧ va_K D ms_cls (ms_tys cA) t ∧ va_D A (ms_ws u.2.2 cA u.1 u.2.1)
def ms_Qc (rt : Option FieldType) (D : va_G) (cA : Nat → ClassId) (A : Nat → Prop) (ad : Nat → Nat) (S : ms_S) (Q : ms_Q) : Array Value → State → Outcome → State → Prop := match rt with
  | none => va_Qv (ms_ps ad S Q none) (ms_wd D cA A) A
  | some .long => va_Ql (fun r u => ∃ z, r = Int64.ofInt z ∧ rg z ∧ ms_ps ad S Q (some (mL z)) u) (ms_wd D cA A) A
  | some _ => va_Qi (fun r u => ∃ z, r = Int32.ofInt z ∧ rg z ∧ ms_ps ad S Q (some (mI z)) u) (ms_wd D cA A) A
def ms_met (l : Launch) (D : va_G) (cA : Nat → ClassId) (ex : Nat → Nat) (d : Nat) (M : ms_M) (Q : ms_Q) (vs : List ms_V) (S : ms_S) (h : ms_H) (ad : Nat → Nat) (sz : Nat) : Prop :=
  Met l (M_nm M) (ms_wsM M) (ms_rm d M) (va_Pc (vs.map (ms_c ad ex)) (ms_pre D cA ex ad S h sz)) (ms_Qc (M_rt M) D cA (va_A (ms_ws ad cA S h) sz) ad S Q) (M_mc M) (M_ms M) (va_A (ms_ws ad cA S h) sz)
/-- what the oracle says of a method is met -/
def ms_os (l : Launch) (D : va_G) (cA : Nat → ClassId) (ex : Nat → Nat) (P : List ms_M) (d : Nat) (O : ms_O) : Prop :=
  ∀ y M vs S h Q, P[y]? = some M → O y vs S h Q → (∀ v ∈ vs, ms_vok S v) → (∀ v ∈ vs, ms_nl v = true) → ms_hok S h → ∀ ad sz, ms_met l D cA ex d M Q vs S h ad sz
theorem ms_blind (vs : List Value) {D : va_G} {cA : Nat → ClassId} {ex ad : Nat → Nat} {S : ms_S} {h : ms_H} {sz : Nat} : FrameBlind (va_Pc vs (ms_pre D cA ex ad S h sz)) := by
  intro a U g mk q
  obtain ⟨q0, q1, q2, q3, q4, q5⟩ := q
  exact ⟨q0, q1, q2, va_K.moved (u := U) (U := U.calling g mk a) (Vm.Alike.refl U.vm) q3, q4, ms_stat_calling q5⟩
/-- the heap's part of a state -/
def ms_rh (D : va_G) (cA : Nat → ClassId) (A : Nat → Prop) (s : State) (S0 : ms_S) (ad0 : Nat → Nat) (M : ms_M) (ad : Nat → Nat) (G : ms_G) (h : ms_H) (H : Heap) (locs : List Loc) : Prop :=
  va_P D ms_cls (ms_ws ad cA G.1 h) H ∧ va_D A (ms_ws ad cA G.1 h) ∧ va_S A s.heap H locs ∧ ms_hok G.1 h ∧ (G.2.1 ≤ M_mc M ∧ G.2.2 ≤ M_ms M) ∧ S0.length ≤ G.1.length ∧ ∀ k, k < S0.length → ad k = ad0 k
def ms_rl (ad ex : Nat → Nat) (nL : Nat) (S : ms_S) (L : List ms_V) (ls : Array Slot) : Prop := lv_has ls nL (lvl ad ex L) ∧ L.length = nL ∧ ∀ v ∈ L, ms_vok S v
def ms_RW (p : Program) (l : Launch) (e : Env) (R : Room) (s : State) (m : MethodId) (args : Array Value) (below : List Frame) (meth : Method) (c : Code) (Qf : State → Prop) (D : va_G) (cA : Nat → ClassId) (ex : Nat → Nat) (A : Nat → Prop) (S0 : ms_S) (ad0 : Nat → Nat) (P : List ms_M) (M : ms_M) (B : ms_B) : ms_K := fun L st G h =>
  ms_ckB P M B = true → ∀ (ad : Nat → Nat) (H : Heap) (locs : List Loc) (ls : Array Slot), ms_rh D cA A s S0 ad0 M ad G h H locs → ms_rl ad ex (M_ml M) G.1 L ls → (∀ v ∈ st, ms_vok G.1 v) → W p l e R s m args below meth c H locs G.2.1 G.2.2 Qf (F0 m (B_pc B) ls (st.map (ms_c ad ex)))
/-- the end of a method -/
def ms_fin (p : Program) (l : Launch) (e : Env) (R : Room) (s : State) (m : MethodId) (args : Array Value) (below : List Frame) (meth : Method) (c : Code) (Qf : State → Prop) (D : va_G) (cA : Nat → ClassId) (ex : Nat → Nat) (A : Nat → Prop) (S0 : ms_S) (ad0 : Nat → Nat) (M : ms_M) (Q : ms_Q) : Prop :=
  ∀ (pc : Nat) (ls : Array Slot) (ad : Nat → Nat) (G : ms_G) (h : ms_H) (H : Heap) (locs : List Loc), ms_rh D cA A s S0 ad0 M ad G h H locs →
    (∀ z : Int, Q (some (mI z)) G.1 h → rg z → decode (M_by M) pc = .ok (.ireturn, 1) → (M_rt M = some .int ∨ (M_rt M = some .boolean ∧ (z = 0 ∨ z = 1))) → W p l e R s m args below meth c H locs G.2.1 G.2.2 Qf (F0 m pc ls [.int (Int32.ofInt z)])) ∧
    (∀ z : Int, Q (some (mL z)) G.1 h → rg z → decode (M_by M) pc = .ok (.lreturn, 1) → M_rt M = some .long → W p l e R s m args below meth c H locs G.2.1 G.2.2 Qf (F0 m pc ls [.long (Int64.ofInt z)])) ∧
    (Q none G.1 h → decode (M_by M) pc = .ok (.return_, 1) → M_rt M = none → W p l e R s m args below meth c H locs G.2.1 G.2.2 Qf (F0 m pc ls []))
/-- all that a walk stands on -/
def ms_cx (p : Program) (l : Launch) (e : Env) (R : Room) (s : State) (m : MethodId) (args : Array Value) (below : List Frame) (meth : Method) (c : Code) (Qf : State → Prop) (D : va_G) (cA : Nat → ClassId) (ex : Nat → Nat) (A : Nat → Prop) (S0 : ms_S) (ad0 : Nat → Nat) (P : List ms_M) (M : ms_M) (d : Nat) (O : ms_O) (X : ms_Z) (Q : ms_Q) : Prop :=
  p.tables.exec = Jvm.exec ∧ c.code = M_by M ∧ c.maxLocals = M_ml M ∧ s.vm.findClass (M_nm M).cls = some m.cls ∧ (∀ w ∈ gw, w.before args s = true) ∧ va_K D ms_cls (ms_tys cA) s ∧ (∀ q, s.heap.size ≤ q → A q) ∧
  ((M_nm M).name = "<init>" → meth.name = "<init>") ∧ ms_stat ex A s ∧ (d + 1 ≤ R.frames ∧ 60 * d + 60 ≤ R.locals ∧ M_mc M ≤ R.cells ∧ M_ms M ≤ R.slots) ∧ ms_os l D cA ex P d O ∧ (∀ M' ∈ P, ms_ckM P M' = true) ∧ (∀ t, ms_ckB P M (M_bl M t) = true) ∧
  (∀ n q, X n = some q → va_T .int (ex n) q.1 (fun j => .int (Int32.ofInt (q.2 j))) A s s.heap ∧ q.1 < 2 ^ 31 ∧ ∀ i : Int, 0 ≤ i → i < q.1 → rg (q.2 i)) ∧ ms_fin p l e R s m args below meth c Qf D cA ex A S0 ad0 M Q
theorem ms_cells_in {D : va_G} {cA : Nat → ClassId} {A : Nat → Prop} {s : State} {S : ms_S} {h : ms_H} {ad : Nat → Nat} {H : Heap} {locs : List Loc} (hD : va_D A (ms_ws ad cA S h)) (hS : va_S A s.heap H locs) (hA : ∀ q, s.heap.size ≤ q → A q) : ∀ q, va_A (ms_ws ad cA S h) H.size q → A q := by
  intro q hq
  rcases hq with ⟨k, e, hk⟩ | hq
  · exact hD.2 k (q, e) hk
  · exact hA q (Nat.le_trans hS.1 hq)
section
variable {p : Program} {l : Launch} {e : Env} {R : Room} {s : State} {m : MethodId} {args : Array Value} {below : List Frame} {meth : Method} {c : Code} {Qf : State → Prop}
variable {D : va_G} {cA : Nat → ClassId} {ex : Nat → Nat} {A : Nat → Prop} {S0 : ms_S} {ad0 : Nat → Nat} {P : List ms_M} {M : ms_M}
/-- behind a call -/
theorem ms_after {kc ks : Nat} {rest : ms_B} {L r : List ms_V} {G : ms_G} {h : ms_H} {ad : Nat → Nat} {H : Heap} {locs : List Loc} {ls : Array Slot} {v : Option ms_V} {u : ms_U} {t : State} {H1 : Heap} {locs1 : List Loc}
    (hA : ∀ q, s.heap.size ≤ q → A q) (hck : ms_ckB P M rest = true) (hr : ms_rh D cA A s S0 ad0 M ad G h H locs) (hl : ms_rl ad ex (M_ml M) G.1 L ls) (hst : ∀ v ∈ r, ms_vok G.1 v) (hk : G.2.1 + kc ≤ M_mc M ∧ G.2.2 + ks ≤ M_ms M)
    (hp : ms_ps ad G.1 (o_back kc ks (ms_RW p l e R s m args below meth c Qf D cA ex A S0 ad0 P M rest) L r G) v u) (hw : ms_wd D cA (va_A (ms_ws ad cA G.1 h) H.size) u t) (ht : t.heap = H1) (hS : va_S A s.heap H1 locs1) (hv : ∀ x, v = some x → ms_vok u.1 x) :
    W p l e R s m args below meth c H1 locs1 (G.2.1 + kc) (G.2.2 + ks) Qf (F0 m (B_pc rest) ls ((v.toList.map (ms_c u.2.2 ex)) ++ r.map (ms_c ad ex))) := by
  obtain ⟨hP, hD, hS0, hh, hg, he1, he2⟩ := hr
  obtain ⟨q1, q2, q3, q4⟩ := hp
  obtain ⟨w1, w2, w3⟩ := hw
  have hin := ms_cells_in (h := h) (ad := ad) (D := D) hD hS0 hA
  have hr' : ms_rh D cA A s S0 ad0 M u.2.2 (u.1, G.2.1 + kc, G.2.2 + ks) u.2.1 H1 locs1 :=
    ⟨by rw [← ht]; exact w1, w3.weaken (fun _ q _ hq => hin q.1 hq), hS, q4, hk, Nat.le_trans he1 q2, fun k hk => by rw [q3 k (Nat.lt_of_lt_of_le hk he1)]; exact he2 k hk⟩
  have hl' : ms_rl u.2.2 ex (M_ml M) u.1 L ls := ⟨by rw [lvl_ext q3 hl.2.2]; exact hl.1, hl.2.1, fun v hv => ms_vok_mono q2 (hl.2.2 v hv)⟩
  have hst' : ∀ v ∈ r, ms_vok u.1 v := fun v hv => ms_vok_mono q2 (hst v hv)
  rw [← ms_c_exts q3 hst]
  cases v with
  | none => exact q1 hck u.2.2 H1 locs1 ls hr' hl' hst'
  | some x => exact q1 hck u.2.2 H1 locs1 ls hr' hl' (List.forall_mem_cons.mpr ⟨hv x rfl, hst'⟩)
/-- a call that runs comes back -/
theorem ms_call_end {M' : ms_M} {kc ks pc : Nat} {rest : ms_B} {L r : List ms_V} {G : ms_G} {h : ms_H} {ad : Nat → Nat} {H : Heap} {locs : List Loc} {ls : Array Slot} {st0 : List Value} {av : Array Value}
    (hA : ∀ q, s.heap.size ≤ q → A q) (hck : ms_ckB P M rest = true) (hpc : B_pc rest = pc + 3) (hr : ms_rh D cA A s S0 ad0 M ad G h H locs) (hl : ms_rl ad ex (M_ml M) G.1 L ls) (hst : ∀ v ∈ r, ms_vok G.1 v) (hk : G.2.1 + kc ≤ M_mc M ∧ G.2.2 + ks ≤ M_ms M)
    (hrt : M_rt M' = none ∨ M_rt M' = some .int ∨ M_rt M' = some .boolean ∨ M_rt M' = some .long)
    (run : va_Run p l e R s m args below meth c H locs G.2.1 G.2.2 kc ks (F0 m pc ls st0) (r.map (ms_c ad ex)) (ms_Qc (M_rt M') D cA (va_A (ms_ws ad cA G.1 h) H.size) ad G.1 (o_back kc ks (ms_RW p l e R s m args below meth c Qf D cA ex A S0 ad0 P M rest) L r G) av) (va_A (ms_ws ad cA G.1 h) H.size)) :
    W p l e R s m args below meth c H locs G.2.1 G.2.2 Qf (F0 m pc ls st0) := by
  have hin := ms_cells_in (h := h) (ad := ad) (D := D) hr.2.1 hr.2.2.1 hA
  have goI : ∀ (ty : FieldType), va_Run p l e R s m args below meth c H locs G.2.1 G.2.2 kc ks (F0 m pc ls st0) (r.map (ms_c ad ex)) (va_Qi (fun x u => ∃ z, x = Int32.ofInt z ∧ rg z ∧ ms_ps ad G.1 (o_back kc ks (ms_RW p l e R s m args below meth c Qf D cA ex A S0 ad0 P M rest) L r G) (some (mI z)) u) (ms_wd D cA (va_A (ms_ws ad cA G.1 h) H.size)) (va_A (ms_ws ad cA G.1 h) H.size) av) (va_A (ms_ws ad cA G.1 h) H.size) → W p l e R s m args below meth c H locs G.2.1 G.2.2 Qf (F0 m pc ls st0) := by
    intro _ run
    refine va_calli (a := av) run hr.2.2.1 (fun q _ h => hin q h) hin (fun x u t H1 locs1 ht hvm hp hB hz hk1 hS => ?_)
    obtain ⟨z, rfl, hz2, hp⟩ := hp
    have := ms_after hA hck hr hl hst hk hp hB ht hS (fun x hx => by cases hx; exact hz2)
    rw [hpc] at this
    exact this
  rcases hrt with hrt | hrt | hrt | hrt <;> rw [hrt] at run
  · refine va_callv (a := av) run hr.2.2.1 (fun q _ h => hin q h) hin (fun u t H1 locs1 ht hvm hp hB hz hk1 hS => ?_)
    have := ms_after hA hck hr hl hst hk hp hB ht hS (fun x hx => by cases hx)
    rw [hpc] at this
    exact this
  · exact goI .int run
  · exact goI .boolean run
  · refine va_calll (a := av) run hr.2.2.1 (fun q _ h => hin q h) hin (fun x u t H1 locs1 ht hvm hp hB hz hk1 hS => ?_)
    obtain ⟨z, rfl, hz2, hp⟩ := hp
    have := ms_after hA hck hr hl hst hk hp hB ht hS (fun x hx => by cases hx; exact hz2)
    rw [hpc] at this
    exact this
end
