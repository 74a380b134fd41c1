/-! One instruction of the small machine is one of the machine. -/
theorem ckB_x {P : List ms_M} {M : ms_M} {pc len : Nat} {raw : Instr} {x : ms_X} {rest : ms_B} (h : ms_ckB P M ((pc, raw, len, x) :: rest) = true) :
    (raw = .nop ∨ decode (M_by M) pc = .ok (raw, len)) ∧ len = ms_ln raw len ∧ ms_ckx P M pc raw x = true ∧ (ms_falls raw = true → B_pc rest = pc + len) ∧ ms_ckB P M rest = true := by
  unfold ms_ckB at h
  simp only [Bool.and_eq_true, Bool.or_eq_true, decide_eq_true_eq, Bool.not_eq_true'] at h
  obtain ⟨⟨⟨⟨h1, h2⟩, h3⟩, h4⟩, h5⟩ := h
  refine ⟨h1, h2, h3, fun hf => ?_, h5⟩
  rcases h4 with h4 | h4
  · rw [hf] at h4; cases h4
  · exact h4
theorem cktab_x {M : ms_M} {pc d : Nat} {k : Nat → Prop} {x : Int} : ∀ (os : List Int) (t : List (Int × Nat)) (lo : Int), ms_cktab M pc lo os t = true → o_sw t d x k →
    ((x < lo ∨ lo + os.length ≤ x) ∧ k d) ∨ (lo ≤ x ∧ x < lo + os.length ∧ ∃ off tg, os[(x - lo).toNat]? = some off ∧ (pc : Int) + off = (B_pc (M_bl M tg) : Int) ∧ k tg)
  | [], [], lo, _, q => Or.inl ⟨by simp; omega, q⟩
  | o :: os, (v, tg) :: t, lo, hc, q => by
    simp only [ms_cktab, Bool.and_eq_true, decide_eq_true_eq] at hc
    obtain ⟨⟨rfl, h2⟩, h3⟩ := hc
    by_cases hx : x = v
    · subst hx
      refine Or.inr ⟨Int.le_refl _, by simp only [List.length_cons]; omega, o, tg, ?_, h2, q.1 rfl⟩
      rw [show (x - x).toNat = 0 by omega]; rfl
    · rcases cktab_x os t (v + 1) h3 (q.2 hx) with ⟨h4, h5⟩ | ⟨h4, h5, off, tg', h6, h7, h8⟩
      · exact Or.inl ⟨by simp only [List.length_cons]; omega, h5⟩
      · refine Or.inr ⟨by omega, by simp only [List.length_cons]; omega, off, tg', ?_, h7, h8⟩
        rw [show (x - v).toNat = (x - (v + 1)).toNat + 1 by omega]
        exact h6
theorem cklk_x {M : ms_M} {pc d : Nat} {k : Nat → Prop} {x dflt : Int} (hd : (pc : Int) + dflt = (B_pc (M_bl M d) : Int)) : ∀ (os : List (Int × Int)) (t : List (Int × Nat)), ms_cklk M pc os t = true → o_sw t d x k →
    ∃ off tg, Op.lookupswitch.offset os dflt x = off ∧ (pc : Int) + off = (B_pc (M_bl M tg) : Int) ∧ k tg
  | [], [], _, q => ⟨dflt, d, by simp [Op.lookupswitch.offset], hd, q⟩
  | (v', o) :: os, (v, tg) :: t, hc, q => by
    simp only [ms_cklk, Bool.and_eq_true, decide_eq_true_eq] at hc
    obtain ⟨⟨rfl, h2⟩, h3⟩ := hc
    by_cases hx : x = v
    · subst hx
      exact ⟨o, tg, by simp [Op.lookupswitch.offset], h2, q.1 rfl⟩
    · obtain ⟨off, tg', h4, h5, h6⟩ := cklk_x hd os t h3 (q.2 hx)
      refine ⟨off, tg', ?_, h5, h6⟩
      rw [← h4]
      simp [Op.lookupswitch.offset, Ne.symm hx, hx]
theorem ms_nar {ty : FieldType} {b : Nat} (h : ms_tc ty = b) : (b = 0 → ty = .int) ∧ (b = 1 → ty = .boolean) ∧ (b = 2 → ty = .long) ∧ (b = 3 → (∃ C, ty = .object C) ∨ ∃ C, ty = .array C) := by
  subst h
  cases ty <;> simp [ms_tc]
section
variable {p : Program} {l : Launch} {e : Env} {R : Room} {s : State} {m : MethodId} {args : Array Value} {below : List Frame} {meth : Method} {c : Code} {Qf : State → Prop}
variable {D : va_G} {cA : Nat → ClassId} {ex : Nat → Nat} {A : Nat → Prop} {S0 : ms_S} {ad0 : Nat → Nat} {P : List ms_M} {M : ms_M} {d0 : Nat} {O : ms_O} {X : ms_Z} {Q : ms_Q}
/-- what the check of a method says of its words -/
theorem ckM_x {M' : ms_M} (h : ms_ckM P M' = true) : Cond.code (M_nm M') (M_by M') (M_ml M') (M_rt M') ∈ gw ∧ Cond.initialized (M_nm M').cls ∈ gw ∧
    (M_kd M' = 0 → Cond.instanceMethod (M_nm M') ∈ gw ∧ Cond.selects (M_nm M').cls (M_nm M') (M_nm M') ∈ gw ∧ (parseMethodDescriptor (M_nm M').desc).map (fun d => d.parameters.length + 1) = some (M_na M')) ∧
    (M_kd M' = 1 → Cond.static (M_nm M') ∈ gw ∧ (parseMethodDescriptor (M_nm M').desc).map (fun d => d.parameters.length) = some (M_na M')) ∧
    (M_kd M' = 2 → Cond.instanceMethod (M_nm M') ∈ gw ∧ (M_nm M').name = "<init>" ∧ M_rt M' = none ∧ (parseMethodDescriptor (M_nm M').desc).map (fun d => d.parameters.length + 1) = some (M_na M')) ∧
    ((M_nm M').cls ≠ "java/lang/invoke/MethodHandle" ∧ (M_nm M').cls ≠ "java/lang/invoke/VarHandle") ∧ plainName (M_nm M').cls = true ∧ M_ml M' ≤ 30 ∧ M_na M' ≤ M_ml M' ∧
    (M_rt M' = none ∨ M_rt M' = some .int ∨ M_rt M' = some .boolean ∨ M_rt M' = some .long) ∧ B_pc (M_bl M' 0) = 0 ∧ ∀ t, ms_ckB P M' (M_bl M' t) = true := by
  unfold ms_ckM at h
  split at h
  · rename_i p1 p2 p3 p4 hp
    simp only [Bool.and_eq_true, decide_eq_true_eq] at h
    obtain ⟨⟨⟨⟨⟨⟨⟨⟨⟨⟨a1, a2⟩, a3⟩, a5⟩, a6⟩, a7⟩, a8⟩, a9⟩, a10⟩, a11⟩, a12⟩ := h
    refine ⟨wd_in a1, wd_in a2, fun hk => ?_, fun hk => ?_, fun hk => ?_, a5, a6, a7, a8, a9, a10, ms_ckM_bl a11 a12⟩
    · rw [hk] at a3
      simp only [Bool.and_eq_true, decide_eq_true_eq] at a3
      exact ⟨wd_in a3.1.1, wd_in a3.1.2, a3.2⟩
    · rw [hk] at a3
      simp only [Bool.and_eq_true, decide_eq_true_eq] at a3
      exact ⟨wd_in a3.1, a3.2⟩
    · rw [hk] at a3
      simp only [Bool.and_eq_true, decide_eq_true_eq] at a3
      exact ⟨wd_in a3.1.1.1, a3.1.1.2, a3.1.2, a3.2⟩
  · cases h
end
