/-! the law's entry: what the tables and the start say -/
theorem qn_arrC {s : State} {args : Array Value} {ty : FieldType} (h : (Cond.arrayClass ty).before args s = true) (hb : ∀ C, ty ≠ .object C) (hz : ∀ (n : Nat) (c : ClassId) (z : Nat → Value) (k : Class) (comp : ClassId), s.vm.classes[c]? = some k → k.kind = .array comp ty → s.isArrayOf (arrV c n z) ty) : ∃ cA, ArrOfT s cA ty ∧ va_RA s cA ty := by
  obtain ⟨c, k, comp, h1, h2, h3⟩ := Cond.arrayClass_spec h
  refine ⟨c, fun n z => hz n c z k comp h2 h3, ?_⟩
  cases ty with
  | object C => exact absurd rfl (hb C)
  | _ => exact h1
theorem qn_arrO {s : State} {args : Array Value} {C : String} (h : (Cond.arrayOver (.object C)).before args s = true) : ∃ cA, ArrOfT s cA (.object C) ∧ va_RA s cA (.object C) := by
  obtain ⟨comp, c, k, h1, -, h3, h4, h5⟩ := Cond.arrayOver_spec h
  exact ⟨c, fun N z => ⟨(fun k h => by cases h), k, h3, comp, h4⟩, k, comp, h3, h4, h1, h5⟩
theorem qn_cls {s : State} {args : Array Value} (hts : ∀ w ∈ qm_tb, w.before args s = true) : ∃ (dC : Nat → ClassId) (dI : Nat → Nat → Nat), ∀ (c : Nat) (q : vw_C), qm_clss[c]? = some q → u_Kn s q.1 q.2.1 q.2.2 (dC c) (dI c) := by
  have h0 : ∀ c : Nat, ∃ r : ClassId × (Nat → Nat), ∀ q : vw_C, qm_clss[c]? = some q → u_Kn s q.1 q.2.1 q.2.2 r.1 r.2 := by
    have one : ∀ k, (h19 : 1 ≤ k ∧ k ≤ 9) → qm_Tb (Cond.instantiable (qm_R k) (qm_nf k)) → ∃ r : ClassId × (Nat → Nat), ∀ q : vw_C, qm_clss[qm_ci k]? = some q → u_Kn s q.1 q.2.1 q.2.2 r.1 r.2 := by
      intro k h19 hi
      obtain ⟨cC, iS, hK⟩ := u_known (C := qm_R k) (T := qm_T k) (N := qm_nf k) (n := qm_nf k) hts (qm_lay_in h19) (hts _ hi.tb)
      refine ⟨(cC, iS), fun q hq => ?_⟩
      rw [qm_clss_at h19] at hq
      cases hq
      exact hK
    intro c
    match c with
    | 0 => exact one 5 (by decide) in_5
    | 1 => exact one 3 (by decide) in_3
    | 2 => exact one 6 (by decide) in_6
    | 3 => exact one 8 (by decide) in_8
    | 4 => exact one 4 (by decide) in_4
    | 5 => exact one 7 (by decide) in_7
    | 6 => exact one 2 (by decide) in_2
    | 7 => exact one 1 (by decide) in_1
    | 8 => exact one 9 (by decide) in_9
    | c + 9 => exact ⟨(0, fun _ => 0), fun q hq => by simp [qm_clss] at hq⟩
  obtain ⟨r, hr⟩ := Classical.axiomOfChoice h0
  exact ⟨fun c => (r c).1, fun c => (r c).2, hr⟩
