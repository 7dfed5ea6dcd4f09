/-- a run: fuel n, depth d, method m, the rest of its block, locals, operands, heap -/
def qm_run : Nat → Nat → Nat → List qm_Ins → List qm_AV → List qm_AV → qm_Hp → Option (Option qm_AV × qm_Hp)
  | 0, _, _, _, _, _, _ => none
  | _ + 1, _, _, [], _, _, _ => none
  | n + 1, d, m, i :: c, ls, st, s => match qm_act i ls st s with
    | none => none
    | some (.inl (ls', st', s')) => qm_run n d m c ls' st' s'
    | some (.inr (.inl (b, st'))) => qm_run n d m (qm_blk m b) ls st' s
    | some (.inr (.inr (.inl (f, as, st')))) => match d with
      | 0 => none
      | d' + 1 => match (if (qm_lay as).length ≤ qm_maxL f then qm_run n d' f (qm_blk f 0) (qm_ent (qm_maxL f) as) [] s else none) with
        | none => none
        | some (r, s') => qm_run n (d' + 1) m c ls (qm_push r st') s'
    | some (.inr (.inr (.inr r))) => some (r, s)
theorem qm_run_mono : ∀ (n d m : Nat) (c : List qm_Ins) (ls st : List qm_AV) (s : qm_Hp) (r : Option qm_AV × qm_Hp), qm_run n d m c ls st s = some r → qm_run (n + 1) d m c ls st s = some r := by
  intro n
  induction n with
  | zero => intro d m c ls st s r h; simp [qm_run] at h
  | succ n ih =>
    intro d m c ls st s r h
    cases c with
    | nil => simp [qm_run] at h
    | cons i c =>
      rw [qm_run] at h ⊢
      generalize qm_act i ls st s = x at h ⊢
      match x, h with
      | none, h => exact h
      | some (.inl (ls', st', s')), h => exact ih _ _ _ _ _ _ _ h
      | some (.inr (.inl (b, st'))), h => exact ih _ _ _ _ _ _ _ h
      | some (.inr (.inr (.inl (f, as, st')))), h =>
        match d, h with
        | 0, h => exact h
        | d' + 1, h =>
          dsimp only at h ⊢
          by_cases hlen : (qm_lay as).length ≤ qm_maxL f
          · rw [if_pos hlen] at h ⊢
            cases e : qm_run n d' f (qm_blk f 0) (qm_ent (qm_maxL f) as) [] s with
            | none => rw [e] at h; cases h
            | some q =>
              rw [e] at h
              rw [ih _ _ _ _ _ _ _ e]
              obtain ⟨q1, q2⟩ := q
              exact ih _ _ _ _ _ _ _ h
          · rw [if_neg hlen] at h
            cases h
      | some (.inr (.inr (.inr r'))), h => exact h
theorem qm_run_le {n k d m : Nat} {c : List qm_Ins} {ls st : List qm_AV} {s : qm_Hp} {r : Option qm_AV × qm_Hp} (hk : n ≤ k) (h : qm_run n d m c ls st s = some r) : qm_run k d m c ls st s = some r := by
  induction hk with
  | refl => exact h
  | step _ ih => exact qm_run_mono _ _ _ _ _ _ _ _ ih
/-- where a run comes to, if it does -/
noncomputable def qm_ev (d m : Nat) (c : List qm_Ins) (ls st : List qm_AV) (s : qm_Hp) : Option (Option qm_AV × qm_Hp) :=
  @dite _ (∃ r n, qm_run n d m c ls st s = some r) (Classical.propDecidable _) (fun h => some (Classical.choose h)) (fun _ => none)
theorem qm_ev_iff {d m : Nat} {c : List qm_Ins} {ls st : List qm_AV} {s : qm_Hp} {r : Option qm_AV × qm_Hp} : qm_ev d m c ls st s = some r ↔ ∃ n, qm_run n d m c ls st s = some r := by
  unfold qm_ev
  by_cases h : ∃ r n, qm_run n d m c ls st s = some r
  · rw [dif_pos h]
    obtain ⟨n, hn⟩ := Classical.choose_spec h
    constructor
    · intro e
      cases e
      exact ⟨n, hn⟩
    · rintro ⟨k, hk⟩
      have h1 := qm_run_le (Nat.le_max_left n k) hn
      have h2 := qm_run_le (Nat.le_max_right n k) hk
      rw [h1] at h2
      exact h2
  · rw [dif_neg h]
    exact ⟨fun e => (by cases e), fun ⟨n, hn⟩ => absurd ⟨r, n, hn⟩ h⟩
noncomputable def qm_evB (d m k : Nat) (ls st : List qm_AV) (s : qm_Hp) : Option (Option qm_AV × qm_Hp) := qm_ev d m (qm_blk m k) ls st s
noncomputable def qm_evM (d f : Nat) (as : List qm_AV) (s : qm_Hp) : Option (Option qm_AV × qm_Hp) := if (qm_lay as).length ≤ qm_maxL f then qm_evB d f 0 (qm_ent (qm_maxL f) as) [] s else none
theorem qm_ev_same {d m d' m' : Nat} {c c' : List qm_Ins} {ls st ls' st' : List qm_AV} {s s' : qm_Hp} (h : ∀ n, qm_run (n + 1) d m c ls st s = qm_run n d' m' c' ls' st' s') : qm_ev d m c ls st s = qm_ev d' m' c' ls' st' s' := by
  refine Option.ext fun r => ?_
  rw [qm_ev_iff, qm_ev_iff]
  constructor
  · rintro ⟨n, hn⟩
    exact ⟨n, by rw [← h]; exact qm_run_mono _ _ _ _ _ _ _ _ hn⟩
  · rintro ⟨n, hn⟩
    exact ⟨n + 1, by rw [h]; exact hn⟩
theorem qm_go {d m : Nat} {i : qm_Ins} {c : List qm_Ins} {ls st ls' st' : List qm_AV} {s s' : qm_Hp} (h : qm_act i ls st s = some (.inl (ls', st', s'))) : qm_ev d m (i :: c) ls st s = qm_ev d m c ls' st' s' :=
  qm_ev_same fun n => by rw [qm_run, h]
theorem qm_jump {d m b : Nat} {i : qm_Ins} {c : List qm_Ins} {ls st st' : List qm_AV} {s : qm_Hp} (h : qm_act i ls st s = some (.inr (.inl (b, st')))) : qm_ev d m (i :: c) ls st s = qm_evB d m b ls st' s :=
  qm_ev_same fun n => by rw [qm_run, h]
theorem qm_ret {d m : Nat} {i : qm_Ins} {c : List qm_Ins} {ls st : List qm_AV} {s : qm_Hp} {r : Option qm_AV} (h : qm_act i ls st s = some (.inr (.inr (.inr r)))) : qm_ev d m (i :: c) ls st s = some (r, s) :=
  qm_ev_iff.mpr ⟨1, by rw [qm_run, h]⟩
theorem qm_call {d m f : Nat} {i : qm_Ins} {c : List qm_Ins} {ls st as st' : List qm_AV} {s : qm_Hp} (h : qm_act i ls st s = some (.inr (.inr (.inl (f, as, st'))))) : qm_ev (d + 1) m (i :: c) ls st s = (qm_evM d f as s).bind (fun r => qm_ev (d + 1) m c ls (qm_push r.1 st') r.2) := by
  by_cases hlen : (qm_lay as).length ≤ qm_maxL f
  · unfold qm_evM
    rw [if_pos hlen]
    refine Option.ext fun r => ?_
    rw [qm_ev_iff, Option.bind_eq_some_iff]
    constructor
    · rintro ⟨n, hn⟩
      cases n with
      | zero => simp [qm_run] at hn
      | succ n =>
        rw [qm_run, h] at hn
        dsimp only at hn
        rw [if_pos hlen] at hn
        cases e : qm_run n d f (qm_blk f 0) (qm_ent (qm_maxL f) as) [] s with
        | none => rw [e] at hn; cases hn
        | some q =>
          rw [e] at hn
          exact ⟨q, qm_ev_iff.mpr ⟨n, e⟩, qm_ev_iff.mpr ⟨n, hn⟩⟩
    · rintro ⟨q, h1, h2⟩
      obtain ⟨n, hn⟩ := qm_ev_iff.mp h1
      obtain ⟨k, hk⟩ := qm_ev_iff.mp h2
      refine ⟨max n k + 1, ?_⟩
      rw [qm_run, h]
      dsimp only
      rw [if_pos hlen, qm_run_le (Nat.le_max_left n k) hn]
      exact qm_run_le (Nat.le_max_right n k) hk
  · unfold qm_evM
    rw [if_neg hlen]
    refine Option.ext fun r => ?_
    rw [qm_ev_iff]
    constructor
    · rintro ⟨n, hn⟩
      cases n with
      | zero => simp [qm_run] at hn
      | succ n =>
        rw [qm_run, h] at hn
        dsimp only at hn
        rw [if_neg hlen] at hn
        cases hn
    · intro e
      cases e
