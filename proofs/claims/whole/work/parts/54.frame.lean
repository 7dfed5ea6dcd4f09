/-! frames, loops, stacks -/
/-- outside the kinds of K nothing has changed -/
def fr (K : List Nat) (s s' : qm_Hp) : Prop := (∀ k i j, k ∉ K → zI s' k i j = zI s k i j) ∧ (∀ k i j, k ∉ K → zL s' k i j = zL s k i j) ∧ (∀ k i j, k ∉ K → zP s' k i j = zP s k i j)
theorem fr_refl (K : List Nat) (s : qm_Hp) : fr K s s := ⟨fun _ _ _ _ => rfl, fun _ _ _ _ => rfl, fun _ _ _ _ => rfl⟩
theorem fr_trans {K : List Nat} {s1 s2 s3 : qm_Hp} (h1 : fr K s1 s2) (h2 : fr K s2 s3) : fr K s1 s3 :=
  ⟨fun k i j h => (h2.1 k i j h).trans (h1.1 k i j h), fun k i j h => (h2.2.1 k i j h).trans (h1.2.1 k i j h), fun k i j h => (h2.2.2 k i j h).trans (h1.2.2 k i j h)⟩
theorem fr_mono {K K' : List Nat} {s s' : qm_Hp} (hK : ∀ k, k ∈ K → k ∈ K') (h : fr K s s') : fr K' s s' :=
  ⟨fun k i j q => h.1 k i j (fun z => q (hK k z)), fun k i j q => h.2.1 k i j (fun z => q (hK k z)), fun k i j q => h.2.2 k i j (fun z => q (hK k z))⟩
theorem fr_uI {K : List Nat} {s s' : qm_Hp} {k : Nat} (hk : k ∈ K) (h : fr K s s') (i j : Nat) (v : Int32) : fr K s (uI s' k i j v) := by
  refine ⟨fun a b c q => ?_, fun a b c q => h.2.1 a b c q, fun a b c q => h.2.2 a b c q⟩
  rw [zI_uI, if_neg (fun z => q (by rw [z.1]; exact hk))]
  exact h.1 a b c q
theorem fr_uL {K : List Nat} {s s' : qm_Hp} {k : Nat} (hk : k ∈ K) (h : fr K s s') (i j : Nat) (v : Int64) : fr K s (uL s' k i j v) := by
  refine ⟨fun a b c q => h.1 a b c q, fun a b c q => ?_, fun a b c q => h.2.2 a b c q⟩
  rw [zL_uL, if_neg (fun z => q (by rw [z.1]; exact hk))]
  exact h.2.1 a b c q
theorem fr_uP {K : List Nat} {s s' : qm_Hp} {k : Nat} (hk : k ∈ K) (h : fr K s s') (i j : Nat) (v : Nat × Nat) : fr K s (uP s' k i j v) := by
  refine ⟨fun a b c q => h.1 a b c q, fun a b c q => h.2.1 a b c q, fun a b c q => ?_⟩
  rw [zP_uP, if_neg (fun z => q (by rw [z.1]; exact hk))]
  exact h.2.2 a b c q
theorem fr_uC {K : List Nat} {s s' : qm_Hp} {k' : Nat} (hk : k' ∈ K) (h : fr K s s') (k i sp i' dp n : Nat) : fr K s (uC s' k i sp k' i' dp n) := by
  refine ⟨fun a b c q => ?_, fun a b c q => h.2.1 a b c q, fun a b c q => h.2.2 a b c q⟩
  rw [zI_uC, if_neg (fun z => q (by rw [z.1]; exact hk))]
  exact h.1 a b c q
/-- a loop that counts up, with a state -/
theorem q_lp {α β : Type} (n : Nat) (F : Nat → α → β) (I : Nat → α → Prop) (hs : ∀ k x, k < n → I k x → ∃ x', F k x = F (k + 1) x' ∧ I (k + 1) x') : ∀ k x, k ≤ n → I k x → ∃ x', F k x = F n x' ∧ I n x' := by
  intro k x hk hi
  induction hn : n - k generalizing k x with
  | zero =>
    have : k = n := by omega
    subst this
    exact ⟨x, rfl, hi⟩
  | succ m ih =>
    obtain ⟨x1, e1, h1⟩ := hs k x (by omega) hi
    obtain ⟨x2, e2, h2⟩ := ih (k + 1) x1 (by omega) h1 (by omega)
    exact ⟨x2, e1.trans e2, h2⟩
/-- a stack in a row, its top the list's head -/
def stk {α : Type} (f : Nat → α) : List α → Prop
  | [] => True
  | x :: l => f l.length = x ∧ stk f l
theorem stk_cong {α : Type} {f g : Nat → α} : ∀ {l : List α}, (∀ j, j < l.length → g j = f j) → stk f l → stk g l
  | [], _, _ => trivial
  | _ :: l, h, q => ⟨(h l.length (by simp)).trans q.1, stk_cong (l := l) (fun j hj => h j (by simp; omega)) q.2⟩
theorem stk_up {s : qm_Hp} {k i : Nat} {l : List Int32} {v : Int32} (h : stk (fun j => zI s k i j) l) : stk (fun j => zI (uI s k i l.length v) k i j) (v :: l) := by
  refine ⟨?_, stk_cong (f := fun j => zI s k i j) (fun j hj => ?_) h⟩
  · show zI (uI s k i l.length v) k i l.length = v
    rw [zI_uI, if_pos ⟨rfl, rfl, rfl⟩]
  · show zI (uI s k i l.length v) k i j = zI s k i j
    rw [zI_uI, if_neg (fun z => by omega)]
theorem stk_upL {s : qm_Hp} {k i : Nat} {l : List Int64} {v : Int64} (h : stk (fun j => zL s k i j) l) : stk (fun j => zL (uL s k i l.length v) k i j) (v :: l) := by
  refine ⟨?_, stk_cong (f := fun j => zL s k i j) (fun j hj => ?_) h⟩
  · show zL (uL s k i l.length v) k i l.length = v
    rw [zL_uL, if_pos ⟨rfl, rfl, rfl⟩]
  · show zL (uL s k i l.length v) k i j = zL s k i j
    rw [zL_uL, if_neg (fun z => by omega)]
