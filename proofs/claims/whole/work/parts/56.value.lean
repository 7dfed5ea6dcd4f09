/-! the class's clause worked out -/
/-- the class's code from place i on -/
def cdC (f : Nat → Int32) : Nat → List (Nat × Nat) → Prop
  | _, [] => True
  | i, c :: D => f i = nI (enc c) ∧ cdC f (i + 1) D
/-- the reference's code from place i on -/
def cdM (f : Nat → Int32) : Nat → List (Nat × Nat) → Prop
  | _, [] => True
  | i, c :: D => f (2 * i) = nI c.1 ∧ f (2 * i + 1) = nI c.2 ∧ cdM f (i + 1) D
theorem v_run (d t cl to T' N' : Nat) (env : Nat → Int32) (hcl : cl < 20) (ht3 : to ≤ 300) : ∀ (D : List (Nat × Nat)) (i : Nat) (S : SS) (a4 a5 a6 a7 : qm_AV) (s : qm_Hp), zP s 5 0 0 = (4, t) → zI s 34 t cl = nI to → to = i + D.length → cdC (fun j => zI s 31 t j) i D → wt D S.1.length S.2.length T' N' → (∀ c, c ∈ D → c.1 = 1 → zI s 41 0 c.2 = env c.2) → stk (fun j => zI s 42 0 j) (sk S) → S.1.length + S.2.length ≤ 40 → ∃ s' b4 b5 b6 b7, qm_evB (d + 2) jL_valueOf 1 [qP 5 0, qI (nI cl), qI (nI (sk S).length), qI (nI i), a4, a5, a6, a7] [] s = qm_evB (d + 2) jL_valueOf 1 [qP 5 0, qI (nI cl), qI (nI (sk (rn env D S)).length), qI (nI to), b4, b5, b6, b7] [] s' ∧ stk (fun j => zI s' 42 0 j) (sk (rn env D S)) ∧ (rn env D S).1.length = T' ∧ (rn env D S).2.length = N' ∧ fr [42] s s' := by
  intro D
  induction D with
  | nil =>
    intro i S a4 a5 a6 a7 s _ _ hto _ hw _ hs _
    have e : to = i := hto
    subst e
    exact ⟨s, a4, a5, a6, a7, rfl, hs, hw.1, hw.2, fr_refl _ _⟩
  | cons c D ih =>
    intro i S a4 a5 a6 a7 s hT ht hto hcd hw he hs h40
    rw [List.length_cons] at hto
    obtain ⟨hc, hcd⟩ := hcd
    obtain ⟨a, b, hw1, hw⟩ := hw
    -- one step, then the rest
    have go : ∀ (S1 : SS) (b4 b5 b6 b7 : qm_AV) (j : Nat) (v : Int32), cs env c S = S1 → S1.1.length = a → S1.2.length = b → qm_evB (d + 2) jL_valueOf 1 [qP 5 0, qI (nI cl), qI (nI (sk S).length), qI (nI i), a4, a5, a6, a7] [] s = qm_evB (d + 2) jL_valueOf 1 [qP 5 0, qI (nI cl), qI (nI (sk S1).length), qI (nI (i + 1)), b4, b5, b6, b7] [] (uI s 42 0 j v) → stk (fun k => zI (uI s 42 0 j v) 42 0 k) (sk S1) → a + b ≤ 40 → ∃ s' b4 b5 b6 b7, qm_evB (d + 2) jL_valueOf 1 [qP 5 0, qI (nI cl), qI (nI (sk S).length), qI (nI i), a4, a5, a6, a7] [] s = qm_evB (d + 2) jL_valueOf 1 [qP 5 0, qI (nI cl), qI (nI (sk (rn env (c :: D) S)).length), qI (nI to), b4, b5, b6, b7] [] s' ∧ stk (fun j => zI s' 42 0 j) (sk (rn env (c :: D) S)) ∧ (rn env (c :: D) S).1.length = T' ∧ (rn env (c :: D) S).2.length = N' ∧ fr [42] s s' := by
      intro S1 b4 b5 b6 b7 j v hS ha hb hev hst hab
      have hf : fr [42] s (uI s 42 0 j v) := fr_uI (by decide) (fr_refl _ _) _ _ _
      have hfun : (fun k => zI (uI s 42 0 j v) 31 t k) = fun k => zI s 31 t k := funext fun k => hf.1 31 t k (by decide)
      obtain ⟨s', c4, c5, c6, c7, q1, q2, q3, q4, q5⟩ := ih (i + 1) S1 b4 b5 b6 b7 (uI s 42 0 j v) (by rw [hf.2.2 5 0 0 (by decide)]; exact hT) (by rw [hf.1 34 t cl (by decide)]; exact ht) (by omega) (by rw [hfun]; exact hcd) (by rw [ha, hb]; exact hw) (fun c' h1 h2 => by rw [hf.1 41 0 c'.2 (by decide)]; exact he c' (List.mem_cons_of_mem _ h1) h2) hst (by omega)
      have e : rn env (c :: D) S = rn env D S1 := by
        rw [← hS]
        rfl
      rw [e]
      exact ⟨s', c4, c5, c6, c7, hev.trans q1, q2, q3, q4, fr_trans hf q5⟩
    have hi : i < to := by omega
    obtain ⟨S1, S2⟩ := S
    rcases hw1 with ⟨h0, h9, h8, rfl, rfl⟩ | ⟨h0, h9, h8, rfl, rfl⟩ | ⟨h0, h9, rfl, rfl⟩ | ⟨h0, h9, h8, rfl, rfl⟩ | ⟨h0, h9, h8, rfl, rfl⟩ | ⟨h0, h9, h8, rfl, rfl⟩ | ⟨h0, h9, h8, rfl, rfl⟩
    · have e : enc c = c.2 := if_pos h0
      rw [e] at hc
      have hl : (S2 ++ S1).length < 40 := by rw [List.length_append]; dsimp only at h8; omega
      refine go (S1, nI c.2 :: S2) _ _ _ _ (S2 ++ S1).length (nI c.2) (by unfold cs; rw [if_pos h0]) rfl rfl (v_num d s t cl _ i to c.2 a4 a5 a6 a7 hT hcl ht hi ht3 hc h9 hl) ?_ (by dsimp only at h8 ⊢; omega)
      exact stk_up hs
    · have e : enc c = 10000 + c.2 := by unfold enc; rw [if_neg (by omega), if_pos h0]
      rw [e] at hc
      have hl : (S2 ++ S1).length < 40 := by rw [List.length_append]; dsimp only at h8; omega
      have hn := he c (List.mem_cons_self ..) h0
      have hv := v_name d s t cl (S2 ++ S1).length i to c.2 a4 a5 a6 a7 hT hcl ht hi ht3 hc h9 hl
      rw [hn] at hv
      refine go (S1, env c.2 :: S2) _ _ _ _ (S2 ++ S1).length (env c.2) (by unfold cs; rw [if_neg (by omega), if_pos h0]) rfl rfl hv ?_ (by dsimp only at h8 ⊢; omega)
      exact stk_up hs
    · have e : enc c = 20000 + tok c.1 := by unfold enc; rw [if_neg (by omega), if_neg (by omega)]
      rw [e, h0] at hc
      cases S2 with
      | nil => exact absurd h9 (by simp)
      | cons x S2 =>
        have hl : (S2 ++ S1).length < 40 := by rw [List.length_append]; dsimp only [List.length_cons] at h40; omega
        obtain ⟨v, hv⟩ := v_one d s t cl (S2 ++ S1).length i to 2 a4 a5 a6 a7 hT hcl ht hi ht3 hc (Or.inl rfl) hl
        have hx : zI s 42 0 (S2 ++ S1).length = x := hs.1
        rw [hx, if_pos rfl] at hv
        refine go (S1, -x :: S2) _ _ _ _ _ _ (by unfold cs; rw [if_neg (by omega), if_neg (by omega), if_pos h0]; rfl) rfl rfl hv ?_ (by dsimp only [List.length_cons] at h40 ⊢; omega)
        exact stk_up hs.2
    · have ho : is2 c.1 := Or.inl ⟨h0, h9⟩
      have e : enc c = 20000 + tok c.1 := by unfold enc; rw [if_neg (by omega), if_neg (by omega)]
      rw [e] at hc
      cases S2 with
      | nil => exact absurd h8 (by simp)
      | cons x S2 => cases S2 with
        | nil => exact absurd h8 (by simp)
        | cons y S2 =>
          have hl : (S2 ++ S1).length + 1 < 40 := by rw [List.length_append]; dsimp only [List.length_cons] at h40; omega
          obtain ⟨v, hv⟩ := v_two d s t cl (S2 ++ S1).length i to c.1 a4 a5 a6 a7 hT hcl ht hi ht3 hc ho hl
          have hx : zI s 42 0 ((S2 ++ S1).length + 1) = x := hs.1
          have hy : zI s 42 0 (S2 ++ S1).length = y := hs.2.1
          rw [hx, hy] at hv
          refine go (S1, j2 c.1 y x :: S2) _ _ _ _ _ _ (by unfold cs; rw [if_neg (by omega), if_neg (by omega), if_neg (by omega), if_pos h9]; rfl) rfl (by dsimp only [List.length_cons]; omega) hv ?_ (by dsimp only [List.length_cons] at h40 ⊢; omega)
          exact stk_up hs.2.2
    · have ho : is2 c.1 := Or.inr (Or.inl ⟨h0, h9⟩)
      have e : enc c = 20000 + tok c.1 := by unfold enc; rw [if_neg (by omega), if_neg (by omega)]
      rw [e] at hc
      cases S2 with
      | nil => exact absurd h8 (by simp)
      | cons x S2 => cases S2 with
        | nil => exact absurd h8 (by simp)
        | cons y S2 =>
          have hz : S2 = [] := by
            cases S2 with
            | nil => rfl
            | cons _ _ => simp at h8
          subst hz
          have hl : S1.length + 1 < 40 := by dsimp only [List.length_cons] at h40; simp at h40; omega
          obtain ⟨v, hv⟩ := v_two d s t cl S1.length i to c.1 a4 a5 a6 a7 hT hcl ht hi ht3 hc ho hl
          have hx : zI s 42 0 (S1.length + 1) = x := hs.1
          have hy : zI s 42 0 S1.length = y := hs.2.1
          rw [hx, hy] at hv
          refine go (j2 c.1 y x :: S1, []) _ _ _ _ _ _ (by unfold cs; rw [if_neg (by omega), if_neg (by omega), if_neg (by omega), if_neg (by omega), if_pos h9]; rfl) rfl rfl hv ?_ (by dsimp only [List.length_cons] at h40 ⊢; simp at h40; omega)
          exact stk_up hs.2.2
    · have e : enc c = 20000 + tok c.1 := by unfold enc; rw [if_neg (by omega), if_neg (by omega)]
      rw [e, h0] at hc
      have hz : S2 = [] := List.length_eq_zero_iff.mp h9
      subst hz
      cases S1 with
      | nil => exact absurd h8 (by simp)
      | cons x S1 =>
        have hl : S1.length < 40 := by dsimp only [List.length_cons] at h40; simp at h40; omega
        obtain ⟨v, hv⟩ := v_one d s t cl S1.length i to 20 a4 a5 a6 a7 hT hcl ht hi ht3 hc (Or.inr rfl) hl
        have hx : zI s 42 0 S1.length = x := hs.1
        rw [hx, if_neg (by decide)] at hv
        refine go ((1 - x) :: S1, []) _ _ _ _ _ _ (by unfold cs; rw [if_neg (by omega), if_neg (by omega), if_neg (by omega), if_neg (by omega), if_neg (by omega), if_pos h0]; rfl) rfl rfl hv ?_ (by dsimp only [List.length_cons] at h40 ⊢; simp at h40; omega)
        exact stk_up hs.2
    · have ho : is2 c.1 := Or.inr (Or.inr h0)
      have e : enc c = 20000 + tok c.1 := by unfold enc; rw [if_neg (by omega), if_neg (by omega)]
      rw [e] at hc
      have hz : S2 = [] := List.length_eq_zero_iff.mp h9
      subst hz
      cases S1 with
      | nil => exact absurd h8 (by simp)
      | cons x S1 => cases S1 with
        | nil => exact absurd h8 (by simp)
        | cons y S1 =>
          have hl : S1.length + 1 < 40 := by dsimp only [List.length_cons] at h40; simp at h40; omega
          obtain ⟨v, hv⟩ := v_two d s t cl S1.length i to c.1 a4 a5 a6 a7 hT hcl ht hi ht3 hc ho hl
          have hx : zI s 42 0 (S1.length + 1) = x := hs.1
          have hy : zI s 42 0 S1.length = y := hs.2.1
          rw [hx, hy] at hv
          refine go (j2 c.1 y x :: S1, []) _ _ _ _ _ _ (by unfold cs; rw [if_neg (by omega), if_neg (by omega), if_neg (by omega), if_neg (by omega), if_neg (by omega), if_neg (by omega)]; rfl) (by dsimp only [List.length_cons]; omega) rfl hv ?_ (by dsimp only [List.length_cons] at h40 ⊢; simp at h40; omega)
          exact stk_up hs.2.2
/-- what a clause comes to -/
def cv (env : Nat → Int32) (C : List (Nat × Nat)) : Int32 := (sk (rn env C ([], []))).headD 0
theorem s_valueOf (d : Nat) (s : qm_Hp) (t cl fm T' N' : Nat) (C : List (Nat × Nat)) (env : Nat → Int32) (hT : zP s 5 0 0 = (4, t)) (hcl : cl < 20) (hfm : zI s 33 t cl = nI fm) (hto : zI s 34 t cl = nI (fm + C.length)) (h3 : fm + C.length ≤ 300) (hC : cdC (fun j => zI s 31 t j) fm C) (hw : wt C 0 0 T' N') (h1 : T' + N' = 1) (he : ∀ c, c ∈ C → c.1 = 1 → zI s 41 0 c.2 = env c.2) : ∃ s', qm_evM (d + 2) jL_valueOf [qP 5 0, qI (nI cl)] s = some (some (qI (cv env C)), s') ∧ fr [42] s s' := by
  have h2 : vp_in (nI cl) 20 := vp_in_nI hcl (by decide)
  have h4 : (nI cl).toNatClampNeg = cl := nI_clamp (by omega)
  obtain ⟨s', b4, b5, b6, b7, q1, q2, q3, q4, q5⟩ := v_run d t cl (fm + C.length) T' N' env hcl h3 C fm ([], []) qU qU qU qU s hT hto rfl hC hw he trivial (by simp)
  refine ⟨s', ?_, q5⟩
  simp only [e_L_valueOf, b_L_valueOf_0, qx, qe, qc, qil, reduceIte, Nat.reduceEqDiff, Nat.reduceLeDiff, Bool.false_eq_true, Nat.reduceAdd, Nat.reduceLT, List.length_cons, List.length_nil, or_self, or_false, false_or, or_true, true_or, and_self, and_true, true_and, and_false, false_and, not_true_eq_false, not_false_eq_true, Nat.zero_le, qz1, qz2, qz3, qz4, qz5, qz6, qz7, qz8, qz9, qz0, qz10, qz01, hT, h2, h4, hfm]
  refine q1.trans ?_
  have g1 : zP s' 5 0 0 = (4, t) := by rw [q5.2.2 5 0 0 (by decide)]; exact hT
  have g2 : zI s' 34 t cl = nI (fm + C.length) := by rw [q5.1 34 t cl (by decide)]; exact hto
  have g3 : zI s' 42 0 0 = cv env C := by
    unfold cv
    have hl : (sk (rn env C ([], []))).length = 1 := by rw [List.length_append]; omega
    match hq : sk (rn env C ([], [])), hl, q2 with
    | [x], _, q2 => exact q2.1
  simp only [b_L_valueOf_1, b_L_valueOf_10, qx, qe, qc, qil, reduceIte, Nat.reduceEqDiff, Nat.reduceLeDiff, Bool.false_eq_true, Nat.reduceAdd, Nat.reduceLT, List.length_cons, List.length_nil, or_self, or_false, false_or, or_true, true_or, and_self, and_true, true_and, and_false, false_and, not_true_eq_false, not_false_eq_true, Nat.zero_le, qz1, qz2, qz3, qz4, qz5, qz6, qz7, qz8, qz9, qz0, qz10, qz01, g1, g2, g3, h2, h4, Int32.le_refl, qtn, qvi]
