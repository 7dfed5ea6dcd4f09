/-! the reference's clause worked out, whole -/
theorem bd_nI {v : Nat} (h : v ≤ 1000000) : bd (nI v) := by
  unfold bd
  rw [nI_toInt (by omega)]
  omega
theorem stk_mapU {s : qm_Hp} {l : List Int32} {v : Int32} (h : stk (fun j => zL s 66 0 j) (l.map Int32.toInt64)) : stk (fun j => zL (uL s 66 0 l.length v.toInt64) 66 0 j) ((v :: l).map Int32.toInt64) := by
  have := stk_upL (s := s) (k := 66) (i := 0) (l := l.map Int32.toInt64) (v := v.toInt64) h
  rw [List.length_map] at this
  exact this
theorem k_run (d cl X CO to T' N' : Nat) (env : Nat → Int32) (hX : X + 2 < 2880) (hCO : CO + 602 < 2880) (ht3 : to ≤ 300) : ∀ (D : List (Nat × Nat)) (i : Nat) (S : SS) (a7 a8 : qm_AV) (s : qm_Hp), zI s 62 0 (X + 2) = nI to → to = i + D.length → cdM (fun j => zI s 62 0 (CO + j)) i D → wt D S.1.length S.2.length T' N' → (∀ c, c ∈ D → c.1 = 1 → zI s 65 0 c.2 = env c.2 ∧ bd (env c.2)) → stk (fun j => zI s 67 0 j) S.1 → stk (fun j => zL s 66 0 j) (S.2.map Int32.toInt64) → (∀ x, x ∈ S.2 → bd x) → (∀ x, x ∈ S.1 → x = 0 ∨ x = 1) → S.1.length + S.2.length ≤ 40 → ∃ s' b7 b8, qm_evB (d + 2) jM_work 1 [qP 9 0, qI (nI cl), qI (nI X), qI (nI CO), qI (nI S.2.length), qI (nI S.1.length), qI (nI i), a7, a8] [] s = qm_evB (d + 2) jM_work 1 [qP 9 0, qI (nI cl), qI (nI X), qI (nI CO), qI (nI (rn env D S).2.length), qI (nI (rn env D S).1.length), qI (nI to), b7, b8] [] s' ∧ stk (fun j => zI s' 67 0 j) (rn env D S).1 ∧ stk (fun j => zL s' 66 0 j) ((rn env D S).2.map Int32.toInt64) ∧ (∀ x, x ∈ (rn env D S).2 → bd x) ∧ (∀ x, x ∈ (rn env D S).1 → x = 0 ∨ x = 1) ∧ (rn env D S).1.length = T' ∧ (rn env D S).2.length = N' ∧ fr [66, 67] s s' := by
  intro D
  induction D with
  | nil =>
    intro i S a7 a8 s _ hto _ hw _ h1 h2 h3 h4 _
    have e : to = i := hto
    subst e
    exact ⟨s, a7, a8, rfl, h1, h2, h3, h4, hw.1, hw.2, fr_refl _ _⟩
  | cons c D ih =>
    intro i S a7 a8 s ht hto hcd hw he hs1 hs2 hb h01 h40
    rw [List.length_cons] at hto
    obtain ⟨hc, hv, hcd⟩ := hcd
    obtain ⟨a, b, hw1, hw⟩ := hw
    have hCO' : CO + 2 * i + 1 < 2880 := by omega
    have hi : i < to := by omega
    have go : ∀ (S1 : SS) (b7 b8 : qm_AV) (s1 : qm_Hp), cs env c S = S1 → S1.1.length = a → S1.2.length = b → qm_evB (d + 2) jM_work 1 [qP 9 0, qI (nI cl), qI (nI X), qI (nI CO), qI (nI S.2.length), qI (nI S.1.length), qI (nI i), a7, a8] [] s = qm_evB (d + 2) jM_work 1 [qP 9 0, qI (nI cl), qI (nI X), qI (nI CO), qI (nI S1.2.length), qI (nI S1.1.length), qI (nI (i + 1)), b7, b8] [] s1 → fr [66, 67] s s1 → stk (fun j => zI s1 67 0 j) S1.1 → stk (fun j => zL s1 66 0 j) (S1.2.map Int32.toInt64) → (∀ x, x ∈ S1.2 → bd x) → (∀ x, x ∈ S1.1 → x = 0 ∨ x = 1) → a + b ≤ 40 → ∃ s' b7 b8, qm_evB (d + 2) jM_work 1 [qP 9 0, qI (nI cl), qI (nI X), qI (nI CO), qI (nI S.2.length), qI (nI S.1.length), qI (nI i), a7, a8] [] s = qm_evB (d + 2) jM_work 1 [qP 9 0, qI (nI cl), qI (nI X), qI (nI CO), qI (nI (rn env (c :: D) S).2.length), qI (nI (rn env (c :: D) S).1.length), qI (nI to), b7, b8] [] s' ∧ stk (fun j => zI s' 67 0 j) (rn env (c :: D) S).1 ∧ stk (fun j => zL s' 66 0 j) ((rn env (c :: D) S).2.map Int32.toInt64) ∧ (∀ x, x ∈ (rn env (c :: D) S).2 → bd x) ∧ (∀ x, x ∈ (rn env (c :: D) S).1 → x = 0 ∨ x = 1) ∧ (rn env (c :: D) S).1.length = T' ∧ (rn env (c :: D) S).2.length = N' ∧ fr [66, 67] s s' := by
      intro S1 b7 b8 s1 hS ha hbb hev hf hst1 hst2 hbd h01' hab
      have hfun : (fun k => zI s1 62 0 (CO + k)) = fun k => zI s 62 0 (CO + k) := funext fun k => hf.1 62 0 (CO + k) (by decide)
      obtain ⟨s', c7, c8, q1, q2, q3, q4, q5, q6, q7, q8⟩ := ih (i + 1) S1 b7 b8 s1 (by rw [hf.1 62 0 (X + 2) (by decide)]; exact ht) (by omega) (by rw [hfun]; exact hcd) (by rw [ha, hbb]; exact hw) (fun c' h1 h2 => by rw [hf.1 65 0 c'.2 (by decide)]; exact he c' (List.mem_cons_of_mem _ h1) h2) hst1 hst2 hbd h01' (by omega)
      have e : rn env (c :: D) S = rn env D S1 := by
        rw [← hS]
        rfl
      rw [e]
      exact ⟨s', c7, c8, hev.trans q1, q2, q3, q4, q5, q6, q7, fr_trans hf q8⟩
    have f66 : ∀ j v, fr [66, 67] s (uL s 66 0 j v) := fun j v => fr_uL (by decide) (fr_refl _ _) _ _ _
    have f67 : ∀ j v, fr [66, 67] s (uI s 67 0 j v) := fun j v => fr_uI (by decide) (fr_refl _ _) _ _ _
    obtain ⟨S1, S2⟩ := S
    rcases hw1 with ⟨h0, h9, h8, rfl, rfl⟩ | ⟨h0, h9, h8, rfl, rfl⟩ | ⟨h0, h9, rfl, rfl⟩ | ⟨h0, h9, h8, rfl, rfl⟩ | ⟨h0, h9, h8, rfl, rfl⟩ | ⟨h0, h9, h8, rfl, rfl⟩ | ⟨h0, h9, h8, rfl, rfl⟩
    · rw [h0] at hc
      have hl : S2.length < 330 := by dsimp only at h8; omega
      refine go (S1, nI c.2 :: S2) _ _ _ (by unfold cs; rw [if_pos h0]) rfl rfl (k_num d s cl X CO S2.length S1.length i to c.2 a7 a8 hX hCO' ht hi ht3 hc hv hl) (f66 _ _) hs1 (stk_mapU hs2) ?_ h01 (by dsimp only at h8 ⊢; omega)
      intro x hx
      rcases List.mem_cons.mp hx with rfl | hx
      · exact bd_nI (by omega)
      · exact hb x hx
    · rw [h0] at hc
      have hl : S2.length < 330 := by dsimp only at h8; omega
      obtain ⟨hn, hbn⟩ := he c (List.mem_cons_self ..) h0
      have hk := k_name d s cl X CO S2.length S1.length i to c.2 a7 a8 hX hCO' ht hi ht3 hc hv h9 hl
      rw [hn] at hk
      refine go (S1, env c.2 :: S2) _ _ _ (by unfold cs; rw [if_neg (by omega), if_pos h0]) rfl rfl hk (f66 _ _) hs1 (stk_mapU hs2) ?_ h01 (by dsimp only at h8 ⊢; omega)
      intro x hx
      rcases List.mem_cons.mp hx with rfl | hx
      · exact hbn
      · exact hb x hx
    · rw [h0] at hc
      cases S2 with
      | nil => exact absurd h9 (by simp)
      | cons x S2 =>
        have hl : S2.length < 330 := by dsimp only [List.length_cons] at h40; omega
        have hk := k_neg d s cl X CO S2.length S1.length i to c.2 a7 a8 hX hCO' ht hi ht3 hc hv hl
        have hx : zL s 66 0 S2.length = x.toInt64 := by
          have := hs2.1
          rw [List.length_map] at this
          exact this
        have hbx := hb x (List.mem_cons_self ..)
        rw [hx, neg64 hbx] at hk
        refine go (S1, -x :: S2) _ _ _ (by unfold cs; rw [if_neg (by omega), if_neg (by omega), if_pos h0]; rfl) rfl rfl hk (f66 _ _) hs1 (stk_mapU hs2.2) ?_ h01 (by dsimp only [List.length_cons] at h40 ⊢; omega)
        intro x' hx'
        rcases List.mem_cons.mp hx' with rfl | hx'
        · exact neg_bd hbx
        · exact hb x' (List.mem_cons_of_mem _ hx')
    · cases S2 with
      | nil => exact absurd h8 (by simp)
      | cons x S2 => cases S2 with
        | nil => exact absurd h8 (by simp)
        | cons y S2 =>
          have hl : S2.length + 1 < 330 := by dsimp only [List.length_cons] at h40; omega
          have hx : zL s 66 0 (S2.length + 1) = x.toInt64 := by
            have := hs2.1
            rw [List.length_map] at this
            exact this
          have hy : zL s 66 0 S2.length = y.toInt64 := by
            have := hs2.2.1
            rw [List.length_map] at this
            exact this
          have hk := k_two d s cl X CO S2.length S1.length i to c.1 c.2 y x a7 a8 hX hCO' ht hi ht3 hc hv hl ⟨h0, h9⟩ hy hx (hb y (List.mem_cons_of_mem _ (List.mem_cons_self ..))) (hb x (List.mem_cons_self ..))
          refine go (S1, j2 c.1 y x :: S2) _ _ _ (by unfold cs; rw [if_neg (by omega), if_neg (by omega), if_neg (by omega), if_pos h9]; rfl) rfl (by dsimp only [List.length_cons]; omega) hk (f66 _ _) hs1 (stk_mapU hs2.2.2) ?_ h01 (by dsimp only [List.length_cons] at h40 ⊢; omega)
          intro x' hx'
          rcases List.mem_cons.mp hx' with rfl | hx'
          · exact j2_bd _ _ _
          · exact hb x' (List.mem_cons_of_mem _ (List.mem_cons_of_mem _ hx'))
    · cases S2 with
      | nil => exact absurd h8 (by simp)
      | cons x S2 => cases S2 with
        | nil => exact absurd h8 (by simp)
        | cons y S2 =>
          have hz : S2 = [] := by
            cases S2 with
            | nil => rfl
            | cons _ _ => simp at h8
          subst hz
          have hx : zL s 66 0 (0 + 1) = x.toInt64 := hs2.1
          have hy : zL s 66 0 0 = y.toInt64 := hs2.2.1
          have hk := k_ask d s cl X CO 0 S1.length i to c.1 c.2 y x a7 a8 hX hCO' ht hi ht3 hc hv (by decide) (by dsimp only [List.length_cons] at h40; omega) ⟨h0, h9⟩ hy hx
          refine go (j2 c.1 y x :: S1, []) _ _ _ (by unfold cs; rw [if_neg (by omega), if_neg (by omega), if_neg (by omega), if_neg (by omega), if_pos h9]; rfl) rfl rfl hk (f67 _ _) (stk_up hs1) trivial (fun x hx => by cases hx) ?_ (by dsimp only [List.length_cons] at h40 ⊢; simp at h40; omega)
          intro x' hx'
          rcases List.mem_cons.mp hx' with rfl | hx'
          · exact j2_01 _ ⟨h0, h9⟩ _ _
          · exact h01 x' hx'
    · rw [h0] at hc
      have hz : S2 = [] := List.length_eq_zero_iff.mp h9
      subst hz
      cases S1 with
      | nil => exact absurd h8 (by simp)
      | cons x S1 =>
        have hx : zI s 67 0 S1.length = x := hs1.1
        have h01x := h01 x (List.mem_cons_self ..)
        have hk := k_not d s cl X CO 0 S1.length i to c.2 x a7 a8 hX hCO' ht hi ht3 hc hv (by dsimp only [List.length_cons] at h40; simp at h40; omega) hx h01x
        refine go ((1 - x) :: S1, []) _ _ _ (by unfold cs; rw [if_neg (by omega), if_neg (by omega), if_neg (by omega), if_neg (by omega), if_neg (by omega), if_pos h0]; rfl) rfl rfl hk (f67 _ _) (stk_up hs1.2) trivial (fun x hx => by cases hx) ?_ (by dsimp only [List.length_cons] at h40 ⊢; simp at h40; omega)
        intro x' hx'
        rcases List.mem_cons.mp hx' with rfl | hx'
        · rcases h01x with rfl | rfl
          · exact Or.inr rfl
          · exact Or.inl rfl
        · exact h01 x' (List.mem_cons_of_mem _ hx')
    · have hz : S2 = [] := List.length_eq_zero_iff.mp h9
      subst hz
      cases S1 with
      | nil => exact absurd h8 (by simp)
      | cons x S1 => cases S1 with
        | nil => exact absurd h8 (by simp)
        | cons y S1 =>
          have hx : zI s 67 0 (S1.length + 1) = x := hs1.1
          have hy : zI s 67 0 S1.length = y := hs1.2.1
          have h01x := h01 x (List.mem_cons_self ..)
          have h01y := h01 y (List.mem_cons_of_mem _ (List.mem_cons_self ..))
          have hk := k_bool d s cl X CO 0 S1.length i to c.1 c.2 y x a7 a8 hX hCO' ht hi ht3 hc h0 hv (by dsimp only [List.length_cons] at h40; simp at h40; omega) hy hx h01y h01x
          refine go (j2 c.1 y x :: S1, []) _ _ _ (by unfold cs; rw [if_neg (by omega), if_neg (by omega), if_neg (by omega), if_neg (by omega), if_neg (by omega), if_neg (by omega)]; rfl) (by dsimp only [List.length_cons]; omega) rfl hk (f67 _ _) (stk_up hs1.2.2) trivial (fun x hx => by cases hx) ?_ (by dsimp only [List.length_cons] at h40 ⊢; simp at h40; omega)
          intro x' hx'
          rcases List.mem_cons.mp hx' with rfl | hx'
          · rw [j2_bool c.1 h0 y x h01y h01x]
            rcases h0 with h0 | h0 <;> rcases h01x with rfl | rfl <;> rcases h01y with rfl | rfl <;> simp [h0]
          · exact h01 x' (List.mem_cons_of_mem _ (List.mem_cons_of_mem _ hx'))
