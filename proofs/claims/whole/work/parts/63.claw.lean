/-! the class's laws: thick, heat, worth, stand, height, lean -/
theorem abs_fold (x : Int32) : (if 0 ≤ x then x else 0 - x) = absI x := rfl
theorem sm_no {τ : TX} {a : Nat} (h : ¬ fnd τ a < τ.1) (env : Nat → Int32) (lo hi dft : Int32) : sm τ a env lo hi dft = dft := if_neg h
theorem sm_yes {τ : TX} {a : Nat} (h : fnd τ a < τ.1) (env : Nat → Int32) (lo hi dft : Int32) : sm τ a env lo hi dft = ck (cv env (τ.2 (fnd τ a)).2) lo hi := if_pos h
theorem c_thick (d : Nat) {s : qm_Hp} {p w c z : Nat} {y : VW} {τ : TX} (hP : PC s p w y) (ok : OKP w y) (hL : LC s τ) (okt : OKT τ) (hc : c < w) (hz : z < cn y c) : ∃ s', qm_evM (d + 4) jL_thickOf [qP 5 0, qP 3 p, qI (nI c), qI (nI z)] s = some (some (qI (thick τ y w c z)), s') ∧ fr [41, 42] s s' ∧ (∀ v, 8 ≤ v → v ≤ 11 → zI s' 41 0 v = zI s 41 0 v) := by
  have h20 := okt.1
  have h8 := OK_n ok hc
  have hw6 := ok.1.2
  obtain ⟨t, hT, hTC⟩ := id hL
  have hcl := c_clauseOf (d + 1) hTC 1 (by decide)
  unfold thick
  by_cases hf : fnd τ 1 < τ.1
  · have hs := fnd_is hf
    obtain ⟨s', q1, q2, q3, q4⟩ := c_lv (d + 1) (d + 1) W0 hP ok hL okt hc hz hf (by omega) (by omega) (fun h => by omega)
    refine ⟨s', ?_, q3, q4⟩
    rw [if_pos hf] at hcl
    rw [sm_yes hf]
    simp (config := {maxSteps := 1000000}) (disch := first | omega | assumption | (simp only [qm_wid_n, qm_wid_I, qm_wid_L, qm_wid_P] <;> omega)) only [e_L_thickOf, b_L_thickOf_0, qy0, qy1, qy2, qy3, qe, qcn, qin, ↓reduceIte, Nat.reduceEqDiff, Nat.reduceLeDiff, Bool.false_eq_true, Nat.reduceAdd, Nat.reduceSub, Nat.reduceMul, Nat.reduceLT, or_self, or_false, false_or, or_true, true_or, and_self, and_true, true_and, and_false, false_and, not_true_eq_false, not_false_eq_true, hT, hcl, q1, q2, t_clamp]
  · refine ⟨s, ?_, fr_refl _ _, fun _ _ _ => rfl⟩
    rw [if_neg hf] at hcl
    rw [sm_no hf]
    have g1 := PC_sz hP hc hz
    have g2 := PC_wt hP hc hz
    unfold dthick
    by_cases h3 : y 4 (8 * c + z) < nI 300
    · have h3' := Int32.not_le.mpr h3
      simp (config := {maxSteps := 1000000}) (disch := first | omega | assumption | (simp only [qm_wid_n, qm_wid_I, qm_wid_L, qm_wid_P] <;> omega)) only [e_L_thickOf, b_L_thickOf_0, b_L_thickOf_1, b_L_thickOf_2, b_L_thickOf_3, qy0, qy1, qy2, qy3, qe, qcn, qin, ↓reduceIte, Nat.reduceEqDiff, Nat.reduceLeDiff, Bool.false_eq_true, Nat.reduceAdd, Nat.reduceSub, Nat.reduceMul, Nat.reduceLT, or_self, or_false, false_or, or_true, true_or, and_self, and_true, true_and, and_false, false_and, not_true_eq_false, not_false_eq_true, hT, hcl, t_place, g1, g2, h3, h3']
    · have h3' := Int32.not_lt.mp h3
      simp (config := {maxSteps := 1000000}) (disch := first | omega | assumption | (simp only [qm_wid_n, qm_wid_I, qm_wid_L, qm_wid_P] <;> omega)) only [e_L_thickOf, b_L_thickOf_0, b_L_thickOf_1, b_L_thickOf_2, b_L_thickOf_3, qy0, qy1, qy2, qy3, qe, qcn, qin, ↓reduceIte, Nat.reduceEqDiff, Nat.reduceLeDiff, Bool.false_eq_true, Nat.reduceAdd, Nat.reduceSub, Nat.reduceMul, Nat.reduceLT, or_self, or_false, false_or, or_true, true_or, and_self, and_true, true_and, and_false, false_and, not_true_eq_false, not_false_eq_true, hT, hcl, t_place, g1, g2, h3, h3']
theorem c_heat (d : Nat) {s : qm_Hp} {p w c z : Nat} {y : VW} {τ : TX} (hP : PC s p w y) (ok : OKP w y) (hL : LC s τ) (okt : OKT τ) (hc : c < w) (hz : z < cn y c) : ∃ s', qm_evM (d + 4) jL_heatOf [qP 5 0, qP 3 p, qI (nI c), qI (nI z)] s = some (some (qI (heat τ y w c z)), s') ∧ fr [41, 42] s s' := by
  have h20 := okt.1
  have h8 := OK_n ok hc
  have hw6 := ok.1.2
  obtain ⟨t, hT, hTC⟩ := id hL
  have hcl := c_clauseOf (d + 1) hTC 4 (by decide)
  unfold heat
  by_cases hf : fnd τ 4 < τ.1
  · have hs := fnd_is hf
    obtain ⟨s', q1, q2, q3, q4⟩ := c_lv (d + 1) (d + 1) W0 hP ok hL okt hc hz hf (by omega) (by omega) (fun h => by omega)
    refine ⟨s', ?_, q3⟩
    rw [if_pos hf] at hcl
    rw [sm_yes hf]
    simp (config := {maxSteps := 1000000}) (disch := first | omega | assumption | (simp only [qm_wid_n, qm_wid_I, qm_wid_L, qm_wid_P] <;> omega)) only [e_L_heatOf, b_L_heatOf_0, qy0, qy1, qy2, qy3, qe, qcn, qin, ↓reduceIte, Nat.reduceEqDiff, Nat.reduceLeDiff, Bool.false_eq_true, Nat.reduceAdd, Nat.reduceSub, Nat.reduceMul, Nat.reduceLT, or_self, or_false, false_or, or_true, true_or, and_self, and_true, true_and, and_false, false_and, not_true_eq_false, not_false_eq_true, hT, hcl, q1, q2, t_clamp]
  · refine ⟨s, ?_, fr_refl _ _⟩
    rw [if_neg hf] at hcl
    rw [sm_no hf]
    have g1 := PC_sz hP hc hz
    have g2 := PC_wt hP hc hz
    simp (config := {maxSteps := 1000000}) (disch := first | omega | assumption | (simp only [qm_wid_n, qm_wid_I, qm_wid_L, qm_wid_P] <;> omega)) only [e_L_heatOf, b_L_heatOf_0, b_L_heatOf_1, qy0, qy1, qy2, qy3, qe, qcn, qin, ↓reduceIte, Nat.reduceEqDiff, Nat.reduceLeDiff, Bool.false_eq_true, Nat.reduceAdd, Nat.reduceSub, Nat.reduceMul, Nat.reduceLT, or_self, or_false, false_or, or_true, true_or, and_self, and_true, true_and, and_false, false_and, not_true_eq_false, not_false_eq_true, hT, hcl, t_place, g1, g2]
theorem c_worth (d : Nat) {s : qm_Hp} {p w c z : Nat} {y : VW} {τ : TX} (hP : PC s p w y) (ok : OKP w y) (hL : LC s τ) (okt : OKT τ) (hc : c < w) (hz : z < cn y c) : ∃ s', qm_evM (d + 4) jL_worthOf [qP 5 0, qP 3 p, qI (nI c), qI (nI z)] s = some (some (qI (worth τ y w c z)), s') ∧ fr [41, 42] s s' := by
  have h20 := okt.1
  have h8 := OK_n ok hc
  have hw6 := ok.1.2
  obtain ⟨t, hT, hTC⟩ := id hL
  have hcl := c_clauseOf (d + 1) hTC 3 (by decide)
  unfold worth
  by_cases hf : fnd τ 3 < τ.1
  · have hs := fnd_is hf
    obtain ⟨s', q1, q2, q3, q4⟩ := c_lv (d + 1) (d + 1) W0 hP ok hL okt hc hz hf (by omega) (by omega) (fun h => by omega)
    refine ⟨s', ?_, q3⟩
    rw [if_pos hf] at hcl ⊢
    simp (config := {maxSteps := 1000000}) (disch := first | omega | assumption | (simp only [qm_wid_n, qm_wid_I, qm_wid_L, qm_wid_P] <;> omega)) only [e_L_worthOf, b_L_worthOf_0, qy0, qy1, qy2, qy3, qe, qcn, qin, ↓reduceIte, Nat.reduceEqDiff, Nat.reduceLeDiff, Bool.false_eq_true, Nat.reduceAdd, Nat.reduceSub, Nat.reduceMul, Nat.reduceLT, or_self, or_false, false_or, or_true, true_or, and_self, and_true, true_and, and_false, false_and, not_true_eq_false, not_false_eq_true, hT, hcl, q1, q2]
  · refine ⟨s, ?_, fr_refl _ _⟩
    rw [if_neg hf] at hcl ⊢
    have g2 := PC_wt hP hc hz
    simp (config := {maxSteps := 1000000}) (disch := first | omega | assumption | (simp only [qm_wid_n, qm_wid_I, qm_wid_L, qm_wid_P] <;> omega)) only [e_L_worthOf, b_L_worthOf_0, b_L_worthOf_1, qy0, qy1, qy2, qy3, qe, qcn, qin, ↓reduceIte, Nat.reduceEqDiff, Nat.reduceLeDiff, Bool.false_eq_true, Nat.reduceAdd, Nat.reduceSub, Nat.reduceMul, Nat.reduceLT, or_self, or_false, false_or, or_true, true_or, and_self, and_true, true_and, and_false, false_and, not_true_eq_false, not_false_eq_true, hT, hcl, t_place, g2]
theorem tl_s (y : VW) (k : Nat) : tl y (k + 1) = if tl y k < cn y k then cn y k else tl y k := rfl
theorem c_tallest (d : Nat) {s : qm_Hp} {p w : Nat} {y : VW} (hP : PC s p w y) (ok : OKP w y) : qm_evM d jP_tallest [qP 3 p] s = some (some (qI (nI (tl y w))), s) := by
  have hw6 := ok.1.2
  obtain ⟨F, f0, fs, h⟩ := s_tallest d s p w hP.1 hw6
  have key : ∀ k, k ≤ w → F k = nI (tl y k) ∧ tl y k ≤ 8 := by
    intro k
    induction k with
    | zero => intro _; exact ⟨f0, Nat.zero_le _⟩
    | succ k ih =>
      intro hk
      obtain ⟨e, h8⟩ := ih (by omega)
      have h8' := OK_n ok (c := k) (by omega)
      rw [fs k, e, PC_c hP (by omega)]
      rw [tl_s]
      by_cases q : tl y k < cn y k
      · rw [if_pos q, if_pos (nI_lt q (by omega))]; exact ⟨rfl, h8'⟩
      · rw [if_neg q, if_neg (nI_nlt (by omega) (by omega))]; exact ⟨rfl, h8⟩
  rw [(key w (Nat.le_refl _)).1] at h
  exact h
theorem c_stand (d : Nat) {s : qm_Hp} {p w : Nat} {y : VW} {τ : TX} (hP : PC s p w y) (ok : OKP w y) (hL : LC s τ) (okt : OKT τ) : ∃ s', qm_evM (d + 4) jL_standOf [qP 5 0, qP 3 p] s = some (some (qI (stand τ y w)), s') ∧ fr [41, 42] s s' := by
  have h20 := okt.1
  have hw6 := ok.1.2
  obtain ⟨t, hT, hTC⟩ := id hL
  obtain ⟨w1, ⟨w2, w3, w4, w5, w6⟩, w7, w8⟩ := id hP
  have hcl := c_clauseOf (d + 1) hTC 2 (by decide)
  unfold stand
  by_cases hf : fnd τ 2 < τ.1
  · have hs := fnd_is hf
    have ht : ∀ s', zI s' 3 p 0 = zI s 3 p 0 → (∀ c, c < w → zI s' 17 p c = zI s 17 p c) → qm_evM (d + 3) jP_tallest [qP 3 p] s' = some (some (qI (nI (tl y w))), s') := fun s' e1 e2 => by
      have hw := ok.1.2
      obtain ⟨F, f0, fs, h⟩ := s_tallest (d + 3) s' p w (e1.trans hP.1) hw
      obtain ⟨F', f0', fs', h'⟩ := s_tallest (d + 3) s p w hP.1 hw
      have key : ∀ k, k ≤ w → F k = F' k := by
        intro k
        induction k with
        | zero => intro _; rw [f0, f0']
        | succ k ih => intro hk; rw [fs, fs', ih (by omega), e2 k (by omega)]
      rw [c_tallest (d + 3) hP ok] at h'
      rw [h, key w (Nat.le_refl _)]
      have := congrArg (fun o => o.map Prod.fst) h'
      simp only [Option.map_some] at this
      rw [← Option.some.inj this]
    have ht1 := ht (uI s 41 0 13 (nI w)) rfl (fun _ _ => rfl)
    generalize hs1 : uI (uI (uI (uI (uI s 41 0 13 (nI w)) 41 0 14 (nI (tl y w))) 41 0 15 (y 0 2)) 41 0 16 (y 0 3)) 41 0 12 (y 0 0) = s1
    have f1 : fr [41] s s1 := by
      rw [← hs1]
      repeat' (first | exact fr_refl _ _ | refine fr_uI (by decide) ?_ _ _ _)
    obtain ⟨s', q1, q2⟩ := c_val (d + 1) (LC_fr (K := [41]) (by decide) f1 hL) okt hf (by omega) (ev y w W0 0 0) (fun v hv => by
      unfold nmok at hv
      have hv : v = 12 ∨ v = 13 ∨ v = 14 ∨ v = 15 ∨ v = 16 := by omega
      rw [← hs1]
      rcases hv with h | h | h | h | h <;> subst h <;> simp only [zI_uI, Nat.reduceEqDiff, and_false, and_true, and_self, ↓reduceIte] <;> rfl)
    refine ⟨s', ?_, fr_trans (fr_mono (fun k hk => ?_) f1) (fr_mono (fun k hk => ?_) q2)⟩
    · rw [if_pos hf] at hcl
      rw [sm_yes hf]
      simp (config := {maxSteps := 1000000}) (disch := first | omega | assumption | (simp only [qm_wid_n, qm_wid_I, qm_wid_L, qm_wid_P] <;> omega)) only [e_L_standOf, b_L_standOf_0, b_L_standOf_1, qy0, qy1, qy2, qy3, qe, qcn, qin, ↓reduceIte, Nat.reduceEqDiff, Nat.reduceLeDiff, Bool.false_eq_true, Nat.reduceAdd, Nat.reduceSub, Nat.reduceMul, Nat.reduceLT, or_self, or_false, false_or, or_true, true_or, and_self, and_true, true_and, and_false, false_and, not_true_eq_false, not_false_eq_true, hT, hcl, zI_uI, w1, w2, w4, w5, ht1, hs1, q1, t_clamp]
    · simp only [List.mem_cons, List.not_mem_nil, or_false] at hk ⊢; omega
    · simp only [List.mem_cons, List.not_mem_nil, or_false] at hk ⊢; omega
  · refine ⟨s, ?_, fr_refl _ _⟩
    rw [if_neg hf] at hcl
    rw [sm_no hf]
    simp (config := {maxSteps := 1000000}) (disch := first | omega | assumption | (simp only [qm_wid_n, qm_wid_I, qm_wid_L, qm_wid_P] <;> omega)) only [e_L_standOf, b_L_standOf_0, qy0, qy1, qy2, qy3, qe, qcn, qin, ↓reduceIte, Nat.reduceEqDiff, Nat.reduceLeDiff, Bool.false_eq_true, Nat.reduceAdd, Nat.reduceSub, Nat.reduceMul, Nat.reduceLT, or_self, or_false, false_or, or_true, true_or, and_self, and_true, true_and, and_false, false_and, not_true_eq_false, not_false_eq_true, hT, hcl, w1, w4, w5]
theorem c_height (d : Nat) {s : qm_Hp} {p w c : Nat} {y : VW} {τ : TX} (hP : PC s p w y) (ok : OKP w y) (hL : LC s τ) (okt : OKT τ) (hc : c < w) : ∃ s', qm_evM (d + 5) jL_heightOf [qP 5 0, qP 3 p, qI (nI c)] s = some (some (qI (height τ y w c)), s') ∧ fr [41, 42] s s' := by
  have h8 := OK_n ok hc
  have hw6 := ok.1.2
  obtain ⟨x, e, q1⟩ := q_lp (cn y c) (fun k (x : qm_Hp) => qm_evB (d + 5) jL_heightOf 1 [qP 5 0, qP 3 p, qI (nI c), qI (su (fun z => thick τ y w c z) k), qI (nI k)] [] x) (fun k x => fr [41, 42] s x) (fun k x hk hx => by
    have hPx := PC_fr (K := [41, 42]) (by decide) hx hP
    obtain ⟨x', g1, g2, _⟩ := c_thick d hPx ok (LC_fr (K := [41, 42]) (by decide) hx hL) okt hc hk
    refine ⟨x', ?_, fr_trans hx g2⟩
    have hcn := PC_c hPx hc
    refine (b_L_heightOf_1 ..).trans ?_
    simp (config := {maxSteps := 1000000}) (disch := first | omega | assumption | (simp only [qm_wid_n, qm_wid_I, qm_wid_L, qm_wid_P] <;> omega)) only [qy0, qy1, qy2, qy3, qe, qcn, qin, ↓reduceIte, Nat.reduceEqDiff, Nat.reduceLeDiff, Bool.false_eq_true, Nat.reduceAdd, Nat.reduceSub, Nat.reduceMul, Nat.reduceLT, or_self, or_false, false_or, or_true, true_or, and_self, and_true, true_and, and_false, false_and, not_true_eq_false, not_false_eq_true, hcn, g1, su]) 0 s (Nat.zero_le _) (fr_refl _ _)
  refine ⟨x, ?_, q1⟩
  have hcn := PC_c (PC_fr (K := [41, 42]) (by decide) q1 hP) hc
  simp (config := {maxSteps := 1000000}) (disch := first | omega | assumption | (simp only [qm_wid_n, qm_wid_I, qm_wid_L, qm_wid_P] <;> omega)) only [e_L_heightOf, b_L_heightOf_0, qy0, qy1, qy2, qy3, qe, qcn, qin, ↓reduceIte, Nat.reduceEqDiff, Nat.reduceLeDiff, Bool.false_eq_true, Nat.reduceAdd, Nat.reduceSub, Nat.reduceMul, Nat.reduceLT, or_self, or_false, false_or, or_true, true_or, and_self, and_true, true_and, and_false, false_and, not_true_eq_false, not_false_eq_true]
  refine e.trans ?_
  simp (config := {maxSteps := 1000000}) (disch := first | omega | assumption | (simp only [qm_wid_n, qm_wid_I, qm_wid_L, qm_wid_P] <;> omega)) only [b_L_heightOf_1, b_L_heightOf_2, qy0, qy1, qy2, qy3, qe, qcn, qin, ↓reduceIte, Nat.reduceEqDiff, Nat.reduceLeDiff, Bool.false_eq_true, Nat.reduceAdd, Nat.reduceSub, Nat.reduceMul, Nat.reduceLT, or_self, or_false, false_or, or_true, true_or, and_self, and_true, true_and, and_false, false_and, not_true_eq_false, not_false_eq_true, hcn, height]
theorem c_lean (d : Nat) {s : qm_Hp} {p w : Nat} {y : VW} {τ : TX} (hP : PC s p w y) (ok : OKP w y) (hL : LC s τ) (okt : OKT τ) : ∃ s', qm_evM (d + 6) jL_leanOf [qP 5 0, qP 3 p] s = some (some (qI (lean τ y w)), s') ∧ fr [41, 42] s s' := by
  have hw := ok.1
  obtain ⟨s1, g1, g2⟩ := c_height d hP ok hL okt (c := w - 1) (by omega)
  obtain ⟨s2, g3, g4⟩ := c_height d (PC_fr (K := [41, 42]) (by decide) g2 hP) ok (LC_fr (K := [41, 42]) (by decide) g2 hL) okt (c := 0) (by omega)
  refine ⟨s2, ?_, fr_trans g2 g4⟩
  have hw1 := hP.1
  simp (config := {maxSteps := 1000000}) (disch := first | omega | assumption | (simp only [qm_wid_n, qm_wid_I, qm_wid_L, qm_wid_P] <;> omega)) only [e_L_leanOf, b_L_leanOf_0, qy0, qy1, qy2, qy3, qe, qcn, qin, ↓reduceIte, Nat.reduceEqDiff, Nat.reduceLeDiff, Bool.false_eq_true, Nat.reduceAdd, Nat.reduceSub, Nat.reduceMul, Nat.reduceLT, or_self, or_false, false_or, or_true, true_or, and_self, and_true, true_and, and_false, false_and, not_true_eq_false, not_false_eq_true, hw1, g1, g3, lean]
