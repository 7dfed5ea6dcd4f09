/-! the call way -/
theorem c_allWays (d : Nat) {x : qm_Hp} {w n i : Nat} {y k : VW} {tp : Nat → Int32} {fd : Nat} {fa pl : Int32} {T : Nat → TX} (ok : OKG w y k tp fd T) (hR : RC x w y k tp fd fa pl T) (hi : y 0 0 = nI i) (h9 : i + n ≤ 399) (hn : n ≤ 40) (p2 p3 p4 : qm_AV) (p5 : Int32) (p7 : qm_AV) : ∃ x', qm_evB (d + 8) jC_way 11 [qP 1 0, qI (nI n), p2, p3, p4, qI p5, qI (nI 0), p7] [] x = qm_evB (d + 8) jC_way 11 [qP 1 0, qI (nI n), p2, p3, p4, qI p5, qI (nI 8), p7] [] x' ∧ RC x' w y k tp fd fa pl T ∧ fp CP x x' ∧ (∀ m, m < 8 → zI x' 54 0 m = wd (rul T y) w y n m ∧ zI x' 55 0 m = ws (rul T y) w y n m) := by
  obtain ⟨x', e, q1, q2, q3⟩ := q_lp 8 (fun m (x : qm_Hp) => qm_evB (d + 8) jC_way 11 [qP 1 0, qI (nI n), p2, p3, p4, qI p5, qI (nI m), p7] [] x) (fun m x' => RC x' w y k tp fd fa pl T ∧ fp CP x x' ∧ (∀ j, j < m → zI x' 54 0 j = wd (rul T y) w y n j ∧ zI x' 55 0 j = ws (rul T y) w y n j)) (fun m x' hm hx => by
    obtain ⟨i1, i2, i3⟩ := hx
    obtain ⟨x2, g1, g2, g3, g4, g5, g6⟩ := c_tryWay d ok i1 hi h9 hn hm
    refine ⟨x2, (b_C_way_11 ..).trans ?_, g2, fp_trans i2 g3, fun j hj => ?_⟩
    · simp (config := {maxSteps := 1000000}) (disch := first | omega | assumption | (simp only [qm_wid_n, qm_wid_I, qm_wid_L, qm_wid_P] <;> omega)) only [qy0, qy1, qy2, qy3, qe, qcn, qin, ↓reduceIte, Nat.reduceEqDiff, Nat.reduceLeDiff, Bool.false_eq_true, Nat.reduceAdd, Nat.reduceSub, Nat.reduceMul, Nat.reduceLT, or_self, or_false, false_or, or_true, true_or, and_self, and_true, true_and, and_false, false_and, not_true_eq_false, not_false_eq_true, g1]
    · by_cases q : j = m
      · subst q; exact ⟨g4, g5⟩
      · rw [(g6 j q).1, (g6 j q).2]; exact i3 j (by omega)) 0 x (Nat.zero_le _) ⟨hR, fp_refl _ _, fun j hj => by omega⟩
  exact ⟨x', e, q1, q2, q3⟩
theorem c_way_a0 (d : Nat) {s x : qm_Hp} {n m : Nat} {v : Int32} (hn1 : 1 ≤ n) (hn2 : n ≤ 40) (hm : m < 8) (hcp : qm_evM (d + 39) jC_canPass [qP 1 0, qI (nI n)] s = some (some (qI (nI 1)), s)) (g1 : qm_evM (d + 39) jC_tryWay [qP 1 0, qI (nI n), qI (nI m)] s = some (none, x)) (g4 : zI x 54 0 m = v) : qm_evM (d + 40) jC_way [qP 1 0, qI (nI n), qI (nI m), qI (nI 0)] s = some (some (qI v), x) := by
  simp (config := {maxSteps := 1000000}) (disch := first | omega | assumption | (simp only [qm_wid_n, qm_wid_I, qm_wid_L, qm_wid_P] <;> omega)) only [e_C_way, b_C_way_0, b_C_way_1, b_C_way_2, b_C_way_3, b_C_way_4, b_C_way_5, b_C_way_7, b_C_way_8, b_C_way_9, qy0, qy1, qy2, qy3, qe, qcn, qin, ↓reduceIte, Nat.reduceEqDiff, Nat.reduceLeDiff, Bool.false_eq_true, Nat.reduceAdd, Nat.reduceSub, Nat.reduceMul, Nat.reduceLT, or_self, or_false, false_or, or_true, true_or, and_self, and_true, true_and, and_false, false_and, not_true_eq_false, not_false_eq_true, t_within, hcp, g1, g4]
theorem c_way_a1 (d : Nat) {s x : qm_Hp} {n m : Nat} {v : Int32} (hn1 : 1 ≤ n) (hn2 : n ≤ 40) (hm : m < 8) (hcp : qm_evM (d + 39) jC_canPass [qP 1 0, qI (nI n)] s = some (some (qI (nI 1)), s)) (g1 : qm_evM (d + 39) jC_tryWay [qP 1 0, qI (nI n), qI (nI m)] s = some (none, x)) (g5 : zI x 55 0 m = v) : qm_evM (d + 40) jC_way [qP 1 0, qI (nI n), qI (nI m), qI (nI 1)] s = some (some (qI v), x) := by
  simp (config := {maxSteps := 1000000}) (disch := first | omega | assumption | (simp only [qm_wid_n, qm_wid_I, qm_wid_L, qm_wid_P] <;> omega)) only [e_C_way, b_C_way_0, b_C_way_1, b_C_way_2, b_C_way_3, b_C_way_4, b_C_way_5, b_C_way_7, b_C_way_8, b_C_way_9, qy0, qy1, qy2, qy3, qe, qcn, qin, ↓reduceIte, Nat.reduceEqDiff, Nat.reduceLeDiff, Bool.false_eq_true, Nat.reduceAdd, Nat.reduceSub, Nat.reduceMul, Nat.reduceLT, or_self, or_false, false_or, or_true, true_or, and_self, and_true, true_and, and_false, false_and, not_true_eq_false, not_false_eq_true, t_within, hcp, g1, g5]
theorem c_way_st (d : Nat) {s : qm_Hp} {n q : Nat} (hn1 : 1 ≤ n) (hn2 : n ≤ 40) (hq : q ≤ 2) (hcp : qm_evM (d + 39) jC_canPass [qP 1 0, qI (nI n)] s = some (some (qI (nI 1)), s)) : qm_evM (d + 40) jC_way [qP 1 0, qI (nI n), qI N1, qI (nI q)] s = qm_evB (d + 40) jC_way 11 [qP 1 0, qI (nI n), qI N1, qI (nI q), qI (nI 0), qI (nI 1), qI (nI 0), qU] [] s := by
  have hbn : (nI 0 ≤ N1) = False := eq_false (by decide)
  simp (config := {maxSteps := 1000000}) (disch := first | omega | assumption | (simp only [qm_wid_n, qm_wid_I, qm_wid_L, qm_wid_P] <;> omega)) only [e_C_way, b_C_way_0, b_C_way_1, b_C_way_2, b_C_way_3, b_C_way_4, b_C_way_5, b_C_way_7, b_C_way_10, qy0, qy1, qy2, qy3, qe, qcn, qin, ↓reduceIte, Nat.reduceEqDiff, Nat.reduceLeDiff, Bool.false_eq_true, Nat.reduceAdd, Nat.reduceSub, Nat.reduceMul, Nat.reduceLT, or_self, or_false, false_or, or_true, true_or, and_self, and_true, true_and, and_false, false_and, not_true_eq_false, not_false_eq_true, t_within, hcp, hbn]
theorem c_way_b (d : Nat) {x : qm_Hp} {n u v : Nat} (hu : u < 8) (hv : v < 8) (gd : qm_evM (d + 39) jC_bestOf [qP 54 0] x = some (some (qI (nI u)), x)) (gs : qm_evM (d + 39) jC_bestOf [qP 55 0] x = some (some (qI (nI v)), x)) (q : Nat) (hq : q = 0 ∨ q = 1) : qm_evB (d + 40) jC_way 11 [qP 1 0, qI (nI n), qI N1, qI (nI q), qI (nI 0), qI (nI 1), qI (nI 8), qU] [] x = some (some (qI (if q = 0 then nI u else nI v)), x) := by
  rcases hq with rfl | rfl
  · simp (config := {maxSteps := 1000000}) (disch := first | omega | assumption | (simp only [qm_wid_n, qm_wid_I, qm_wid_L, qm_wid_P] <;> omega)) only [b_C_way_11, b_C_way_12, b_C_way_13, b_C_way_14, b_C_way_15, qy0, qy1, qy2, qy3, qe, qcn, qin, ↓reduceIte, Nat.reduceEqDiff, Nat.reduceLeDiff, Bool.false_eq_true, Nat.reduceAdd, Nat.reduceSub, Nat.reduceMul, Nat.reduceLT, or_self, or_false, false_or, or_true, true_or, and_self, and_true, true_and, and_false, false_and, not_true_eq_false, not_false_eq_true, gd, gs]
  · simp (config := {maxSteps := 1000000}) (disch := first | omega | assumption | (simp only [qm_wid_n, qm_wid_I, qm_wid_L, qm_wid_P] <;> omega)) only [b_C_way_11, b_C_way_12, b_C_way_13, b_C_way_14, b_C_way_15, qy0, qy1, qy2, qy3, qe, qcn, qin, ↓reduceIte, Nat.reduceEqDiff, Nat.reduceLeDiff, Bool.false_eq_true, Nat.reduceAdd, Nat.reduceSub, Nat.reduceMul, Nat.reduceLT, or_self, or_false, false_or, or_true, true_or, and_self, and_true, true_and, and_false, false_and, not_true_eq_false, not_false_eq_true, gd, gs]
theorem c_way_b2 (d : Nat) {x : qm_Hp} {n u v : Nat} {a b r : Int32} (hu : u < 8) (hv : v < 8) (gd : qm_evM (d + 39) jC_bestOf [qP 54 0] x = some (some (qI (nI u)), x)) (gs : qm_evM (d + 39) jC_bestOf [qP 55 0] x = some (some (qI (nI v)), x)) (ha : zI x 54 0 u = a) (hb : zI x 55 0 v = b) (gb : qm_evM (d + 39) jC_bestInBoth [qP 1 0, qI a, qI b] x = some (some (qI r), x)) : qm_evB (d + 40) jC_way 11 [qP 1 0, qI (nI n), qI N1, qI (nI 2), qI (nI 0), qI (nI 1), qI (nI 8), qU] [] x = some (some (qI r), x) := by
  simp (config := {maxSteps := 1000000}) (disch := first | omega | assumption | (simp only [qm_wid_n, qm_wid_I, qm_wid_L, qm_wid_P] <;> omega)) only [b_C_way_11, b_C_way_12, qy0, qy1, qy2, qy3, qe, qcn, qin, ↓reduceIte, Nat.reduceEqDiff, Nat.reduceLeDiff, Bool.false_eq_true, Nat.reduceAdd, Nat.reduceSub, Nat.reduceMul, Nat.reduceLT, or_self, or_false, false_or, or_true, true_or, and_self, and_true, true_and, and_false, false_and, not_true_eq_false, not_false_eq_true, gd, gs, ha, hb, gb]
theorem c_way_n3 (d : Nat) (s : qm_Hp) (a b c : Int32) (h : ((nI 0 ≤ b ∧ b ≤ nI 7) ∧ ¬ (nI 0 ≤ c ∧ c ≤ nI 1)) ∨ (b = N1 ∧ ¬ (nI 0 ≤ c ∧ c ≤ nI 2)) ∨ (¬ (nI 0 ≤ b ∧ b ≤ nI 7) ∧ ¬ b = N1)) : qm_evM (d + 40) jC_way [qP 1 0, qI a, qI b, qI c] s = some (some (qI N1), s) := by
  have hbn : (nI 0 ≤ N1) = False := eq_false (by decide)
  rcases h with ⟨hb, hc⟩ | ⟨hb, hc⟩ | ⟨hb, hN⟩
  · have hN : ¬ b = N1 := fun z => absurd (z ▸ hb.1) (by decide)
    simp (config := {maxSteps := 1000000}) (disch := first | omega | assumption | (simp only [qm_wid_n, qm_wid_I, qm_wid_L, qm_wid_P] <;> omega)) only [e_C_way, b_C_way_0, b_C_way_1, b_C_way_2, b_C_way_3, b_C_way_4, b_C_way_6, qy0, qy1, qy2, qy3, qe, qcn, qin, ↓reduceIte, Nat.reduceEqDiff, Nat.reduceLeDiff, Bool.false_eq_true, Nat.reduceAdd, Nat.reduceSub, Nat.reduceMul, Nat.reduceLT, or_self, or_false, false_or, or_true, true_or, and_self, and_true, true_and, and_false, false_and, not_true_eq_false, not_false_eq_true, t_within, hb, hc, hN]
  · subst hb
    simp (config := {maxSteps := 1000000}) (disch := first | omega | assumption | (simp only [qm_wid_n, qm_wid_I, qm_wid_L, qm_wid_P] <;> omega)) only [e_C_way, b_C_way_0, b_C_way_1, b_C_way_2, b_C_way_3, b_C_way_4, b_C_way_6, qy0, qy1, qy2, qy3, qe, qcn, qin, ↓reduceIte, Nat.reduceEqDiff, Nat.reduceLeDiff, Bool.false_eq_true, Nat.reduceAdd, Nat.reduceSub, Nat.reduceMul, Nat.reduceLT, or_self, or_false, false_or, or_true, true_or, and_self, and_true, true_and, and_false, false_and, not_true_eq_false, not_false_eq_true, t_within, hc, hbn]
  · simp (config := {maxSteps := 1000000}) (disch := first | omega | assumption | (simp only [qm_wid_n, qm_wid_I, qm_wid_L, qm_wid_P] <;> omega)) only [e_C_way, b_C_way_0, b_C_way_1, b_C_way_2, b_C_way_3, b_C_way_4, b_C_way_6, qy0, qy1, qy2, qy3, qe, qcn, qin, ↓reduceIte, Nat.reduceEqDiff, Nat.reduceLeDiff, Bool.false_eq_true, Nat.reduceAdd, Nat.reduceSub, Nat.reduceMul, Nat.reduceLT, or_self, or_false, false_or, or_true, true_or, and_self, and_true, true_and, and_false, false_and, not_true_eq_false, not_false_eq_true, t_within, hb, hN]
theorem c_way_n (d : Nat) (s : qm_Hp) (a b c : Int32) (h : ¬ (nI 1 ≤ a ∧ a ≤ nI 40) ∨ qm_evM (d + 39) jC_canPass [qP 1 0, qI a] s = some (some (qI (nI 0)), s)) : qm_evM (d + 40) jC_way [qP 1 0, qI a, qI b, qI c] s = some (some (qI N1), s) := by
  have hbn : (nI 0 ≤ N1) = False := eq_false (by decide)
  by_cases h1 : ((nI 0 ≤ b ∧ b ≤ nI 7) ∧ ¬ (nI 0 ≤ c ∧ c ≤ nI 1)) ∨ (b = N1 ∧ ¬ (nI 0 ≤ c ∧ c ≤ nI 2)) ∨ (¬ (nI 0 ≤ b ∧ b ≤ nI 7) ∧ ¬ b = N1)
  · exact c_way_n3 d s a b c h1
  · by_cases hb : nI 0 ≤ b ∧ b ≤ nI 7
    · have hc : nI 0 ≤ c ∧ c ≤ nI 1 := Classical.byContradiction fun g => h1 (Or.inl ⟨hb, g⟩)
      have hN : ¬ b = N1 := fun z => absurd (z ▸ hb.1) (by decide)
      by_cases hn : nI 1 ≤ a ∧ a ≤ nI 40
      · have hp := h.resolve_left (fun g => g hn)
        simp (config := {maxSteps := 1000000}) (disch := first | omega | assumption | (simp only [qm_wid_n, qm_wid_I, qm_wid_L, qm_wid_P] <;> omega)) only [e_C_way, b_C_way_0, b_C_way_1, b_C_way_2, b_C_way_3, b_C_way_4, b_C_way_5, b_C_way_6, qy0, qy1, qy2, qy3, qe, qcn, qin, ↓reduceIte, Nat.reduceEqDiff, Nat.reduceLeDiff, Bool.false_eq_true, Nat.reduceAdd, Nat.reduceSub, Nat.reduceMul, Nat.reduceLT, or_self, or_false, false_or, or_true, true_or, and_self, and_true, true_and, and_false, false_and, not_true_eq_false, not_false_eq_true, t_within, hb, hc, hN, hn, hp]
      · simp (config := {maxSteps := 1000000}) (disch := first | omega | assumption | (simp only [qm_wid_n, qm_wid_I, qm_wid_L, qm_wid_P] <;> omega)) only [e_C_way, b_C_way_0, b_C_way_1, b_C_way_2, b_C_way_3, b_C_way_4, b_C_way_5, b_C_way_6, qy0, qy1, qy2, qy3, qe, qcn, qin, ↓reduceIte, Nat.reduceEqDiff, Nat.reduceLeDiff, Bool.false_eq_true, Nat.reduceAdd, Nat.reduceSub, Nat.reduceMul, Nat.reduceLT, or_self, or_false, false_or, or_true, true_or, and_self, and_true, true_and, and_false, false_and, not_true_eq_false, not_false_eq_true, t_within, hb, hc, hN, hn]
    · have hN : b = N1 := Classical.byContradiction fun g => h1 (Or.inr (Or.inr ⟨hb, g⟩))
      have hc : nI 0 ≤ c ∧ c ≤ nI 2 := Classical.byContradiction fun g => h1 (Or.inr (Or.inl ⟨hN, g⟩))
      subst hN
      by_cases hn : nI 1 ≤ a ∧ a ≤ nI 40
      · have hp := h.resolve_left (fun g => g hn)
        simp (config := {maxSteps := 1000000}) (disch := first | omega | assumption | (simp only [qm_wid_n, qm_wid_I, qm_wid_L, qm_wid_P] <;> omega)) only [e_C_way, b_C_way_0, b_C_way_1, b_C_way_2, b_C_way_3, b_C_way_4, b_C_way_5, b_C_way_6, qy0, qy1, qy2, qy3, qe, qcn, qin, ↓reduceIte, Nat.reduceEqDiff, Nat.reduceLeDiff, Bool.false_eq_true, Nat.reduceAdd, Nat.reduceSub, Nat.reduceMul, Nat.reduceLT, or_self, or_false, false_or, or_true, true_or, and_self, and_true, true_and, and_false, false_and, not_true_eq_false, not_false_eq_true, t_within, hbn, hc, hn, hp]
      · simp (config := {maxSteps := 1000000}) (disch := first | omega | assumption | (simp only [qm_wid_n, qm_wid_I, qm_wid_L, qm_wid_P] <;> omega)) only [e_C_way, b_C_way_0, b_C_way_1, b_C_way_2, b_C_way_3, b_C_way_4, b_C_way_5, b_C_way_6, qy0, qy1, qy2, qy3, qe, qcn, qin, ↓reduceIte, Nat.reduceEqDiff, Nat.reduceLeDiff, Bool.false_eq_true, Nat.reduceAdd, Nat.reduceSub, Nat.reduceMul, Nat.reduceLT, or_self, or_false, false_or, or_true, true_or, and_self, and_true, true_and, and_false, false_and, not_true_eq_false, not_false_eq_true, t_within, hbn, hc, hn]
theorem r_way_a0 (d : Nat) {s x : qm_Hp} {n m : Nat} {v : Int32} (hn1 : 1 ≤ n) (hn2 : n ≤ 40) (hm : m < 8) (hcp : qm_evM (d + 39) jM_isTried [qP 9 0, qI (nI n), qI (nI 40)] s = some (some (qI (nI 1)), s)) (g1 : qm_evM (d + 39) jM_tryWays [qP 9 0, qI (nI n)] s = some (none, x)) (g4 : zI x 72 0 m = v) : qm_evM (d + 40) jM_way [qP 9 0, qI (nI n), qI (nI m), qI (nI 0)] s = some (some (qI v), x) := by
  simp (config := {maxSteps := 1000000}) (disch := first | omega | assumption | (simp only [qm_wid_n, qm_wid_I, qm_wid_L, qm_wid_P] <;> omega)) only [e_M_way, b_M_way_0, b_M_way_1, b_M_way_2, b_M_way_4, b_M_way_5, b_M_way_6, qy0, qy1, qy2, qy3, qe, qcn, qin, ↓reduceIte, Nat.reduceEqDiff, Nat.reduceLeDiff, Bool.false_eq_true, Nat.reduceAdd, Nat.reduceSub, Nat.reduceMul, Nat.reduceLT, or_self, or_false, false_or, or_true, true_or, and_self, and_true, true_and, and_false, false_and, not_true_eq_false, not_false_eq_true, t_isIn, hcp, g1, g4]
theorem r_way_a1 (d : Nat) {s x : qm_Hp} {n m : Nat} {v : Int32} (hn1 : 1 ≤ n) (hn2 : n ≤ 40) (hm : m < 8) (hcp : qm_evM (d + 39) jM_isTried [qP 9 0, qI (nI n), qI (nI 40)] s = some (some (qI (nI 1)), s)) (g1 : qm_evM (d + 39) jM_tryWays [qP 9 0, qI (nI n)] s = some (none, x)) (g4 : zI x 73 0 m = v) : qm_evM (d + 40) jM_way [qP 9 0, qI (nI n), qI (nI m), qI (nI 1)] s = some (some (qI v), x) := by
  simp (config := {maxSteps := 1000000}) (disch := first | omega | assumption | (simp only [qm_wid_n, qm_wid_I, qm_wid_L, qm_wid_P] <;> omega)) only [e_M_way, b_M_way_0, b_M_way_1, b_M_way_2, b_M_way_4, b_M_way_5, b_M_way_6, qy0, qy1, qy2, qy3, qe, qcn, qin, ↓reduceIte, Nat.reduceEqDiff, Nat.reduceLeDiff, Bool.false_eq_true, Nat.reduceAdd, Nat.reduceSub, Nat.reduceMul, Nat.reduceLT, or_self, or_false, false_or, or_true, true_or, and_self, and_true, true_and, and_false, false_and, not_true_eq_false, not_false_eq_true, t_isIn, hcp, g1, g4]
theorem r_way_b (d : Nat) {s x : qm_Hp} {n u v : Nat} (hn1 : 1 ≤ n) (hn2 : n ≤ 40) (hcp : qm_evM (d + 39) jM_isTried [qP 9 0, qI (nI n), qI (nI 40)] s = some (some (qI (nI 1)), s)) (g1 : qm_evM (d + 39) jM_tryWays [qP 9 0, qI (nI n)] s = some (none, x)) (gd : qm_evM (d + 39) jM_bestOf [qP 72 0] x = some (some (qI (nI u)), x)) (gs : qm_evM (d + 39) jM_bestOf [qP 73 0] x = some (some (qI (nI v)), x)) (q : Nat) (hq : q = 0 ∨ q = 1) : qm_evM (d + 40) jM_way [qP 9 0, qI (nI n), qI N1, qI (nI q)] s = some (some (qI (if q = 0 then nI u else nI v)), x) := by
  have hbn : (nI 0 ≤ N1) = False := eq_false (by decide)
  have hlt : (N1 < nI 0) = True := eq_true (by decide)
  rcases hq with rfl | rfl
  · simp (config := {maxSteps := 1000000}) (disch := first | omega | assumption | (simp only [qm_wid_n, qm_wid_I, qm_wid_L, qm_wid_P] <;> omega)) only [e_M_way, b_M_way_0, b_M_way_1, b_M_way_2, b_M_way_4, b_M_way_7, b_M_way_8, b_M_way_9, qy0, qy1, qy2, qy3, qe, qcn, qin, ↓reduceIte, Nat.reduceEqDiff, Nat.reduceLeDiff, Bool.false_eq_true, Nat.reduceAdd, Nat.reduceSub, Nat.reduceMul, Nat.reduceLT, or_self, or_false, false_or, or_true, true_or, and_self, and_true, true_and, and_false, false_and, not_true_eq_false, not_false_eq_true, t_isIn, hcp, g1, gd, gs, hbn, hlt]
  · simp (config := {maxSteps := 1000000}) (disch := first | omega | assumption | (simp only [qm_wid_n, qm_wid_I, qm_wid_L, qm_wid_P] <;> omega)) only [e_M_way, b_M_way_0, b_M_way_1, b_M_way_2, b_M_way_4, b_M_way_7, b_M_way_8, b_M_way_9, qy0, qy1, qy2, qy3, qe, qcn, qin, ↓reduceIte, Nat.reduceEqDiff, Nat.reduceLeDiff, Bool.false_eq_true, Nat.reduceAdd, Nat.reduceSub, Nat.reduceMul, Nat.reduceLT, or_self, or_false, false_or, or_true, true_or, and_self, and_true, true_and, and_false, false_and, not_true_eq_false, not_false_eq_true, t_isIn, hcp, g1, gd, gs, hbn, hlt]
theorem r_way_b2 (d : Nat) {s x : qm_Hp} {n u v : Nat} {r : Option (Option qm_AV × qm_Hp)} (hn1 : 1 ≤ n) (hn2 : n ≤ 40) (hcp : qm_evM (d + 39) jM_isTried [qP 9 0, qI (nI n), qI (nI 40)] s = some (some (qI (nI 1)), s)) (g1 : qm_evM (d + 39) jM_tryWays [qP 9 0, qI (nI n)] s = some (none, x)) (gd : qm_evM (d + 39) jM_bestOf [qP 72 0] x = some (some (qI (nI u)), x)) (gs : qm_evM (d + 39) jM_bestOf [qP 73 0] x = some (some (qI (nI v)), x)) (gb : qm_evB (d + 40) jM_way 11 [qP 9 0, qI (nI n), qI N1, qI (nI 2), qI (nI u), qI (nI v), qI (nI 0)] [] x = r) : qm_evM (d + 40) jM_way [qP 9 0, qI (nI n), qI N1, qI (nI 2)] s = r := by
  have hbn : (nI 0 ≤ N1) = False := eq_false (by decide)
  have hlt : (N1 < nI 0) = True := eq_true (by decide)
  rw [← gb]
  simp (config := {maxSteps := 1000000}) (disch := first | omega | assumption | (simp only [qm_wid_n, qm_wid_I, qm_wid_L, qm_wid_P] <;> omega)) only [e_M_way, b_M_way_0, b_M_way_1, b_M_way_2, b_M_way_4, b_M_way_7, b_M_way_10, qy0, qy1, qy2, qy3, qe, qcn, qin, ↓reduceIte, Nat.reduceEqDiff, Nat.reduceLeDiff, Bool.false_eq_true, Nat.reduceAdd, Nat.reduceSub, Nat.reduceMul, Nat.reduceLT, or_self, or_false, false_or, or_true, true_or, and_self, and_true, true_and, and_false, false_and, not_true_eq_false, not_false_eq_true, t_isIn, hcp, g1, gd, gs, hbn, hlt]
theorem r_way_n (d : Nat) (s : qm_Hp) (a b c : Int32) (h : ¬ (nI 1 ≤ a ∧ a ≤ nI 40) ∨ qm_evM (d + 39) jM_isTried [qP 9 0, qI a, qI (nI 40)] s = some (some (qI (nI 0)), s)) : qm_evM (d + 40) jM_way [qP 9 0, qI a, qI b, qI c] s = some (some (qI N1), s) := by
  by_cases hn : nI 1 ≤ a ∧ a ≤ nI 40
  · have hp := h.resolve_left (fun g => g hn)
    simp (config := {maxSteps := 1000000}) (disch := first | omega | assumption | (simp only [qm_wid_n, qm_wid_I, qm_wid_L, qm_wid_P] <;> omega)) only [e_M_way, b_M_way_0, b_M_way_3, qy0, qy1, qy2, qy3, qe, qcn, qin, ↓reduceIte, Nat.reduceEqDiff, Nat.reduceLeDiff, Bool.false_eq_true, Nat.reduceAdd, Nat.reduceSub, Nat.reduceMul, Nat.reduceLT, or_self, or_false, false_or, or_true, true_or, and_self, and_true, true_and, and_false, false_and, not_true_eq_false, not_false_eq_true, t_isIn, hn, hp]
  · simp (config := {maxSteps := 1000000}) (disch := first | omega | assumption | (simp only [qm_wid_n, qm_wid_I, qm_wid_L, qm_wid_P] <;> omega)) only [e_M_way, b_M_way_0, b_M_way_3, qy0, qy1, qy2, qy3, qe, qcn, qin, ↓reduceIte, Nat.reduceEqDiff, Nat.reduceLeDiff, Bool.false_eq_true, Nat.reduceAdd, Nat.reduceSub, Nat.reduceMul, Nat.reduceLT, or_self, or_false, false_or, or_true, true_or, and_self, and_true, true_and, and_false, false_and, not_true_eq_false, not_false_eq_true, t_isIn, hn]
theorem r_way_n3 (d : Nat) (s : qm_Hp) (n : Nat) (b c : Int32) (hn1 : 1 ≤ n) (hn2 : n ≤ 40) (hcp : qm_evM (d + 39) jM_isTried [qP 9 0, qI (nI n), qI (nI 40)] s = some (some (qI (nI 1)), s)) (h : ((nI 0 ≤ b ∧ b ≤ nI 7) ∧ ¬ (nI 0 ≤ c ∧ c ≤ nI 1)) ∨ (b = N1 ∧ ¬ (nI 0 ≤ c ∧ c ≤ nI 2)) ∨ (¬ (nI 0 ≤ b ∧ b ≤ nI 7) ∧ ¬ b = N1)) : qm_evM (d + 40) jM_way [qP 9 0, qI (nI n), qI b, qI c] s = some (some (qI N1), s) := by
  have hbn : (nI 0 ≤ N1) = False := eq_false (by decide)
  rcases h with ⟨hb, hc⟩ | ⟨hb, hc⟩ | ⟨hb, hN⟩
  · obtain ⟨m, _, hm, rfl⟩ := inr_rg (by decide) hb.1 hb.2 (by decide)
    simp (config := {maxSteps := 1000000}) (disch := first | omega | assumption | (simp only [qm_wid_n, qm_wid_I, qm_wid_L, qm_wid_P] <;> omega)) only [e_M_way, b_M_way_0, b_M_way_1, b_M_way_2, b_M_way_3, qy0, qy1, qy2, qy3, qe, qcn, qin, ↓reduceIte, Nat.reduceEqDiff, Nat.reduceLeDiff, Bool.false_eq_true, Nat.reduceAdd, Nat.reduceSub, Nat.reduceMul, Nat.reduceLT, or_self, or_false, false_or, or_true, true_or, and_self, and_true, true_and, and_false, false_and, not_true_eq_false, not_false_eq_true, t_isIn, hcp, hc]
  · subst hb
    simp (config := {maxSteps := 1000000}) (disch := first | omega | assumption | (simp only [qm_wid_n, qm_wid_I, qm_wid_L, qm_wid_P] <;> omega)) only [e_M_way, b_M_way_0, b_M_way_1, b_M_way_2, b_M_way_3, qy0, qy1, qy2, qy3, qe, qcn, qin, ↓reduceIte, Nat.reduceEqDiff, Nat.reduceLeDiff, Bool.false_eq_true, Nat.reduceAdd, Nat.reduceSub, Nat.reduceMul, Nat.reduceLT, or_self, or_false, false_or, or_true, true_or, and_self, and_true, true_and, and_false, false_and, not_true_eq_false, not_false_eq_true, t_isIn, hcp, hc, hbn]
  · have hb2 : ¬ (N1 ≤ b ∧ b ≤ nI 7) := fun g => hb ⟨by
      have g1 := g.1
      rw [fa_le, N1_i] at g1
      have hne : b.toInt ≠ -1 := fun z => hN (by rw [fa_eq, z, N1_i])
      rw [fa_le, nI_toInt (by decide)]
      omega, g.2⟩
    simp (config := {maxSteps := 1000000}) (disch := first | omega | assumption | (simp only [qm_wid_n, qm_wid_I, qm_wid_L, qm_wid_P] <;> omega)) only [e_M_way, b_M_way_0, b_M_way_3, qy0, qy1, qy2, qy3, qe, qcn, qin, ↓reduceIte, Nat.reduceEqDiff, Nat.reduceLeDiff, Bool.false_eq_true, Nat.reduceAdd, Nat.reduceSub, Nat.reduceMul, Nat.reduceLT, or_self, or_false, false_or, or_true, true_or, and_self, and_true, true_and, and_false, false_and, not_true_eq_false, not_false_eq_true, t_isIn, hcp, hb2]
theorem st_way (d : Nat) (a b c : Int32) : STP (d + 40) jC_way jM_way [qI a, qI b, qI c] := by
  refine stp_rw fun s w y k tp fd fa pl T hC hM ok => ?_
  have okp := ok.1.1
  obtain ⟨nw, _, hnw, enw⟩ := ok.1.2.1
  obtain ⟨wk, _, hwk, ewk⟩ := okp.2.1.1
  have h5 : zI s 2 0 5 = nI nw := hC.1.2.1.1.trans enw
  have h8 : zI s 3 0 8 = nI wk := hC.1.1.2.1.1.trans ewk
  have m1 : ∀ s1, RM s1 w y k tp fd fa pl T → zI s1 61 0 1 = nI nw := fun s1 g => g.2.1.2.1.1.trans enw
  have m0 : ∀ s1, RM s1 w y k tp fd fa pl T → zI s1 61 0 0 = nI wk := fun s1 g => g.2.1.1.2.1.1.trans ewk
  by_cases hn : nI 1 ≤ a ∧ a ≤ nI 40
  · obtain ⟨n, hn1, hn2, rfl⟩ := inr_rg (by decide) hn.1 hn.2 (by decide)
    have hcp := t_canPass (d + 39) h5 h8 hnw hwk n hn2
    by_cases hp : 0 < nw ∧ wk + n ≤ 399
    · rw [if_pos hp] at hcp
      have mt : ∀ s1, RM s1 w y k tp fd fa pl T → _ := fun s1 g => r_isTried_y (d + 38) (s := s1) (M := 40) (m1 s1 g) (m0 s1 g) hnw (by decide) hn2 (Or.inr hp.1) hp.2
      have mw : ∀ s1, RM s1 w y k tp fd fa pl T → _ := fun s1 g => r_tryWays (d + 30) (s := s1) ok g ewk hp.2 hn2
      by_cases h1 : ((nI 0 ≤ b ∧ b ≤ nI 7) ∧ ¬ (nI 0 ≤ c ∧ c ≤ nI 1)) ∨ (b = N1 ∧ ¬ (nI 0 ≤ c ∧ c ≤ nI 2)) ∨ (¬ (nI 0 ≤ b ∧ b ≤ nI 7) ∧ ¬ b = N1)
      · exact nochg ok hC N1 (c_way_n3 d s _ b c h1) (fun s1 g1 => r_way_n3 d s1 n b c hn1 hn2 (mt s1 g1) h1)
      · by_cases hb : nI 0 ≤ b ∧ b ≤ nI 7
        · have hc : nI 0 ≤ c ∧ c ≤ nI 1 := Classical.byContradiction fun g => h1 (Or.inl ⟨hb, g⟩)
          obtain ⟨m, _, hm, rfl⟩ := inr_rg (by decide) hb.1 hb.2 (by decide)
          obtain ⟨q, _, hq, rfl⟩ := inr_rg (by decide) hc.1 hc.2 (by decide)
          obtain ⟨x, g1, g2, g3, g4, g5, _⟩ := c_tryWay (d + 32) ok hC ewk hp.2 hn2 (m := m) (by omega)
          have hq' : q = 0 ∨ q = 1 := by omega
          rcases hq' with rfl | rfl
          · refine ⟨wd (rul T y) w y n m, y, k, tp, fd, fa, pl, T, ok, ⟨x, c_way_a0 d hn1 hn2 (by omega) hcp g1 g4, g3, g2⟩, fun s1 h1 => ?_⟩
            obtain ⟨x', e1, e2, e3, e4⟩ := mw s1 h1
            exact ⟨x', r_way_a0 d hn1 hn2 (by omega) (mt s1 h1) e1 (e4 m (by omega)).1, e3, e2⟩
          · refine ⟨ws (rul T y) w y n m, y, k, tp, fd, fa, pl, T, ok, ⟨x, c_way_a1 d hn1 hn2 (by omega) hcp g1 g5, g3, g2⟩, fun s1 h1 => ?_⟩
            obtain ⟨x', e1, e2, e3, e4⟩ := mw s1 h1
            exact ⟨x', r_way_a1 d hn1 hn2 (by omega) (mt s1 h1) e1 (e4 m (by omega)).2, e3, e2⟩
        · have hN : b = N1 := Classical.byContradiction fun g => h1 (Or.inr (Or.inr ⟨hb, g⟩))
          have hc : nI 0 ≤ c ∧ c ≤ nI 2 := Classical.byContradiction fun g => h1 (Or.inr (Or.inl ⟨hN, g⟩))
          subst hN
          obtain ⟨q, _, hq, rfl⟩ := inr_rg (by decide) hc.1 hc.2 (by decide)
          obtain ⟨x, g1, g2, g3, g4⟩ := c_allWays (d + 32) ok hC ewk hp.2 hn2 (qI N1) (qI (nI q)) (qI (nI 0)) (nI 1) qU
          have gd := c_bestOf (d + 39) x 54 (Or.inl rfl) (wd (rul T y) w y n) (fun j hj => (g4 j hj).1)
          have gs := c_bestOf (d + 39) x 55 (Or.inr rfl) (ws (rul T y) w y n) (fun j hj => (g4 j hj).2)
          have l1 := bo_le (wd (rul T y) w y n) 8 (by decide)
          have l2 := bo_le (ws (rul T y) w y n) 8 (by decide)
          have start := (c_way_st d hn1 hn2 hq hcp).trans g1
          by_cases hq2 : q = 2
          · subst hq2
            have gb := c_both (d + 39) x (wd (rul T y) w y n) (ws (rul T y) w y n) (wd (rul T y) w y n (bo (wd (rul T y) w y n) 8)) (ws (rul T y) w y n (bo (ws (rul T y) w y n) 8)) g4
            refine ⟨fb8 (wd (rul T y) w y n) (ws (rul T y) w y n) (wd (rul T y) w y n (bo (wd (rul T y) w y n) 8)) (ws (rul T y) w y n (bo (ws (rul T y) w y n) 8)) 8 0, y, k, tp, fd, fa, pl, T, ok, ⟨x, start.trans (c_way_b2 d l1 l2 gd gs (g4 _ l1).1 (g4 _ l2).2 gb), g3, g2⟩, fun s1 h1 => ?_⟩
            obtain ⟨x', e1, e2, e3, e4⟩ := mw s1 h1
            have md := r_bestOf (d + 39) x' 72 (Or.inl rfl) (wd (rul T y) w y n) (fun j hj => (e4 j hj).1)
            have ms := r_bestOf (d + 39) x' 73 (Or.inr rfl) (ws (rul T y) w y n) (fun j hj => (e4 j hj).2)
            have mb := r_both (d + 40) x' (wd (rul T y) w y n) (ws (rul T y) w y n) (qI (nI n)) (qI N1) (qI (nI 2)) qU _ _ l1 l2 e4
            exact ⟨x', r_way_b2 d hn1 hn2 (mt s1 h1) e1 md ms mb, e3, e2⟩
          · have hq' : q = 0 ∨ q = 1 := by omega
            refine ⟨if q = 0 then nI (bo (wd (rul T y) w y n) 8) else nI (bo (ws (rul T y) w y n) 8), y, k, tp, fd, fa, pl, T, ok, ⟨x, start.trans (c_way_b d l1 l2 gd gs q hq'), g3, g2⟩, fun s1 h1 => ?_⟩
            obtain ⟨x', e1, e2, e3, e4⟩ := mw s1 h1
            have md := r_bestOf (d + 39) x' 72 (Or.inl rfl) (wd (rul T y) w y n) (fun j hj => (e4 j hj).1)
            have ms := r_bestOf (d + 39) x' 73 (Or.inr rfl) (ws (rul T y) w y n) (fun j hj => (e4 j hj).2)
            exact ⟨x', r_way_b d hn1 hn2 (mt s1 h1) e1 md ms q hq', e3, e2⟩
    · rw [if_neg hp] at hcp
      have mt : ∀ s1, RM s1 w y k tp fd fa pl T → _ := fun s1 g => r_isTried_n (d + 38) (s := s1) (x := nI n) (M := 40) (m1 s1 g) (m0 s1 g) hnw hwk (by decide) (fun ⟨m', z1, z2, z3, z4⟩ => by
        have e : n = m' := (nI_eq (by omega) (by omega)).mp z1
        exact hp ⟨by omega, by omega⟩)
      exact nochg ok hC N1 (c_way_n d s _ b c (Or.inr hcp)) (fun s1 h1 => r_way_n d s1 _ b c (Or.inr (mt s1 h1)))
  · exact nochg ok hC N1 (c_way_n d s a b c (Or.inl hn)) (fun s1 h1 => r_way_n d s1 a b c (Or.inl hn))
