/-! calls: spans, sure -/
def mnI (a b : Int32) : Int32 := if a < b then a else b
def mxI (a b : Int32) : Int32 := if b < a then a else b
theorem mn_c (a b : Int32) : (if b < a then b else a) = mnI a b := by
  unfold mnI
  rcases fa_three a b with h | h | h
  · rw [if_pos h, if_neg (fa_of_lt h).2.2.1]
  · subst h; rfl
  · rw [if_pos h, if_neg (fa_of_lt h).2.2.1]
theorem mx_c (a b : Int32) : (if a < b then b else a) = mxI a b := by
  unfold mxI
  rcases fa_three a b with h | h | h
  · rw [if_pos h, if_neg (fa_of_lt h).2.2.1]
  · subst h; rfl
  · rw [if_pos h, if_neg (fa_of_lt h).2.2.1]
theorem c_lesser (d : Nat) {x : qm_Hp} {j : Nat} {a b : Int32} (hj : j < 48) (h2 : zI x 13 2 j = a) (h3 : zI x 13 3 j = b) : qm_evM d jC_lesser [qP 1 0, qI (nI j)] x = some (some (qI (mnI a b)), x) := by
  simp (config := {maxSteps := 1000000}) (disch := first | omega | assumption | (simp only [qm_wid_n, qm_wid_I, qm_wid_L, qm_wid_P]; omega) | (simp only [qm_wid_n, qm_wid_I, qm_wid_L, qm_wid_P]; done) | fail) only [e_C_lesser, b_C_lesser_0, qy0, qy1, qy2, qy3, qe, qcn, qin, ↓reduceIte, Nat.reduceEqDiff, Nat.reduceLeDiff, Bool.false_eq_true, Nat.reduceAdd, Nat.reduceSub, Nat.reduceMul, Nat.reduceLT, or_self, or_false, false_or, or_true, true_or, and_self, and_true, true_and, and_false, false_and, not_true_eq_false, not_false_eq_true, h2, h3, mn_c]
theorem c_greater (d : Nat) {x : qm_Hp} {j : Nat} {a b : Int32} (hj : j < 48) (h2 : zI x 13 2 j = a) (h3 : zI x 13 3 j = b) : qm_evM d jC_greater [qP 1 0, qI (nI j)] x = some (some (qI (mxI a b)), x) := by
  simp (config := {maxSteps := 1000000}) (disch := first | omega | assumption | (simp only [qm_wid_n, qm_wid_I, qm_wid_L, qm_wid_P]; omega) | (simp only [qm_wid_n, qm_wid_I, qm_wid_L, qm_wid_P]; done) | fail) only [e_C_greater, b_C_greater_0, qy0, qy1, qy2, qy3, qe, qcn, qin, ↓reduceIte, Nat.reduceEqDiff, Nat.reduceLeDiff, Bool.false_eq_true, Nat.reduceAdd, Nat.reduceSub, Nat.reduceMul, Nat.reduceLT, or_self, or_false, false_or, or_true, true_or, and_self, and_true, true_and, and_false, false_and, not_true_eq_false, not_false_eq_true, h2, h3, mx_c]
theorem r_lesser (d : Nat) {x : qm_Hp} {j : Nat} {a b : Int32} (hj : j < 48) (h2 : zI x 74 0 j = a) (h3 : zI x 75 0 j = b) : qm_evM d jM_lesser [qP 9 0, qI (nI j)] x = some (some (qI (mnI a b)), x) := by
  unfold mnI
  by_cases h : a < b
  · have h' := Int32.not_le.mpr h
    simp (config := {maxSteps := 1000000}) (disch := first | omega | assumption | (simp only [qm_wid_n, qm_wid_I, qm_wid_L, qm_wid_P]; omega) | (simp only [qm_wid_n, qm_wid_I, qm_wid_L, qm_wid_P]; done) | fail) only [e_M_lesser, b_M_lesser_0, b_M_lesser_1, b_M_lesser_2, qy0, qy1, qy2, qy3, qe, qcn, qin, ↓reduceIte, Nat.reduceEqDiff, Nat.reduceLeDiff, Bool.false_eq_true, Nat.reduceAdd, Nat.reduceSub, Nat.reduceMul, Nat.reduceLT, or_self, or_false, false_or, or_true, true_or, and_self, and_true, true_and, and_false, false_and, not_true_eq_false, not_false_eq_true, h2, h3, h, h']
  · have h' := Int32.not_lt.mp h
    simp (config := {maxSteps := 1000000}) (disch := first | omega | assumption | (simp only [qm_wid_n, qm_wid_I, qm_wid_L, qm_wid_P]; omega) | (simp only [qm_wid_n, qm_wid_I, qm_wid_L, qm_wid_P]; done) | fail) only [e_M_lesser, b_M_lesser_0, b_M_lesser_1, b_M_lesser_2, qy0, qy1, qy2, qy3, qe, qcn, qin, ↓reduceIte, Nat.reduceEqDiff, Nat.reduceLeDiff, Bool.false_eq_true, Nat.reduceAdd, Nat.reduceSub, Nat.reduceMul, Nat.reduceLT, or_self, or_false, false_or, or_true, true_or, and_self, and_true, true_and, and_false, false_and, not_true_eq_false, not_false_eq_true, h2, h3, h, h']
theorem r_greater (d : Nat) {x : qm_Hp} {j : Nat} {a b : Int32} (hj : j < 48) (h2 : zI x 74 0 j = a) (h3 : zI x 75 0 j = b) : qm_evM d jM_greater [qP 9 0, qI (nI j)] x = some (some (qI (mxI a b)), x) := by
  unfold mxI
  by_cases h : b < a
  · have h' := Int32.not_le.mpr h
    simp (config := {maxSteps := 1000000}) (disch := first | omega | assumption | (simp only [qm_wid_n, qm_wid_I, qm_wid_L, qm_wid_P]; omega) | (simp only [qm_wid_n, qm_wid_I, qm_wid_L, qm_wid_P]; done) | fail) only [e_M_greater, b_M_greater_0, b_M_greater_1, b_M_greater_2, qy0, qy1, qy2, qy3, qe, qcn, qin, ↓reduceIte, Nat.reduceEqDiff, Nat.reduceLeDiff, Bool.false_eq_true, Nat.reduceAdd, Nat.reduceSub, Nat.reduceMul, Nat.reduceLT, or_self, or_false, false_or, or_true, true_or, and_self, and_true, true_and, and_false, false_and, not_true_eq_false, not_false_eq_true, h2, h3, h, h']
  · have h' := Int32.not_lt.mp h
    simp (config := {maxSteps := 1000000}) (disch := first | omega | assumption | (simp only [qm_wid_n, qm_wid_I, qm_wid_L, qm_wid_P]; omega) | (simp only [qm_wid_n, qm_wid_I, qm_wid_L, qm_wid_P]; done) | fail) only [e_M_greater, b_M_greater_0, b_M_greater_1, b_M_greater_2, qy0, qy1, qy2, qy3, qe, qcn, qin, ↓reduceIte, Nat.reduceEqDiff, Nat.reduceLeDiff, Bool.false_eq_true, Nat.reduceAdd, Nat.reduceSub, Nat.reduceMul, Nat.reduceLT, or_self, or_false, false_or, or_true, true_or, and_self, and_true, true_and, and_false, false_and, not_true_eq_false, not_false_eq_true, h2, h3, h, h']
theorem c_spans_y (d : Nat) {s x : qm_Hp} {n : Int32} {c z q : Nat} {u v : Int32} (hq : q = 0 ∨ q = 1) (hh : qm_evM (d + 39) jP_holds [qP 3 0, qI (nI c), qI (nI z)] s = some (some (qI (nI 1)), s)) (hct : qm_evM (d + 39) jC_canTry [qP 1 0, qI n] s = some (some (qI (nI 1)), s)) (ht : qm_evM (d + 39) jC_trySpans [qP 1 0, qI n] s = some (none, x)) (hl : qm_evM (d + 39) jC_lesser [qP 1 0, qI (nI (8 * c + z))] x = some (some (qI u), x)) (hg : qm_evM (d + 39) jC_greater [qP 1 0, qI (nI (8 * c + z))] x = some (some (qI v), x)) : qm_evM (d + 40) jC_spans [qP 1 0, qI n, qI (nI c), qI (nI z), qI (nI q)] s = some (some (qI (if q = 0 then u else v)), x) := by
  rcases hq with rfl | rfl
  · simp (config := {maxSteps := 1000000}) (disch := first | omega | assumption | (simp only [qm_wid_n, qm_wid_I, qm_wid_L, qm_wid_P]; omega) | (simp only [qm_wid_n, qm_wid_I, qm_wid_L, qm_wid_P]; done) | fail) only [e_C_spans, b_C_spans_0, b_C_spans_1, b_C_spans_2, b_C_spans_3, b_C_spans_4, qy0, qy1, qy2, qy3, qe, qcn, qin, ↓reduceIte, Nat.reduceEqDiff, Nat.reduceLeDiff, Bool.false_eq_true, Nat.reduceAdd, Nat.reduceSub, Nat.reduceMul, Nat.reduceLT, or_self, or_false, false_or, or_true, true_or, and_self, and_true, true_and, and_false, false_and, not_true_eq_false, not_false_eq_true, hh, hct, ht, t_within, t_place, hl]
  · simp (config := {maxSteps := 1000000}) (disch := first | omega | assumption | (simp only [qm_wid_n, qm_wid_I, qm_wid_L, qm_wid_P]; omega) | (simp only [qm_wid_n, qm_wid_I, qm_wid_L, qm_wid_P]; done) | fail) only [e_C_spans, b_C_spans_0, b_C_spans_1, b_C_spans_2, b_C_spans_3, b_C_spans_4, qy0, qy1, qy2, qy3, qe, qcn, qin, ↓reduceIte, Nat.reduceEqDiff, Nat.reduceLeDiff, Bool.false_eq_true, Nat.reduceAdd, Nat.reduceSub, Nat.reduceMul, Nat.reduceLT, or_self, or_false, false_or, or_true, true_or, and_self, and_true, true_and, and_false, false_and, not_true_eq_false, not_false_eq_true, hh, hct, ht, t_within, t_place, hg]
theorem c_spans_n (d : Nat) {s : qm_Hp} {n a b e : Int32} {hv rv : Nat} (h0 : hv = 0 ∨ hv = 1) (r0 : rv = 0 ∨ rv = 1) (hh : qm_evM (d + 39) jP_holds [qP 3 0, qI a, qI b] s = some (some (qI (nI hv)), s)) (hct : qm_evM (d + 39) jC_canTry [qP 1 0, qI n] s = some (some (qI (nI rv)), s)) (h : hv = 0 ∨ rv = 0 ∨ ¬ (nI 0 ≤ e ∧ e ≤ nI 1)) : qm_evM (d + 40) jC_spans [qP 1 0, qI n, qI a, qI b, qI e] s = some (some (qI N1), s) := by
  by_cases he : nI 0 ≤ e ∧ e ≤ nI 1
  · rcases h0 with rfl | rfl
    · simp (config := {maxSteps := 1000000}) (disch := first | omega | assumption | (simp only [qm_wid_n, qm_wid_I, qm_wid_L, qm_wid_P]; omega) | (simp only [qm_wid_n, qm_wid_I, qm_wid_L, qm_wid_P]; done) | fail) only [e_C_spans, b_C_spans_0, b_C_spans_1, qy0, qy1, qy2, qy3, qe, qcn, qin, ↓reduceIte, Nat.reduceEqDiff, Nat.reduceLeDiff, Bool.false_eq_true, Nat.reduceAdd, Nat.reduceSub, Nat.reduceMul, Nat.reduceLT, or_self, or_false, false_or, or_true, true_or, and_self, and_true, true_and, and_false, false_and, not_true_eq_false, not_false_eq_true, hh]
    · have hr : rv = 0 := (h.resolve_left (by decide)).resolve_right (fun g => g he)
      subst hr
      simp (config := {maxSteps := 1000000}) (disch := first | omega | assumption | (simp only [qm_wid_n, qm_wid_I, qm_wid_L, qm_wid_P]; omega) | (simp only [qm_wid_n, qm_wid_I, qm_wid_L, qm_wid_P]; done) | fail) only [e_C_spans, b_C_spans_0, b_C_spans_1, qy0, qy1, qy2, qy3, qe, qcn, qin, ↓reduceIte, Nat.reduceEqDiff, Nat.reduceLeDiff, Bool.false_eq_true, Nat.reduceAdd, Nat.reduceSub, Nat.reduceMul, Nat.reduceLT, or_self, or_false, false_or, or_true, true_or, and_self, and_true, true_and, and_false, false_and, not_true_eq_false, not_false_eq_true, hh, hct, t_within, he]
  · rcases h0 with rfl | rfl
    · simp (config := {maxSteps := 1000000}) (disch := first | omega | assumption | (simp only [qm_wid_n, qm_wid_I, qm_wid_L, qm_wid_P]; omega) | (simp only [qm_wid_n, qm_wid_I, qm_wid_L, qm_wid_P]; done) | fail) only [e_C_spans, b_C_spans_0, b_C_spans_1, qy0, qy1, qy2, qy3, qe, qcn, qin, ↓reduceIte, Nat.reduceEqDiff, Nat.reduceLeDiff, Bool.false_eq_true, Nat.reduceAdd, Nat.reduceSub, Nat.reduceMul, Nat.reduceLT, or_self, or_false, false_or, or_true, true_or, and_self, and_true, true_and, and_false, false_and, not_true_eq_false, not_false_eq_true, hh]
    · simp (config := {maxSteps := 1000000}) (disch := first | omega | assumption | (simp only [qm_wid_n, qm_wid_I, qm_wid_L, qm_wid_P]; omega) | (simp only [qm_wid_n, qm_wid_I, qm_wid_L, qm_wid_P]; done) | fail) only [e_C_spans, b_C_spans_0, b_C_spans_1, qy0, qy1, qy2, qy3, qe, qcn, qin, ↓reduceIte, Nat.reduceEqDiff, Nat.reduceLeDiff, Bool.false_eq_true, Nat.reduceAdd, Nat.reduceSub, Nat.reduceMul, Nat.reduceLT, or_self, or_false, false_or, or_true, true_or, and_self, and_true, true_and, and_false, false_and, not_true_eq_false, not_false_eq_true, hh, t_within, he]
theorem r_spans_y (d : Nat) {s x1 x : qm_Hp} {n : Int32} {c z q : Nat} {u v : Int32} (hq : q = 0 ∨ q = 1) (hct : qm_evM (d + 39) jM_isTried [qP 9 0, qI n, qI (nI 40)] s = some (some (qI (nI 1)), s)) (hh : qm_evM (d + 39) jM_isSplit [qP 9 0, qI (nI c), qI (nI z)] s = some (some (qI (nI 1)), s)) (ht : qm_evM (d + 39) jM_tryEnds [qP 9 0, qI n, qI (nI 0), qP 74 0] s = some (none, x1)) (ht2 : qm_evM (d + 39) jM_tryEnds [qP 9 0, qI n, qI (nI 1), qP 75 0] x1 = some (none, x)) (hl : qm_evM (d + 39) jM_lesser [qP 9 0, qI (nI (8 * c + z))] x = some (some (qI u), x)) (hg : qm_evM (d + 39) jM_greater [qP 9 0, qI (nI (8 * c + z))] x = some (some (qI v), x)) : qm_evM (d + 40) jM_spans [qP 9 0, qI n, qI (nI c), qI (nI z), qI (nI q)] s = some (some (qI (if q = 0 then u else v)), x) := by
  rcases hq with rfl | rfl
  · simp (config := {maxSteps := 1000000}) (disch := first | omega | assumption | (simp only [qm_wid_n, qm_wid_I, qm_wid_L, qm_wid_P]; omega) | (simp only [qm_wid_n, qm_wid_I, qm_wid_L, qm_wid_P]; done) | fail) only [e_M_spans, b_M_spans_0, b_M_spans_1, b_M_spans_2, b_M_spans_3, b_M_spans_4, qy0, qy1, qy2, qy3, qe, qcn, qin, ↓reduceIte, Nat.reduceEqDiff, Nat.reduceLeDiff, Bool.false_eq_true, Nat.reduceAdd, Nat.reduceSub, Nat.reduceMul, Nat.reduceLT, or_self, or_false, false_or, or_true, true_or, and_self, and_true, true_and, and_false, false_and, not_true_eq_false, not_false_eq_true, hh, hct, ht, ht2, t_isIn, hl]
  · simp (config := {maxSteps := 1000000}) (disch := first | omega | assumption | (simp only [qm_wid_n, qm_wid_I, qm_wid_L, qm_wid_P]; omega) | (simp only [qm_wid_n, qm_wid_I, qm_wid_L, qm_wid_P]; done) | fail) only [e_M_spans, b_M_spans_0, b_M_spans_1, b_M_spans_2, b_M_spans_3, b_M_spans_4, qy0, qy1, qy2, qy3, qe, qcn, qin, ↓reduceIte, Nat.reduceEqDiff, Nat.reduceLeDiff, Bool.false_eq_true, Nat.reduceAdd, Nat.reduceSub, Nat.reduceMul, Nat.reduceLT, or_self, or_false, false_or, or_true, true_or, and_self, and_true, true_and, and_false, false_and, not_true_eq_false, not_false_eq_true, hh, hct, ht, ht2, t_isIn, hg]
theorem r_spans_n (d : Nat) {s : qm_Hp} {n a b e : Int32} {hv rv : Nat} (h0 : hv = 0 ∨ hv = 1) (r0 : rv = 0 ∨ rv = 1) (hh : qm_evM (d + 39) jM_isSplit [qP 9 0, qI a, qI b] s = some (some (qI (nI hv)), s)) (hct : qm_evM (d + 39) jM_isTried [qP 9 0, qI n, qI (nI 40)] s = some (some (qI (nI rv)), s)) (h : hv = 0 ∨ rv = 0 ∨ ¬ (nI 0 ≤ e ∧ e ≤ nI 1)) : qm_evM (d + 40) jM_spans [qP 9 0, qI n, qI a, qI b, qI e] s = some (some (qI N1), s) := by
  rcases r0 with rfl | rfl
  · simp (config := {maxSteps := 1000000}) (disch := first | omega | assumption | (simp only [qm_wid_n, qm_wid_I, qm_wid_L, qm_wid_P]; omega) | (simp only [qm_wid_n, qm_wid_I, qm_wid_L, qm_wid_P]; done) | fail) only [e_M_spans, b_M_spans_0, b_M_spans_1, qy0, qy1, qy2, qy3, qe, qcn, qin, ↓reduceIte, Nat.reduceEqDiff, Nat.reduceLeDiff, Bool.false_eq_true, Nat.reduceAdd, Nat.reduceSub, Nat.reduceMul, Nat.reduceLT, or_self, or_false, false_or, or_true, true_or, and_self, and_true, true_and, and_false, false_and, not_true_eq_false, not_false_eq_true, hct]
  · rcases h0 with rfl | rfl
    · simp (config := {maxSteps := 1000000}) (disch := first | omega | assumption | (simp only [qm_wid_n, qm_wid_I, qm_wid_L, qm_wid_P]; omega) | (simp only [qm_wid_n, qm_wid_I, qm_wid_L, qm_wid_P]; done) | fail) only [e_M_spans, b_M_spans_0, b_M_spans_1, qy0, qy1, qy2, qy3, qe, qcn, qin, ↓reduceIte, Nat.reduceEqDiff, Nat.reduceLeDiff, Bool.false_eq_true, Nat.reduceAdd, Nat.reduceSub, Nat.reduceMul, Nat.reduceLT, or_self, or_false, false_or, or_true, true_or, and_self, and_true, true_and, and_false, false_and, not_true_eq_false, not_false_eq_true, hct, hh]
    · have he : ¬ (nI 0 ≤ e ∧ e ≤ nI 1) := (h.resolve_left (by decide)).resolve_left (by decide)
      simp (config := {maxSteps := 1000000}) (disch := first | omega | assumption | (simp only [qm_wid_n, qm_wid_I, qm_wid_L, qm_wid_P]; omega) | (simp only [qm_wid_n, qm_wid_I, qm_wid_L, qm_wid_P]; done) | fail) only [e_M_spans, b_M_spans_0, b_M_spans_1, qy0, qy1, qy2, qy3, qe, qcn, qin, ↓reduceIte, Nat.reduceEqDiff, Nat.reduceLeDiff, Bool.false_eq_true, Nat.reduceAdd, Nat.reduceSub, Nat.reduceMul, Nat.reduceLT, or_self, or_false, false_or, or_true, true_or, and_self, and_true, true_and, and_false, false_and, not_true_eq_false, not_false_eq_true, hct, hh, t_isIn, he]
/-- both ends tried in the reference -/
theorem r_ends (d : Nat) {x : qm_Hp} {w n i : Nat} {y k : VW} {tp : Nat → Int32} {fd : Nat} {fa pl : Int32} {T : Nat → TX} (ok : OKG w y k tp fd T) (hR : RM x w y k tp fd fa pl T) (hi : y 0 0 = nI i) (h9 : i + n ≤ 399) (hn : n ≤ 40) : ∃ x1 x2, qm_evM (d + 9) jM_tryEnds [qP 9 0, qI (nI n), qI (nI 0), qP 74 0] x = some (none, x1) ∧ qm_evM (d + 9) jM_tryEnds [qP 9 0, qI (nI n), qI (nI 1), qP 75 0] x1 = some (none, x2) ∧ RM x2 w y k tp fd fa pl T ∧ fp MP x x2 ∧ (∀ c z, c < w → z < cn y c → zI x2 74 0 (8 * c + z) = spq (rul T y) w y n 0 (8 * c + z) ∧ zI x2 75 0 (8 * c + z) = spq (rul T y) w y n 1 (8 * c + z)) := by
  obtain ⟨x1, a1, a2, a3, a4⟩ := r_tryEnds0 d ok hR hi h9 hn
  obtain ⟨x2, b1, b2, b3, b4⟩ := r_tryEnds1 d ok a2 hi h9 hn
  refine ⟨x1, x2, a1, b1, b2, fp_trans (fp_mono (fun k i hk => by unfold MP; omega) a3) (fp_mono (fun k i hk => by unfold MP; omega) b3), fun c z hc hz => ⟨?_, b4 c z hc hz⟩⟩
  rw [b3.1 74 0 _ (by first | omega | (dsimp only; omega))]
  exact a4 c z hc hz
theorem cpt_d (nw wk : Nat) (x : Int32) : (∃ m, x = nI m ∧ m ≤ 40 ∧ (m = 0 ∨ 0 < nw) ∧ wk + m ≤ 399) ∨ ¬ cpt nw wk 40 x := by
  by_cases h : cpt nw wk 40 x
  · exact Or.inl h
  · exact Or.inr h
theorem st_spans (d : Nat) (n a b e : Int32) : STP (d + 40) jC_spans jM_spans [qI n, qI a, qI b, qI e] := by
  refine stp_rw fun s w y k tp fd fa pl T hC hM ok => ?_
  have okp := ok.1.1
  have hw6 := okp.1.2
  obtain ⟨nw, _, hnw, enw⟩ := ok.1.2.1
  obtain ⟨wk, _, hwk, ewk⟩ := okp.2.1.1
  have h5 : zI s 2 0 5 = nI nw := hC.1.2.1.1.trans enw
  have h8 : zI s 3 0 8 = nI wk := hC.1.1.2.1.1.trans ewk
  have m1 : ∀ s1, RM s1 w y k tp fd fa pl T → zI s1 61 0 1 = nI nw := fun s1 g => g.2.1.2.1.1.trans enw
  have m0 : ∀ s1, RM s1 w y k tp fd fa pl T → zI s1 61 0 0 = nI wk := fun s1 g => g.2.1.1.2.1.1.trans ewk
  rcases cpt_d nw wk n with ⟨m, rfl, hm, q1, q2⟩ | hq
  · have hct := t_canTry_y (d + 38) h5 h8 hnw hm q1 q2
    have mt : ∀ s1, RM s1 w y k tp fd fa pl T → _ := fun s1 g => r_isTried_y (d + 38) (s := s1) (M := 40) (m1 s1 g) (m0 s1 g) hnw (by decide) hm q1 q2
    by_cases hsp : sp w y a b
    · obtain ⟨c, z, hc, hz, rfl, rfl⟩ := hsp
      have hc8 := OK_n okp hc
      have hh := t_holds_y (d + 39) hC.1.1 okp hc hz
      have mh : ∀ s1, RM s1 w y k tp fd fa pl T → _ := fun s1 g => r_isSplit_y (d + 37) (s := s1) g.2.1.1 okp g.1.1 (by decide) hc hz
      by_cases he : nI 0 ≤ e ∧ e ≤ nI 1
      · obtain ⟨q, _, hq, rfl⟩ := inr_rg (by decide) he.1 he.2 (by decide)
        have hq' : q = 0 ∨ q = 1 := by omega
        obtain ⟨x, g1, g2, g3, g4⟩ := c_trySpans (d + 32) ok hC ewk q2 hm
        obtain ⟨u2, u3⟩ := g4 c z hc hz
        refine ⟨if q = 0 then mnI (spq (rul T y) w y m 0 (8 * c + z)) (spq (rul T y) w y m 1 (8 * c + z)) else mxI (spq (rul T y) w y m 0 (8 * c + z)) (spq (rul T y) w y m 1 (8 * c + z)), y, k, tp, fd, fa, pl, T, ok, ⟨x, c_spans_y d hq' hh hct g1 (c_lesser (d + 39) (by omega) u2 u3) (c_greater (d + 39) (by omega) u2 u3), P23_CP g3, g2⟩, fun s1 h1 => ?_⟩
        obtain ⟨x1, x2, e1, e2, e3, e4, e5⟩ := r_ends (d + 30) ok h1 ewk q2 hm
        obtain ⟨v2, v3⟩ := e5 c z hc hz
        exact ⟨x2, r_spans_y d hq' (mt s1 h1) (mh s1 h1) e1 e2 (r_lesser (d + 39) (by omega) v2 v3) (r_greater (d + 39) (by omega) v2 v3), e4, e3⟩
      · exact nochg ok hC N1 (c_spans_n d (Or.inr rfl) (Or.inr rfl) hh hct (Or.inr (Or.inr he))) (fun s1 h1 => r_spans_n d (Or.inr rfl) (Or.inr rfl) (mh s1 h1) (mt s1 h1) (Or.inr (Or.inr he)))
    · have hh := t_holds_n (d + 39) hC.1.1 okp hsp
      exact nochg ok hC N1 (c_spans_n d (Or.inl rfl) (Or.inr rfl) hh hct (Or.inl rfl)) (fun s1 h1 => r_spans_n d (Or.inl rfl) (Or.inr rfl) (r_isSplit_n (d + 37) h1.2.1.1 okp h1.1.1 (by decide) hsp) (mt s1 h1) (Or.inl rfl))
  · have hct := t_canTry_n (d + 38) h5 h8 hnw hwk hq
    have mt : ∀ s1, RM s1 w y k tp fd fa pl T → _ := fun s1 g => r_isTried_n (d + 38) (s := s1) (M := 40) (m1 s1 g) (m0 s1 g) hnw hwk (by decide) hq
    by_cases hsp : sp w y a b
    · obtain ⟨c, z, hc, hz, rfl, rfl⟩ := hsp
      have hh := t_holds_y (d + 39) hC.1.1 okp hc hz
      exact nochg ok hC N1 (c_spans_n d (Or.inr rfl) (Or.inl rfl) hh hct (Or.inr (Or.inl rfl))) (fun s1 h1 => r_spans_n d (Or.inr rfl) (Or.inl rfl) (r_isSplit_y (d + 37) h1.2.1.1 okp h1.1.1 (by decide) hc hz) (mt s1 h1) (Or.inr (Or.inl rfl)))
    · have hh := t_holds_n (d + 39) hC.1.1 okp hsp
      exact nochg ok hC N1 (c_spans_n d (Or.inl rfl) (Or.inl rfl) hh hct (Or.inl rfl)) (fun s1 h1 => r_spans_n d (Or.inl rfl) (Or.inl rfl) (r_isSplit_n (d + 37) h1.2.1.1 okp h1.1.1 (by decide) hsp) (mt s1 h1) (Or.inl rfl))
/-! sure -/
def suf (L G : Nat → Int32) (q c z : Nat) : Int32 := if (if q = 0 then G (8 * c + z) else L (8 * c + z)) ≤ nI 200 then nI 1 else nI 0
def nxg (y : VW) (L G : Nat → Int32) : Nat → Nat → Int32 × Int32 → Int32 × Int32 := fun c z b => if y 6 (8 * c + z) = N1 ∧ b.1 < G (8 * c + z) - L (8 * c + z) then (G (8 * c + z) - L (8 * c + z), nI (10 * c + z)) else b
def nxt (y : VW) (L G : Nat → Int32) (w : Nat) : Int32 × Int32 := l3 (cn y) (fun _ a => a) (nxg y L G) (fun _ a => a) w (nI 0, N1)
theorem c_next (d : Nat) {x : qm_Hp} {w : Nat} {y : VW} (L G : Nat → Int32) (hP : PC x 0 w y) (ok : OKP w y) (hl : ∀ c z, c < w → z < cn y c → qm_evM d jC_lesser [qP 1 0, qI (nI (8 * c + z))] x = some (some (qI (L (8 * c + z))), x)) (hg : ∀ c z, c < w → z < cn y c → qm_evM d jC_greater [qP 1 0, qI (nI (8 * c + z))] x = some (some (qI (G (8 * c + z))), x)) : qm_evM (d + 1) jC_nextToMeasure [qP 1 0] x = some (some (qI (nxt y L G w).2), x) := by
  have hw6 := ok.1.2
  have hww := hP.1
  obtain ⟨s', ⟨x4, x5, x6⟩, e, rfl⟩ := q_l3 w (cn y) (fun _ a => a) (nxg y L G) (fun _ a => a) (fun _ _ s' => s' = x) (fun _ _ _ s' => s' = x) (fun c a s' (q : qm_AV × qm_AV × qm_AV) => qm_evB (d + 1) jC_nextToMeasure 1 [qP 1 0, qI a.1, qI a.2, qI (nI c), q.1, q.2.1, q.2.2] [] s') (fun c z a s' (q : qm_AV × qm_AV) => qm_evB (d + 1) jC_nextToMeasure 2 [qP 1 0, qI a.1, qI a.2, qI (nI c), qI (nI z), q.1, q.2] [] s') (fun c a s' q hc hs => by
      subst hs
      refine ⟨⟨(q.2.1, q.2.2), ?_⟩, rfl⟩
      refine (b_C_nextToMeasure_1 ..).trans ?_
      simp (config := {maxSteps := 1000000}) (disch := first | omega | assumption | (simp only [qm_wid_n, qm_wid_I, qm_wid_L, qm_wid_P]; omega) | (simp only [qm_wid_n, qm_wid_I, qm_wid_L, qm_wid_P]; done) | fail) only [qy0, qy1, qy2, qy3, qe, qcn, qin, ↓reduceIte, Nat.reduceEqDiff, Nat.reduceLeDiff, Bool.false_eq_true, Nat.reduceAdd, Nat.reduceSub, Nat.reduceMul, Nat.reduceLT, or_self, or_false, false_or, or_true, true_or, and_self, and_true, true_and, and_false, false_and, not_true_eq_false, not_false_eq_true, hww]) (fun c z a s' q hc hz hs => by
      subst hs
      have h8 := OK_n ok hc
      have hcn := PC_c hP hc
      have hlo := PC_lo hP hc hz
      have h1 := hl c z hc hz
      have h2 := hg c z hc hz
      refine ⟨s', (qI (nI (8 * c + z)), qI (G (8 * c + z) - L (8 * c + z))), ?_, rfl⟩
      refine (b_C_nextToMeasure_2 ..).trans ?_
      unfold nxg
      by_cases q1 : y 6 (8 * c + z) = N1
      · rw [q1] at hlo
        by_cases q2 : a.1 < G (8 * c + z) - L (8 * c + z)
        · have q2' := Int32.not_le.mpr q2
          rw [if_pos ⟨q1, q2⟩]
          simp (config := {maxSteps := 1000000}) (disch := first | omega | assumption | (simp only [qm_wid_n, qm_wid_I, qm_wid_L, qm_wid_P]; omega) | (simp only [qm_wid_n, qm_wid_I, qm_wid_L, qm_wid_P]; done) | fail) only [b_C_nextToMeasure_3, qy0, qy1, qy2, qy3, qe, qcn, qin, ↓reduceIte, Nat.reduceEqDiff, Nat.reduceLeDiff, Bool.false_eq_true, Nat.reduceAdd, Nat.reduceSub, Nat.reduceMul, Nat.reduceLT, or_self, or_false, false_or, or_true, true_or, and_self, and_true, true_and, and_false, false_and, not_true_eq_false, not_false_eq_true, hcn, t_place, h1, h2, hlo, q2']
        · have q2' := Int32.not_lt.mp q2
          rw [if_neg (fun g => q2 g.2)]
          simp (config := {maxSteps := 1000000}) (disch := first | omega | assumption | (simp only [qm_wid_n, qm_wid_I, qm_wid_L, qm_wid_P]; omega) | (simp only [qm_wid_n, qm_wid_I, qm_wid_L, qm_wid_P]; done) | fail) only [b_C_nextToMeasure_3, qy0, qy1, qy2, qy3, qe, qcn, qin, ↓reduceIte, Nat.reduceEqDiff, Nat.reduceLeDiff, Bool.false_eq_true, Nat.reduceAdd, Nat.reduceSub, Nat.reduceMul, Nat.reduceLT, or_self, or_false, false_or, or_true, true_or, and_self, and_true, true_and, and_false, false_and, not_true_eq_false, not_false_eq_true, hcn, t_place, h1, h2, hlo, q2']
      · rw [if_neg (fun g => q1 g.1)]
        simp (config := {maxSteps := 1000000}) (disch := first | omega | assumption | (simp only [qm_wid_n, qm_wid_I, qm_wid_L, qm_wid_P]; omega) | (simp only [qm_wid_n, qm_wid_I, qm_wid_L, qm_wid_P]; done) | fail) only [b_C_nextToMeasure_3, qy0, qy1, qy2, qy3, qe, qcn, qin, ↓reduceIte, Nat.reduceEqDiff, Nat.reduceLeDiff, Bool.false_eq_true, Nat.reduceAdd, Nat.reduceSub, Nat.reduceMul, Nat.reduceLT, or_self, or_false, false_or, or_true, true_or, and_self, and_true, true_and, and_false, false_and, not_true_eq_false, not_false_eq_true, hcn, t_place, h1, h2, hlo, q1]) (fun c a s' q hc hs => by
      subst hs
      have h8 := OK_n ok hc
      have hcn := PC_c hP hc
      refine ⟨s', (qI (nI (cn y c)), q.1, q.2), ?_, rfl⟩
      refine (b_C_nextToMeasure_2 ..).trans ?_
      simp (config := {maxSteps := 1000000}) (disch := first | omega | assumption | (simp only [qm_wid_n, qm_wid_I, qm_wid_L, qm_wid_P]; omega) | (simp only [qm_wid_n, qm_wid_I, qm_wid_L, qm_wid_P]; done) | fail) only [b_C_nextToMeasure_4, qy0, qy1, qy2, qy3, qe, qcn, qin, ↓reduceIte, Nat.reduceEqDiff, Nat.reduceLeDiff, Bool.false_eq_true, Nat.reduceAdd, Nat.reduceSub, Nat.reduceMul, Nat.reduceLT, or_self, or_false, false_or, or_true, true_or, and_self, and_true, true_and, and_false, false_and, not_true_eq_false, not_false_eq_true, hcn]) (nI 0, N1) x (qU, qU, qU) rfl
  simp (config := {maxSteps := 1000000}) (disch := first | omega | assumption | (simp only [qm_wid_n, qm_wid_I, qm_wid_L, qm_wid_P]; omega) | (simp only [qm_wid_n, qm_wid_I, qm_wid_L, qm_wid_P]; done) | fail) only [e_C_nextToMeasure, b_C_nextToMeasure_0, qy0, qy1, qy2, qy3, qe, qcn, qin, ↓reduceIte, Nat.reduceEqDiff, Nat.reduceLeDiff, Bool.false_eq_true, Nat.reduceAdd, Nat.reduceSub, Nat.reduceMul, Nat.reduceLT, or_self, or_false, false_or, or_true, true_or, and_self, and_true, true_and, and_false, false_and, not_true_eq_false, not_false_eq_true]
  refine e.trans ?_
  simp (config := {maxSteps := 1000000}) (disch := first | omega | assumption | (simp only [qm_wid_n, qm_wid_I, qm_wid_L, qm_wid_P]; omega) | (simp only [qm_wid_n, qm_wid_I, qm_wid_L, qm_wid_P]; done) | fail) only [b_C_nextToMeasure_1, b_C_nextToMeasure_5, qy0, qy1, qy2, qy3, qe, qcn, qin, ↓reduceIte, Nat.reduceEqDiff, Nat.reduceLeDiff, Bool.false_eq_true, Nat.reduceAdd, Nat.reduceSub, Nat.reduceMul, Nat.reduceLT, or_self, or_false, false_or, or_true, true_or, and_self, and_true, true_and, and_false, false_and, not_true_eq_false, not_false_eq_true, hww, nxt]
theorem c_sureN (d : Nat) {x : qm_Hp} {w q : Nat} {y : VW} {n : Int32} (L G : Nat → Int32) (hq : q = 0 ∨ q = 1) (hP : PC x 0 w y) (ok : OKP w y) (hl : ∀ c z, c < w → z < cn y c → qm_evM d jC_lesser [qP 1 0, qI (nI (8 * c + z))] x = some (some (qI (L (8 * c + z))), x)) (hg : ∀ c z, c < w → z < cn y c → qm_evM d jC_greater [qP 1 0, qI (nI (8 * c + z))] x = some (some (qI (G (8 * c + z))), x)) : qm_evB (d + 1) jC_sure 3 [qP 1 0, qI n, qI (nI q), qU, qU, qU, qU] [] x = some (some (qI (cnt (suf L G q) y w)), x) := by
  have hw6 := ok.1.2
  have hww := hP.1
  obtain ⟨s', ⟨x5, x6⟩, e, rfl⟩ := q_l3 w (cn y) (fun _ a => a) (fun c z a => a + suf L G q c z) (fun _ a => a) (fun _ _ s' => s' = x) (fun _ _ _ s' => s' = x) (fun c a s' (v : qm_AV × qm_AV) => qm_evB (d + 1) jC_sure 4 [qP 1 0, qI n, qI (nI q), qI a, qI (nI c), v.1, v.2] [] s') (fun c z a s' (v : qm_AV) => qm_evB (d + 1) jC_sure 5 [qP 1 0, qI n, qI (nI q), qI a, qI (nI c), qI (nI z), v] [] s') (fun c a s' v hc hs => by
      subst hs
      refine ⟨⟨v.2, ?_⟩, rfl⟩
      refine (b_C_sure_4 ..).trans ?_
      simp (config := {maxSteps := 1000000}) (disch := first | omega | assumption | (simp only [qm_wid_n, qm_wid_I, qm_wid_L, qm_wid_P]; omega) | (simp only [qm_wid_n, qm_wid_I, qm_wid_L, qm_wid_P]; done) | fail) only [qy0, qy1, qy2, qy3, qe, qcn, qin, ↓reduceIte, Nat.reduceEqDiff, Nat.reduceLeDiff, Bool.false_eq_true, Nat.reduceAdd, Nat.reduceSub, Nat.reduceMul, Nat.reduceLT, or_self, or_false, false_or, or_true, true_or, and_self, and_true, true_and, and_false, false_and, not_true_eq_false, not_false_eq_true, hww]) (fun c z a s' v hc hz hs => by
      subst hs
      have h8 := OK_n ok hc
      have hcn := PC_c hP hc
      have h1 := hl c z hc hz
      have h2 := hg c z hc hz
      refine ⟨s', qI (nI (8 * c + z)), ?_, rfl⟩
      refine (b_C_sure_5 ..).trans ?_
      unfold suf
      rcases hq with rfl | rfl
      · rw [if_pos rfl]
        by_cases g : G (8 * c + z) ≤ nI 200
        · simp (config := {maxSteps := 1000000}) (disch := first | omega | assumption | (simp only [qm_wid_n, qm_wid_I, qm_wid_L, qm_wid_P]; omega) | (simp only [qm_wid_n, qm_wid_I, qm_wid_L, qm_wid_P]; done) | fail) only [b_C_sure_6, b_C_sure_7, b_C_sure_8, b_C_sure_9, qy0, qy1, qy2, qy3, qe, qcn, qin, ↓reduceIte, Nat.reduceEqDiff, Nat.reduceLeDiff, Bool.false_eq_true, Nat.reduceAdd, Nat.reduceSub, Nat.reduceMul, Nat.reduceLT, or_self, or_false, false_or, or_true, true_or, and_self, and_true, true_and, and_false, false_and, not_true_eq_false, not_false_eq_true, hcn, t_place, h1, h2, t_isDry, g]
        · simp (config := {maxSteps := 1000000}) (disch := first | omega | assumption | (simp only [qm_wid_n, qm_wid_I, qm_wid_L, qm_wid_P]; omega) | (simp only [qm_wid_n, qm_wid_I, qm_wid_L, qm_wid_P]; done) | fail) only [b_C_sure_6, b_C_sure_7, b_C_sure_8, b_C_sure_9, qy0, qy1, qy2, qy3, qe, qcn, qin, ↓reduceIte, Nat.reduceEqDiff, Nat.reduceLeDiff, Bool.false_eq_true, Nat.reduceAdd, Nat.reduceSub, Nat.reduceMul, Nat.reduceLT, or_self, or_false, false_or, or_true, true_or, and_self, and_true, true_and, and_false, false_and, not_true_eq_false, not_false_eq_true, hcn, t_place, h1, h2, t_isDry, g]
      · rw [if_neg (show ¬ (1 : Nat) = 0 by decide)]
        by_cases g : L (8 * c + z) ≤ nI 200
        · simp (config := {maxSteps := 1000000}) (disch := first | omega | assumption | (simp only [qm_wid_n, qm_wid_I, qm_wid_L, qm_wid_P]; omega) | (simp only [qm_wid_n, qm_wid_I, qm_wid_L, qm_wid_P]; done) | fail) only [b_C_sure_6, b_C_sure_7, b_C_sure_8, b_C_sure_9, qy0, qy1, qy2, qy3, qe, qcn, qin, ↓reduceIte, Nat.reduceEqDiff, Nat.reduceLeDiff, Bool.false_eq_true, Nat.reduceAdd, Nat.reduceSub, Nat.reduceMul, Nat.reduceLT, or_self, or_false, false_or, or_true, true_or, and_self, and_true, true_and, and_false, false_and, not_true_eq_false, not_false_eq_true, hcn, t_place, h1, h2, t_isDry, g]
        · simp (config := {maxSteps := 1000000}) (disch := first | omega | assumption | (simp only [qm_wid_n, qm_wid_I, qm_wid_L, qm_wid_P]; omega) | (simp only [qm_wid_n, qm_wid_I, qm_wid_L, qm_wid_P]; done) | fail) only [b_C_sure_6, b_C_sure_7, b_C_sure_8, b_C_sure_9, qy0, qy1, qy2, qy3, qe, qcn, qin, ↓reduceIte, Nat.reduceEqDiff, Nat.reduceLeDiff, Bool.false_eq_true, Nat.reduceAdd, Nat.reduceSub, Nat.reduceMul, Nat.reduceLT, or_self, or_false, false_or, or_true, true_or, and_self, and_true, true_and, and_false, false_and, not_true_eq_false, not_false_eq_true, hcn, t_place, h1, h2, t_isDry, g]) (fun c a s' v hc hs => by
      subst hs
      have h8 := OK_n ok hc
      have hcn := PC_c hP hc
      refine ⟨s', (qI (nI (cn y c)), v), ?_, rfl⟩
      refine (b_C_sure_5 ..).trans ?_
      simp (config := {maxSteps := 1000000}) (disch := first | omega | assumption | (simp only [qm_wid_n, qm_wid_I, qm_wid_L, qm_wid_P]; omega) | (simp only [qm_wid_n, qm_wid_I, qm_wid_L, qm_wid_P]; done) | fail) only [b_C_sure_10, qy0, qy1, qy2, qy3, qe, qcn, qin, ↓reduceIte, Nat.reduceEqDiff, Nat.reduceLeDiff, Bool.false_eq_true, Nat.reduceAdd, Nat.reduceSub, Nat.reduceMul, Nat.reduceLT, or_self, or_false, false_or, or_true, true_or, and_self, and_true, true_and, and_false, false_and, not_true_eq_false, not_false_eq_true, hcn]) (nI 0) x (qU, qU) rfl
  simp (config := {maxSteps := 1000000}) (disch := first | omega | assumption | (simp only [qm_wid_n, qm_wid_I, qm_wid_L, qm_wid_P]; omega) | (simp only [qm_wid_n, qm_wid_I, qm_wid_L, qm_wid_P]; done) | fail) only [b_C_sure_3, qy0, qy1, qy2, qy3, qe, qcn, qin, ↓reduceIte, Nat.reduceEqDiff, Nat.reduceLeDiff, Bool.false_eq_true, Nat.reduceAdd, Nat.reduceSub, Nat.reduceMul, Nat.reduceLT, or_self, or_false, false_or, or_true, true_or, and_self, and_true, true_and, and_false, false_and, not_true_eq_false, not_false_eq_true]
  refine e.trans ?_
  simp (config := {maxSteps := 1000000}) (disch := first | omega | assumption | (simp only [qm_wid_n, qm_wid_I, qm_wid_L, qm_wid_P]; omega) | (simp only [qm_wid_n, qm_wid_I, qm_wid_L, qm_wid_P]; done) | fail) only [b_C_sure_4, b_C_sure_11, qy0, qy1, qy2, qy3, qe, qcn, qin, ↓reduceIte, Nat.reduceEqDiff, Nat.reduceLeDiff, Bool.false_eq_true, Nat.reduceAdd, Nat.reduceSub, Nat.reduceMul, Nat.reduceLT, or_self, or_false, false_or, or_true, true_or, and_self, and_true, true_and, and_false, false_and, not_true_eq_false, not_false_eq_true, hww, cnt]
abbrev s3 : Type := Int32 × Int32 × Int32
def s3g (y : VW) (L G : Nat → Int32) (q : Nat) : Nat → Nat → s3 → s3 := fun c z b => (b.1 + suf L G q c z, nxg y L G c z b.2)
theorem l3_map {A B : Type} (φ : A → B) {n : Nat → Nat} {g : Nat → Nat → A → A} {g' : Nat → Nat → B → B} (h : ∀ c z a, φ (g c z a) = g' c z (φ a)) (a : A) : ∀ w, φ (l3 n (fun _ a => a) g (fun _ a => a) w a) = l3 n (fun _ a => a) g' (fun _ a => a) w (φ a)
  | 0 => rfl
  | w + 1 => by
    have ih := l3_map φ (n := n) h a w
    have key : ∀ m b, φ (fz (g w) m b) = fz (g' w) m (φ b) := by
      intro m
      induction m with
      | zero => intro b; rfl
      | succ m im => intro b; show φ (g w m (fz (g w) m b)) = g' w m (fz (g' w) m (φ b)); rw [h, im]
    show φ (fz (g w) (n w) (l3 n (fun _ a => a) g (fun _ a => a) w a)) = fz (g' w) (n w) (l3 n (fun _ a => a) g' (fun _ a => a) w (φ a))
    rw [key, ih]
theorem r_sureN (d : Nat) {x : qm_Hp} {w q : Nat} {y : VW} {n : Int32} (L G : Nat → Int32) (hq : q = 0 ∨ q = 1 ∨ q = 2) (hP : PM x 0 w y) (ok : OKP w y) (hb : zI x 9 0 2 = nI 0) (hl : ∀ c z, c < w → z < cn y c → qm_evM d jM_lesser [qP 9 0, qI (nI (8 * c + z))] x = some (some (qI (L (8 * c + z))), x)) (hg : ∀ c z, c < w → z < cn y c → qm_evM d jM_greater [qP 9 0, qI (nI (8 * c + z))] x = some (some (qI (G (8 * c + z))), x)) : qm_evB (d + 1) jM_sure 3 [qP 9 0, qI n, qI (nI q), qI (nI 0), qI N1, qI (nI 0), qI (nI 0), qU, qU, qU] [] x = some (some (qI (if q = 2 then (nxt y L G w).2 else cnt (suf L G q) y w)), x) := by
  have hw6 := ok.1.2
  have hww := hP.1
  obtain ⟨s', ⟨x7, x8, x9⟩, e, rfl⟩ := q_l3 w (cn y) (fun _ (a : s3) => a) (s3g y L G q) (fun _ a => a) (fun _ _ s' => s' = x) (fun _ _ _ s' => s' = x) (fun c a s' (v : qm_AV × qm_AV × qm_AV) => qm_evB (d + 1) jM_sure 3 [qP 9 0, qI n, qI (nI q), qI a.1, qI a.2.2, qI a.2.1, qI (nI c), v.1, v.2.1, v.2.2] [] s') (fun c z a s' (v : qm_AV × qm_AV) => qm_evB (d + 1) jM_sure 4 [qP 9 0, qI n, qI (nI q), qI a.1, qI a.2.2, qI a.2.1, qI (nI c), qI (nI z), v.1, v.2] [] s') (fun c a s' v hc hs => by
      subst hs
      refine ⟨⟨(v.2.1, v.2.2), ?_⟩, rfl⟩
      refine (b_M_sure_3 ..).trans ?_
      simp (config := {maxSteps := 1000000}) (disch := first | omega | assumption | (simp only [qm_wid_n, qm_wid_I, qm_wid_L, qm_wid_P]; omega) | (simp only [qm_wid_n, qm_wid_I, qm_wid_L, qm_wid_P]; done) | fail) only [qy0, qy1, qy2, qy3, qe, qcn, qin, ↓reduceIte, Nat.reduceEqDiff, Nat.reduceLeDiff, Bool.false_eq_true, Nat.reduceAdd, Nat.reduceSub, Nat.reduceMul, Nat.reduceLT, or_self, or_false, false_or, or_true, true_or, and_self, and_true, true_and, and_false, false_and, not_true_eq_false, not_false_eq_true, hww]) (fun c z a s' v hc hz hs => by
      subst hs
      have h8 := OK_n ok hc
      have hct := r_count d hP ok hb (by decide) hc
      have hat := r_at00 d hb c z
      have hlo := PM_0 hP hc hz 4 (by decide)
      rw [show 2 + 4 = 6 from rfl] at hlo
      have h1 := hl c z hc hz
      have h2 := hg c z hc hz
      have first : qm_evB (d + 1) jM_sure 4 [qP 9 0, qI n, qI (nI q), qI a.1, qI a.2.2, qI a.2.1, qI (nI c), qI (nI z), v.1, v.2] [] s' = qm_evB (d + 1) jM_sure 8 [qP 9 0, qI n, qI (nI q), qI a.1, qI a.2.2, qI a.2.1, qI (nI c), qI (nI z), qI (nI (8 * c + z)), v.2] [qI (suf L G q c z), qI a.1] s' := by
        refine (b_M_sure_4 ..).trans ?_
        unfold suf
        rcases hq with rfl | hq
        · rw [if_pos rfl]
          by_cases g : G (8 * c + z) ≤ nI 200
          · have g' := Int32.not_lt.mpr g
            simp (config := {maxSteps := 1000000}) (disch := first | omega | assumption | (simp only [qm_wid_n, qm_wid_I, qm_wid_L, qm_wid_P]; omega) | (simp only [qm_wid_n, qm_wid_I, qm_wid_L, qm_wid_P]; done) | fail) only [b_M_sure_5, b_M_sure_6, b_M_sure_7, qy0, qy1, qy2, qy3, qe, qcn, qin, ↓reduceIte, Nat.reduceEqDiff, Nat.reduceLeDiff, Bool.false_eq_true, Nat.reduceAdd, Nat.reduceSub, Nat.reduceMul, Nat.reduceLT, or_self, or_false, false_or, or_true, true_or, and_self, and_true, true_and, and_false, false_and, not_true_eq_false, not_false_eq_true, hct, h1, h2, g, g']
          · have g' := Int32.not_le.mp g
            simp (config := {maxSteps := 1000000}) (disch := first | omega | assumption | (simp only [qm_wid_n, qm_wid_I, qm_wid_L, qm_wid_P]; omega) | (simp only [qm_wid_n, qm_wid_I, qm_wid_L, qm_wid_P]; done) | fail) only [b_M_sure_5, b_M_sure_6, b_M_sure_7, qy0, qy1, qy2, qy3, qe, qcn, qin, ↓reduceIte, Nat.reduceEqDiff, Nat.reduceLeDiff, Bool.false_eq_true, Nat.reduceAdd, Nat.reduceSub, Nat.reduceMul, Nat.reduceLT, or_self, or_false, false_or, or_true, true_or, and_self, and_true, true_and, and_false, false_and, not_true_eq_false, not_false_eq_true, hct, h1, h2, g, g']
        · have hq0 : q ≠ 0 := by omega
          rw [if_neg hq0]
          by_cases g : L (8 * c + z) ≤ nI 200
          · have g' := Int32.not_lt.mpr g
            simp (config := {maxSteps := 1000000}) (disch := first | omega | assumption | (simp only [qm_wid_n, qm_wid_I, qm_wid_L, qm_wid_P]; omega) | (simp only [qm_wid_n, qm_wid_I, qm_wid_L, qm_wid_P]; done) | fail) only [b_M_sure_5, b_M_sure_6, b_M_sure_7, qy0, qy1, qy2, qy3, qe, qcn, qin, ↓reduceIte, Nat.reduceEqDiff, Nat.reduceLeDiff, Bool.false_eq_true, Nat.reduceAdd, Nat.reduceSub, Nat.reduceMul, Nat.reduceLT, or_self, or_false, false_or, or_true, true_or, and_self, and_true, true_and, and_false, false_and, not_true_eq_false, not_false_eq_true, hct, h1, h2, g, g']
          · have g' := Int32.not_le.mp g
            simp (config := {maxSteps := 1000000}) (disch := first | omega | assumption | (simp only [qm_wid_n, qm_wid_I, qm_wid_L, qm_wid_P]; omega) | (simp only [qm_wid_n, qm_wid_I, qm_wid_L, qm_wid_P]; done) | fail) only [b_M_sure_5, b_M_sure_6, b_M_sure_7, qy0, qy1, qy2, qy3, qe, qcn, qin, ↓reduceIte, Nat.reduceEqDiff, Nat.reduceLeDiff, Bool.false_eq_true, Nat.reduceAdd, Nat.reduceSub, Nat.reduceMul, Nat.reduceLT, or_self, or_false, false_or, or_true, true_or, and_self, and_true, true_and, and_false, false_and, not_true_eq_false, not_false_eq_true, hct, h1, h2, g, g']
      refine ⟨s', (qI (nI (8 * c + z)), qI (G (8 * c + z) - L (8 * c + z))), first.trans ?_, rfl⟩
      refine (b_M_sure_8 ..).trans ?_
      unfold s3g nxg
      by_cases q1 : y 6 (8 * c + z) = N1
      · rw [q1] at hlo
        by_cases q2 : a.2.1 < G (8 * c + z) - L (8 * c + z)
        · rw [if_pos ⟨q1, q2⟩]
          simp (config := {maxSteps := 1000000}) (disch := first | omega | assumption | (simp only [qm_wid_n, qm_wid_I, qm_wid_L, qm_wid_P]; omega) | (simp only [qm_wid_n, qm_wid_I, qm_wid_L, qm_wid_P]; done) | fail) only [b_M_sure_9, b_M_sure_10, qy0, qy1, qy2, qy3, qe, qcn, qin, ↓reduceIte, Nat.reduceEqDiff, Nat.reduceLeDiff, Bool.false_eq_true, Nat.reduceAdd, Nat.reduceSub, Nat.reduceMul, Nat.reduceLT, or_self, or_false, false_or, or_true, true_or, and_self, and_true, true_and, and_false, false_and, not_true_eq_false, not_false_eq_true, hat, h1, h2, hlo, q2]
        · rw [if_neg (fun g => q2 g.2)]
          simp (config := {maxSteps := 1000000}) (disch := first | omega | assumption | (simp only [qm_wid_n, qm_wid_I, qm_wid_L, qm_wid_P]; omega) | (simp only [qm_wid_n, qm_wid_I, qm_wid_L, qm_wid_P]; done) | fail) only [b_M_sure_9, b_M_sure_10, qy0, qy1, qy2, qy3, qe, qcn, qin, ↓reduceIte, Nat.reduceEqDiff, Nat.reduceLeDiff, Bool.false_eq_true, Nat.reduceAdd, Nat.reduceSub, Nat.reduceMul, Nat.reduceLT, or_self, or_false, false_or, or_true, true_or, and_self, and_true, true_and, and_false, false_and, not_true_eq_false, not_false_eq_true, hat, h1, h2, hlo, q2]
      · rw [if_neg (fun g => q1 g.1)]
        simp (config := {maxSteps := 1000000}) (disch := first | omega | assumption | (simp only [qm_wid_n, qm_wid_I, qm_wid_L, qm_wid_P]; omega) | (simp only [qm_wid_n, qm_wid_I, qm_wid_L, qm_wid_P]; done) | fail) only [b_M_sure_9, b_M_sure_10, qy0, qy1, qy2, qy3, qe, qcn, qin, ↓reduceIte, Nat.reduceEqDiff, Nat.reduceLeDiff, Bool.false_eq_true, Nat.reduceAdd, Nat.reduceSub, Nat.reduceMul, Nat.reduceLT, or_self, or_false, false_or, or_true, true_or, and_self, and_true, true_and, and_false, false_and, not_true_eq_false, not_false_eq_true, hat, h1, h2, hlo, q1]) (fun c a s' v hc hs => by
      subst hs
      have h8 := OK_n ok hc
      have hct := r_count d hP ok hb (by decide) hc
      refine ⟨s', (qI (nI (cn y c)), v.1, v.2), ?_, rfl⟩
      refine (b_M_sure_4 ..).trans ?_
      simp (config := {maxSteps := 1000000}) (disch := first | omega | assumption | (simp only [qm_wid_n, qm_wid_I, qm_wid_L, qm_wid_P]; omega) | (simp only [qm_wid_n, qm_wid_I, qm_wid_L, qm_wid_P]; done) | fail) only [b_M_sure_11, qy0, qy1, qy2, qy3, qe, qcn, qin, ↓reduceIte, Nat.reduceEqDiff, Nat.reduceLeDiff, Bool.false_eq_true, Nat.reduceAdd, Nat.reduceSub, Nat.reduceMul, Nat.reduceLT, or_self, or_false, false_or, or_true, true_or, and_self, and_true, true_and, and_false, false_and, not_true_eq_false, not_false_eq_true, hct]) (nI 0, nI 0, N1) x (qU, qU, qU) rfl
  have p1 : (l3 (cn y) (fun _ (a : s3) => a) (s3g y L G q) (fun _ a => a) w (nI 0, nI 0, N1)).1 = cnt (suf L G q) y w := l3_map (fun a : s3 => a.1) (fun c z a => rfl) _ w
  have p2 : (l3 (cn y) (fun _ (a : s3) => a) (s3g y L G q) (fun _ a => a) w (nI 0, nI 0, N1)).2 = nxt y L G w := l3_map (fun a : s3 => a.2) (fun c z a => rfl) _ w
  refine e.trans ?_
  rw [p1, p2]
  rcases hq with rfl | rfl | rfl
  · simp (config := {maxSteps := 1000000}) (disch := first | omega | assumption | (simp only [qm_wid_n, qm_wid_I, qm_wid_L, qm_wid_P]; omega) | (simp only [qm_wid_n, qm_wid_I, qm_wid_L, qm_wid_P]; done) | fail) only [b_M_sure_3, b_M_sure_12, b_M_sure_13, b_M_sure_14, qy0, qy1, qy2, qy3, qe, qcn, qin, ↓reduceIte, Nat.reduceEqDiff, Nat.reduceLeDiff, Bool.false_eq_true, Nat.reduceAdd, Nat.reduceSub, Nat.reduceMul, Nat.reduceLT, or_self, or_false, false_or, or_true, true_or, and_self, and_true, true_and, and_false, false_and, not_true_eq_false, not_false_eq_true, hww]
  · simp (config := {maxSteps := 1000000}) (disch := first | omega | assumption | (simp only [qm_wid_n, qm_wid_I, qm_wid_L, qm_wid_P]; omega) | (simp only [qm_wid_n, qm_wid_I, qm_wid_L, qm_wid_P]; done) | fail) only [b_M_sure_3, b_M_sure_12, b_M_sure_13, b_M_sure_14, qy0, qy1, qy2, qy3, qe, qcn, qin, ↓reduceIte, Nat.reduceEqDiff, Nat.reduceLeDiff, Bool.false_eq_true, Nat.reduceAdd, Nat.reduceSub, Nat.reduceMul, Nat.reduceLT, or_self, or_false, false_or, or_true, true_or, and_self, and_true, true_and, and_false, false_and, not_true_eq_false, not_false_eq_true, hww]
  · simp (config := {maxSteps := 1000000}) (disch := first | omega | assumption | (simp only [qm_wid_n, qm_wid_I, qm_wid_L, qm_wid_P]; omega) | (simp only [qm_wid_n, qm_wid_I, qm_wid_L, qm_wid_P]; done) | fail) only [b_M_sure_3, b_M_sure_12, b_M_sure_13, b_M_sure_14, qy0, qy1, qy2, qy3, qe, qcn, qin, ↓reduceIte, Nat.reduceEqDiff, Nat.reduceLeDiff, Bool.false_eq_true, Nat.reduceAdd, Nat.reduceSub, Nat.reduceMul, Nat.reduceLT, or_self, or_false, false_or, or_true, true_or, and_self, and_true, true_and, and_false, false_and, not_true_eq_false, not_false_eq_true, hww]
theorem c_sure_s (d : Nat) {s x : qm_Hp} {n : Int32} {q : Nat} (hq : q = 0 ∨ q = 1) (hct : qm_evM (d + 39) jC_canTry [qP 1 0, qI n] s = some (some (qI (nI 1)), s)) (ht : qm_evM (d + 39) jC_trySpans [qP 1 0, qI n] s = some (none, x)) : qm_evM (d + 40) jC_sure [qP 1 0, qI n, qI (nI q)] s = qm_evB (d + 40) jC_sure 3 [qP 1 0, qI n, qI (nI q), qU, qU, qU, qU] [] x := by
  rcases hq with rfl | rfl
  · simp (config := {maxSteps := 1000000}) (disch := first | omega | assumption | (simp only [qm_wid_n, qm_wid_I, qm_wid_L, qm_wid_P]; omega) | (simp only [qm_wid_n, qm_wid_I, qm_wid_L, qm_wid_P]; done) | fail) only [e_C_sure, b_C_sure_0, b_C_sure_2, qy0, qy1, qy2, qy3, qe, qcn, qin, ↓reduceIte, Nat.reduceEqDiff, Nat.reduceLeDiff, Bool.false_eq_true, Nat.reduceAdd, Nat.reduceSub, Nat.reduceMul, Nat.reduceLT, or_self, or_false, false_or, or_true, true_or, and_self, and_true, true_and, and_false, false_and, not_true_eq_false, not_false_eq_true, hct, ht, t_within]
  · simp (config := {maxSteps := 1000000}) (disch := first | omega | assumption | (simp only [qm_wid_n, qm_wid_I, qm_wid_L, qm_wid_P]; omega) | (simp only [qm_wid_n, qm_wid_I, qm_wid_L, qm_wid_P]; done) | fail) only [e_C_sure, b_C_sure_0, b_C_sure_2, qy0, qy1, qy2, qy3, qe, qcn, qin, ↓reduceIte, Nat.reduceEqDiff, Nat.reduceLeDiff, Bool.false_eq_true, Nat.reduceAdd, Nat.reduceSub, Nat.reduceMul, Nat.reduceLT, or_self, or_false, false_or, or_true, true_or, and_self, and_true, true_and, and_false, false_and, not_true_eq_false, not_false_eq_true, hct, ht, t_within]
theorem c_sure_2 (d : Nat) {s x : qm_Hp} {n r : Int32} (hct : qm_evM (d + 39) jC_canTry [qP 1 0, qI n] s = some (some (qI (nI 1)), s)) (ht : qm_evM (d + 39) jC_trySpans [qP 1 0, qI n] s = some (none, x)) (hn : qm_evM (d + 39) jC_nextToMeasure [qP 1 0] x = some (some (qI r), x)) : qm_evM (d + 40) jC_sure [qP 1 0, qI n, qI (nI 2)] s = some (some (qI r), x) := by
  simp (config := {maxSteps := 1000000}) (disch := first | omega | assumption | (simp only [qm_wid_n, qm_wid_I, qm_wid_L, qm_wid_P]; omega) | (simp only [qm_wid_n, qm_wid_I, qm_wid_L, qm_wid_P]; done) | fail) only [e_C_sure, b_C_sure_0, b_C_sure_2, qy0, qy1, qy2, qy3, qe, qcn, qin, ↓reduceIte, Nat.reduceEqDiff, Nat.reduceLeDiff, Bool.false_eq_true, Nat.reduceAdd, Nat.reduceSub, Nat.reduceMul, Nat.reduceLT, or_self, or_false, false_or, or_true, true_or, and_self, and_true, true_and, and_false, false_and, not_true_eq_false, not_false_eq_true, hct, ht, hn, t_within]
theorem c_sure_n (d : Nat) {s : qm_Hp} {n e : Int32} (h : ¬ (nI 0 ≤ e ∧ e ≤ nI 2) ∨ qm_evM (d + 39) jC_canTry [qP 1 0, qI n] s = some (some (qI (nI 0)), s)) : qm_evM (d + 40) jC_sure [qP 1 0, qI n, qI e] s = some (some (qI N1), s) := by
  by_cases he : nI 0 ≤ e ∧ e ≤ nI 2
  · have hp := h.resolve_left (fun g => g he)
    simp (config := {maxSteps := 1000000}) (disch := first | omega | assumption | (simp only [qm_wid_n, qm_wid_I, qm_wid_L, qm_wid_P]; omega) | (simp only [qm_wid_n, qm_wid_I, qm_wid_L, qm_wid_P]; done) | fail) only [e_C_sure, b_C_sure_0, b_C_sure_1, qy0, qy1, qy2, qy3, qe, qcn, qin, ↓reduceIte, Nat.reduceEqDiff, Nat.reduceLeDiff, Bool.false_eq_true, Nat.reduceAdd, Nat.reduceSub, Nat.reduceMul, Nat.reduceLT, or_self, or_false, false_or, or_true, true_or, and_self, and_true, true_and, and_false, false_and, not_true_eq_false, not_false_eq_true, t_within, he, hp]
  · simp (config := {maxSteps := 1000000}) (disch := first | omega | assumption | (simp only [qm_wid_n, qm_wid_I, qm_wid_L, qm_wid_P]; omega) | (simp only [qm_wid_n, qm_wid_I, qm_wid_L, qm_wid_P]; done) | fail) only [e_C_sure, b_C_sure_0, b_C_sure_1, qy0, qy1, qy2, qy3, qe, qcn, qin, ↓reduceIte, Nat.reduceEqDiff, Nat.reduceLeDiff, Bool.false_eq_true, Nat.reduceAdd, Nat.reduceSub, Nat.reduceMul, Nat.reduceLT, or_self, or_false, false_or, or_true, true_or, and_self, and_true, true_and, and_false, false_and, not_true_eq_false, not_false_eq_true, t_within, he]
theorem r_sure_s (d : Nat) {s x1 x : qm_Hp} {n : Int32} {q : Nat} (hq : q ≤ 2) (hct : qm_evM (d + 39) jM_isTried [qP 9 0, qI n, qI (nI 40)] s = some (some (qI (nI 1)), s)) (ht : qm_evM (d + 39) jM_tryEnds [qP 9 0, qI n, qI (nI 0), qP 74 0] s = some (none, x1)) (ht2 : qm_evM (d + 39) jM_tryEnds [qP 9 0, qI n, qI (nI 1), qP 75 0] x1 = some (none, x)) : qm_evM (d + 40) jM_sure [qP 9 0, qI n, qI (nI q)] s = qm_evB (d + 40) jM_sure 3 [qP 9 0, qI n, qI (nI q), qI (nI 0), qI N1, qI (nI 0), qI (nI 0), qU, qU, qU] [] x := by
  simp (config := {maxSteps := 1000000}) (disch := first | omega | assumption | (simp only [qm_wid_n, qm_wid_I, qm_wid_L, qm_wid_P]; omega) | (simp only [qm_wid_n, qm_wid_I, qm_wid_L, qm_wid_P]; done) | fail) only [e_M_sure, b_M_sure_0, b_M_sure_2, qy0, qy1, qy2, qy3, qe, qcn, qin, ↓reduceIte, Nat.reduceEqDiff, Nat.reduceLeDiff, Bool.false_eq_true, Nat.reduceAdd, Nat.reduceSub, Nat.reduceMul, Nat.reduceLT, or_self, or_false, false_or, or_true, true_or, and_self, and_true, true_and, and_false, false_and, not_true_eq_false, not_false_eq_true, hct, ht, ht2, t_isIn]
theorem r_sure_n (d : Nat) {s : qm_Hp} {n e : Int32} {rv : Nat} (r0 : rv = 0 ∨ rv = 1) (hct : qm_evM (d + 39) jM_isTried [qP 9 0, qI n, qI (nI 40)] s = some (some (qI (nI rv)), s)) (h : rv = 0 ∨ ¬ (nI 0 ≤ e ∧ e ≤ nI 2)) : qm_evM (d + 40) jM_sure [qP 9 0, qI n, qI e] s = some (some (qI N1), s) := by
  rcases r0 with rfl | rfl
  · simp (config := {maxSteps := 1000000}) (disch := first | omega | assumption | (simp only [qm_wid_n, qm_wid_I, qm_wid_L, qm_wid_P]; omega) | (simp only [qm_wid_n, qm_wid_I, qm_wid_L, qm_wid_P]; done) | fail) only [e_M_sure, b_M_sure_0, b_M_sure_1, qy0, qy1, qy2, qy3, qe, qcn, qin, ↓reduceIte, Nat.reduceEqDiff, Nat.reduceLeDiff, Bool.false_eq_true, Nat.reduceAdd, Nat.reduceSub, Nat.reduceMul, Nat.reduceLT, or_self, or_false, false_or, or_true, true_or, and_self, and_true, true_and, and_false, false_and, not_true_eq_false, not_false_eq_true, hct]
  · have he := h.resolve_left (by decide)
    simp (config := {maxSteps := 1000000}) (disch := first | omega | assumption | (simp only [qm_wid_n, qm_wid_I, qm_wid_L, qm_wid_P]; omega) | (simp only [qm_wid_n, qm_wid_I, qm_wid_L, qm_wid_P]; done) | fail) only [e_M_sure, b_M_sure_0, b_M_sure_1, qy0, qy1, qy2, qy3, qe, qcn, qin, ↓reduceIte, Nat.reduceEqDiff, Nat.reduceLeDiff, Bool.false_eq_true, Nat.reduceAdd, Nat.reduceSub, Nat.reduceMul, Nat.reduceLT, or_self, or_false, false_or, or_true, true_or, and_self, and_true, true_and, and_false, false_and, not_true_eq_false, not_false_eq_true, hct, t_isIn, he]
theorem st_sure (d : Nat) (n e : Int32) : STP (d + 40) jC_sure jM_sure [qI n, qI e] := by
  refine stp_rw fun s w y k tp fd fa pl T hC hM ok => ?_
  have okp := ok.1.1
  have hw6 := okp.1.2
  obtain ⟨nw, _, hnw, enw⟩ := ok.1.2.1
  obtain ⟨wk, _, hwk, ewk⟩ := okp.2.1.1
  have h5 : zI s 2 0 5 = nI nw := hC.1.2.1.1.trans enw
  have h8 : zI s 3 0 8 = nI wk := hC.1.1.2.1.1.trans ewk
  have m1 : ∀ s1, RM s1 w y k tp fd fa pl T → zI s1 61 0 1 = nI nw := fun s1 g => g.2.1.2.1.1.trans enw
  have m0 : ∀ s1, RM s1 w y k tp fd fa pl T → zI s1 61 0 0 = nI wk := fun s1 g => g.2.1.1.2.1.1.trans ewk
  rcases cpt_d nw wk n with ⟨m, rfl, hm, q1, q2⟩ | hq
  · have hct := t_canTry_y (d + 38) h5 h8 hnw hm q1 q2
    have mt : ∀ s1, RM s1 w y k tp fd fa pl T → _ := fun s1 g => r_isTried_y (d + 38) (s := s1) (M := 40) (m1 s1 g) (m0 s1 g) hnw (by decide) hm q1 q2
    by_cases he : nI 0 ≤ e ∧ e ≤ nI 2
    · obtain ⟨q, _, hq, rfl⟩ := inr_rg (by decide) he.1 he.2 (by decide)
      obtain ⟨x, g1, g2, g3, g4⟩ := c_trySpans (d + 32) ok hC ewk q2 hm
      have hl : ∀ c z, c < w → z < cn y c → qm_evM (d + 38) jC_lesser [qP 1 0, qI (nI (8 * c + z))] x = _ := fun c z hc hz => c_lesser (d + 38) (by have := OK_n okp hc; omega) (g4 c z hc hz).1 (g4 c z hc hz).2
      have hg : ∀ c z, c < w → z < cn y c → qm_evM (d + 38) jC_greater [qP 1 0, qI (nI (8 * c + z))] x = _ := fun c z hc hz => c_greater (d + 38) (by have := OK_n okp hc; omega) (g4 c z hc hz).1 (g4 c z hc hz).2
      have hl' : ∀ c z, c < w → z < cn y c → qm_evM (d + 39) jC_lesser [qP 1 0, qI (nI (8 * c + z))] x = _ := fun c z hc hz => c_lesser (d + 39) (by have := OK_n okp hc; omega) (g4 c z hc hz).1 (g4 c z hc hz).2
      have hg' : ∀ c z, c < w → z < cn y c → qm_evM (d + 39) jC_greater [qP 1 0, qI (nI (8 * c + z))] x = _ := fun c z hc hz => c_greater (d + 39) (by have := OK_n okp hc; omega) (g4 c z hc hz).1 (g4 c z hc hz).2
      refine ⟨if q = 2 then (nxt y (fun j => mnI (spq (rul T y) w y m 0 j) (spq (rul T y) w y m 1 j)) (fun j => mxI (spq (rul T y) w y m 0 j) (spq (rul T y) w y m 1 j)) w).2 else cnt (suf (fun j => mnI (spq (rul T y) w y m 0 j) (spq (rul T y) w y m 1 j)) (fun j => mxI (spq (rul T y) w y m 0 j) (spq (rul T y) w y m 1 j)) q) y w, y, k, tp, fd, fa, pl, T, ok, ⟨x, ?_, P23_CP g3, g2⟩, fun s1 h1 => ?_⟩
      · by_cases h2 : q = 2
        · subst h2
          rw [if_pos rfl]
          exact c_sure_2 d hct g1 (c_next (d + 38) _ _ g2.1.1 okp hl hg)
        · rw [if_neg h2]
          exact (c_sure_s d (by omega) hct g1).trans (c_sureN (d + 39) _ _ (by omega) g2.1.1 okp hl' hg')
      · obtain ⟨x1, x2, e1, e2, e3, e4, e5⟩ := r_ends (d + 30) ok h1 ewk q2 hm
        refine ⟨x2, (r_sure_s d hq (mt s1 h1) e1 e2).trans (r_sureN (d + 39) _ _ (by omega) e3.2.1.1 okp e3.1.1 (fun c z hc hz => ?_) (fun c z hc hz => ?_)), e4, e3⟩
        · exact r_lesser (d + 39) (by have := OK_n okp hc; omega) (e5 c z hc hz).1 (e5 c z hc hz).2
        · exact r_greater (d + 39) (by have := OK_n okp hc; omega) (e5 c z hc hz).1 (e5 c z hc hz).2
    · exact nochg ok hC N1 (c_sure_n d (Or.inl he)) (fun s1 h1 => r_sure_n d (Or.inr rfl) (mt s1 h1) (Or.inr he))
  · have hct := t_canTry_n (d + 38) h5 h8 hnw hwk hq
    have mt : ∀ s1, RM s1 w y k tp fd fa pl T → _ := fun s1 g => r_isTried_n (d + 38) (s := s1) (M := 40) (m1 s1 g) (m0 s1 g) hnw hwk (by decide) hq
    exact nochg ok hC N1 (c_sure_n d (Or.inr hct)) (fun s1 h1 => r_sure_n d (Or.inl rfl) (mt s1 h1) (Or.inl rfl))
