/-! the class's reader: parts of a clause, whole -/
theorem ro_num (D : Nat) {x x1 : qm_Hp} {o : Nat} (h : qm_evM D jR_token [qP 6 0] x = some (some (qI (nI 40)), x)) (g : qm_evM D jR_readTold [qP 6 0, qI (nI 0), qI (nI 9999)] x = some (none, x1)) : qm_evM (D + 1) jR_readOne [qP 6 0, qI (nI o)] x = some (none, x1) := by
  simp (config := {maxSteps := 1000000}) (disch := first | omega | assumption | (simp only [qm_wid_n, qm_wid_I, qm_wid_L, qm_wid_P]; omega) | (simp only [qm_wid_n, qm_wid_I, qm_wid_L, qm_wid_P]; done) | fail) only [e_R_readOne, b_R_readOne_0, b_R_readOne_7, qy0, qy1, qy2, qy3, qe, qcn, qin, ↓reduceIte, Nat.reduceEqDiff, Nat.reduceLeDiff, Bool.false_eq_true, Nat.reduceAdd, Nat.reduceSub, Nat.reduceMul, Nat.reduceLT, or_self, or_false, false_or, or_true, true_or, and_self, and_true, true_and, and_false, false_and, not_true_eq_false, not_false_eq_true, h, g]
theorem ro_name (D : Nat) {x x1 : qm_Hp} {o v : Nat} (hv : v < 17) (h : qm_evM D jR_token [qP 6 0] x = some (some (qI (nI v)), x)) (g : qm_evM D jR_readName [qP 6 0, qI (nI v)] x = some (none, x1)) : qm_evM (D + 1) jR_readOne [qP 6 0, qI (nI o)] x = some (none, x1) := by
  simp (config := {maxSteps := 1000000}) (disch := first | omega | assumption | (simp only [qm_wid_n, qm_wid_I, qm_wid_L, qm_wid_P]; omega) | (simp only [qm_wid_n, qm_wid_I, qm_wid_L, qm_wid_P]; done) | fail) only [e_R_readOne, b_R_readOne_0, b_R_readOne_1, b_R_readOne_7, qy0, qy1, qy2, qy3, qe, qcn, qin, ↓reduceIte, Nat.reduceEqDiff, Nat.reduceLeDiff, Bool.false_eq_true, Nat.reduceAdd, Nat.reduceSub, Nat.reduceMul, Nat.reduceLT, or_self, or_false, false_or, or_true, true_or, and_self, and_true, true_and, and_false, false_and, not_true_eq_false, not_false_eq_true, h, g, t_within]
theorem ro_pair (D : Nat) {x x1 : qm_Hp} {o v : Nat} (hv : v = 24 ∨ v = 25) (h : qm_evM D jR_token [qP 6 0] x = some (some (qI (nI v)), x)) (g : qm_evM D jR_readPair [qP 6 0, qI (nI v), qI (nI o)] x = some (none, x1)) : qm_evM (D + 1) jR_readOne [qP 6 0, qI (nI o)] x = some (none, x1) := by
  rcases hv with rfl | rfl
  · simp (config := {maxSteps := 1000000}) (disch := first | omega | assumption | (simp only [qm_wid_n, qm_wid_I, qm_wid_L, qm_wid_P]; omega) | (simp only [qm_wid_n, qm_wid_I, qm_wid_L, qm_wid_P]; done) | fail) only [e_R_readOne, b_R_readOne_0, b_R_readOne_1, b_R_readOne_2, b_R_readOne_3, b_R_readOne_7, qy0, qy1, qy2, qy3, qe, qcn, qin, ↓reduceIte, Nat.reduceEqDiff, Nat.reduceLeDiff, Bool.false_eq_true, Nat.reduceAdd, Nat.reduceSub, Nat.reduceMul, Nat.reduceLT, or_self, or_false, false_or, or_true, true_or, and_self, and_true, true_and, and_false, false_and, not_true_eq_false, not_false_eq_true, h, g, t_within]
  · simp (config := {maxSteps := 1000000}) (disch := first | omega | assumption | (simp only [qm_wid_n, qm_wid_I, qm_wid_L, qm_wid_P]; omega) | (simp only [qm_wid_n, qm_wid_I, qm_wid_L, qm_wid_P]; done) | fail) only [e_R_readOne, b_R_readOne_0, b_R_readOne_1, b_R_readOne_2, b_R_readOne_3, b_R_readOne_7, qy0, qy1, qy2, qy3, qe, qcn, qin, ↓reduceIte, Nat.reduceEqDiff, Nat.reduceLeDiff, Bool.false_eq_true, Nat.reduceAdd, Nat.reduceSub, Nat.reduceMul, Nat.reduceLT, or_self, or_false, false_or, or_true, true_or, and_self, and_true, true_and, and_false, false_and, not_true_eq_false, not_false_eq_true, h, g, t_within]
theorem ro_par (D : Nat) {x x1 x2 x3 : qm_Hp} {o : Nat} (h : qm_evM D jR_token [qP 6 0] x = some (some (qI (nI 53)), x)) (g1 : qm_evM D jR_opens [qP 6 0, qI (nI o)] x = some (some (qI (nI 1)), x1)) (g2 : qm_evM D jR_readPart [qP 6 0, qI (nI 3), qI (nI (o + 1))] x1 = some (none, x2)) (g3 : qm_evM D jR_expect [qP 6 0, qI (nI 54)] x2 = some (none, x3)) : qm_evM (D + 1) jR_readOne [qP 6 0, qI (nI o)] x = some (none, x3) := by
  simp (config := {maxSteps := 1000000}) (disch := first | omega | assumption | (simp only [qm_wid_n, qm_wid_I, qm_wid_L, qm_wid_P]; omega) | (simp only [qm_wid_n, qm_wid_I, qm_wid_L, qm_wid_P]; done) | fail) only [e_R_readOne, b_R_readOne_0, b_R_readOne_1, b_R_readOne_2, b_R_readOne_4, b_R_readOne_7, qy0, qy1, qy2, qy3, qe, qcn, qin, ↓reduceIte, Nat.reduceEqDiff, Nat.reduceLeDiff, Bool.false_eq_true, Nat.reduceAdd, Nat.reduceSub, Nat.reduceMul, Nat.reduceLT, or_self, or_false, false_or, or_true, true_or, and_self, and_true, true_and, and_false, false_and, not_true_eq_false, not_false_eq_true, h, g1, g2, g3, t_within]
theorem ro_parn (D : Nat) {x x1 : qm_Hp} {o : Nat} (h : qm_evM D jR_token [qP 6 0] x = some (some (qI (nI 53)), x)) (g1 : qm_evM D jR_opens [qP 6 0, qI (nI o)] x = some (some (qI (nI 0)), x1)) : qm_evM (D + 1) jR_readOne [qP 6 0, qI (nI o)] x = some (none, x1) := by
  simp (config := {maxSteps := 1000000}) (disch := first | omega | assumption | (simp only [qm_wid_n, qm_wid_I, qm_wid_L, qm_wid_P]; omega) | (simp only [qm_wid_n, qm_wid_I, qm_wid_L, qm_wid_P]; done) | fail) only [e_R_readOne, b_R_readOne_0, b_R_readOne_1, b_R_readOne_2, b_R_readOne_4, b_R_readOne_7, qy0, qy1, qy2, qy3, qe, qcn, qin, ↓reduceIte, Nat.reduceEqDiff, Nat.reduceLeDiff, Bool.false_eq_true, Nat.reduceAdd, Nat.reduceSub, Nat.reduceMul, Nat.reduceLT, or_self, or_false, false_or, or_true, true_or, and_self, and_true, true_and, and_false, false_and, not_true_eq_false, not_false_eq_true, h, g1, t_within]
theorem ro_min (D : Nat) {x x1 x2 x3 : qm_Hp} {o : Nat} (h : qm_evM D jR_token [qP 6 0] x = some (some (qI (nI 50)), x)) (g1 : qm_evM D jR_opens [qP 6 0, qI (nI o)] x = some (some (qI (nI 1)), x1)) (g2 : qm_evM D jR_readPart [qP 6 0, qI (nI 5), qI (nI (o + 1))] x1 = some (none, x2)) (g3 : qm_evM D jR_emit [qP 6 0, qI (nI 20057)] x2 = some (none, x3)) : qm_evM (D + 1) jR_readOne [qP 6 0, qI (nI o)] x = some (none, x3) := by
  simp (config := {maxSteps := 1000000}) (disch := first | omega | assumption | (simp only [qm_wid_n, qm_wid_I, qm_wid_L, qm_wid_P]; omega) | (simp only [qm_wid_n, qm_wid_I, qm_wid_L, qm_wid_P]; done) | fail) only [e_R_readOne, b_R_readOne_0, b_R_readOne_1, b_R_readOne_2, b_R_readOne_4, b_R_readOne_5, b_R_readOne_7, qy0, qy1, qy2, qy3, qe, qcn, qin, ↓reduceIte, Nat.reduceEqDiff, Nat.reduceLeDiff, Bool.false_eq_true, Nat.reduceAdd, Nat.reduceSub, Nat.reduceMul, Nat.reduceLT, or_self, or_false, false_or, or_true, true_or, and_self, and_true, true_and, and_false, false_and, not_true_eq_false, not_false_eq_true, h, g1, g2, g3, t_within]
theorem ro_minn (D : Nat) {x x1 : qm_Hp} {o : Nat} (h : qm_evM D jR_token [qP 6 0] x = some (some (qI (nI 50)), x)) (g1 : qm_evM D jR_opens [qP 6 0, qI (nI o)] x = some (some (qI (nI 0)), x1)) : qm_evM (D + 1) jR_readOne [qP 6 0, qI (nI o)] x = some (none, x1) := by
  simp (config := {maxSteps := 1000000}) (disch := first | omega | assumption | (simp only [qm_wid_n, qm_wid_I, qm_wid_L, qm_wid_P]; omega) | (simp only [qm_wid_n, qm_wid_I, qm_wid_L, qm_wid_P]; done) | fail) only [e_R_readOne, b_R_readOne_0, b_R_readOne_1, b_R_readOne_2, b_R_readOne_4, b_R_readOne_5, b_R_readOne_7, qy0, qy1, qy2, qy3, qe, qcn, qin, ↓reduceIte, Nat.reduceEqDiff, Nat.reduceLeDiff, Bool.false_eq_true, Nat.reduceAdd, Nat.reduceSub, Nat.reduceMul, Nat.reduceLT, or_self, or_false, false_or, or_true, true_or, and_self, and_true, true_and, and_false, false_and, not_true_eq_false, not_false_eq_true, h, g1, t_within]
theorem ro_else (D : Nat) {x x1 : qm_Hp} {o v : Nat} (hb : v < 100) (h1 : v ≠ 40) (h2 : ¬ v < 17) (h3 : ¬ (v = 24 ∨ v = 25)) (h4 : v ≠ 53) (h5 : v ≠ 50) (h : qm_evM D jR_token [qP 6 0] x = some (some (qI (nI v)), x)) (g : qm_evM D jR_fail [qP 6 0, qI (nI 1)] x = some (none, x1)) : qm_evM (D + 1) jR_readOne [qP 6 0, qI (nI o)] x = some (none, x1) := by
  simp (config := {maxSteps := 1000000}) (disch := first | omega | assumption | (simp only [qm_wid_n, qm_wid_I, qm_wid_L, qm_wid_P]; omega) | (simp only [qm_wid_n, qm_wid_I, qm_wid_L, qm_wid_P]; done) | fail) only [e_R_readOne, b_R_readOne_0, b_R_readOne_1, b_R_readOne_2, b_R_readOne_3, b_R_readOne_4, b_R_readOne_5, b_R_readOne_6, b_R_readOne_7, qy0, qy1, qy2, qy3, qe, qcn, qin, ↓reduceIte, Nat.reduceEqDiff, Nat.reduceLeDiff, Bool.false_eq_true, Nat.reduceAdd, Nat.reduceSub, Nat.reduceMul, Nat.reduceLT, or_self, or_false, false_or, or_true, true_or, and_self, and_true, true_and, and_false, false_and, not_true_eq_false, not_false_eq_true, h, g, t_within]
theorem rn_y (D : Nat) {x x1 x2 : qm_Hp} {v : Nat} (h : qm_evM D jR_isNameOfClause [qP 6 0, qI (nI v)] x = some (some (qI (nI 1)), x)) (he : qm_evM D jR_emit [qP 6 0, qI (nI (10000 + v))] x = some (none, x1)) (hs : qm_evM D jR_step [qP 6 0] x1 = some (none, x2)) : qm_evM (D + 1) jR_readName [qP 6 0, qI (nI v)] x = some (none, x2) := by
  simp (config := {maxSteps := 1000000}) (disch := first | omega | assumption | (simp only [qm_wid_n, qm_wid_I, qm_wid_L, qm_wid_P]; omega) | (simp only [qm_wid_n, qm_wid_I, qm_wid_L, qm_wid_P]; done) | fail) only [e_R_readName, b_R_readName_0, b_R_readName_1, b_R_readName_2, qy0, qy1, qy2, qy3, qe, qcn, qin, ↓reduceIte, Nat.reduceEqDiff, Nat.reduceLeDiff, Bool.false_eq_true, Nat.reduceAdd, Nat.reduceSub, Nat.reduceMul, Nat.reduceLT, or_self, or_false, false_or, or_true, true_or, and_self, and_true, true_and, and_false, false_and, not_true_eq_false, not_false_eq_true, h, he, hs]
theorem rn_n (D : Nat) {x x1 : qm_Hp} {v : Nat} (h : qm_evM D jR_isNameOfClause [qP 6 0, qI (nI v)] x = some (some (qI (nI 0)), x)) (he : qm_evM D jR_fail [qP 6 0, qI (nI 5)] x = some (none, x1)) : qm_evM (D + 1) jR_readName [qP 6 0, qI (nI v)] x = some (none, x1) := by
  simp (config := {maxSteps := 1000000}) (disch := first | omega | assumption | (simp only [qm_wid_n, qm_wid_I, qm_wid_L, qm_wid_P]; omega) | (simp only [qm_wid_n, qm_wid_I, qm_wid_L, qm_wid_P]; done) | fail) only [e_R_readName, b_R_readName_0, b_R_readName_1, b_R_readName_2, qy0, qy1, qy2, qy3, qe, qcn, qin, ↓reduceIte, Nat.reduceEqDiff, Nat.reduceLeDiff, Bool.false_eq_true, Nat.reduceAdd, Nat.reduceSub, Nat.reduceMul, Nat.reduceLT, or_self, or_false, false_or, or_true, true_or, and_self, and_true, true_and, and_false, false_and, not_true_eq_false, not_false_eq_true, h, he]
theorem rr_1 (D : Nat) {x x1 x2 : qm_Hp} {v o t : Nat} (ht : t < 100) (hne : t ≠ 53) (hs : qm_evM D jR_step [qP 6 0] x = some (none, x1)) (h : qm_evM D jR_token [qP 6 0] x1 = some (some (qI (nI t)), x1)) (hf : qm_evM D jR_fail [qP 6 0, qI (nI 1)] x1 = some (none, x2)) : qm_evM (D + 1) jR_readPair [qP 6 0, qI (nI v), qI (nI o)] x = some (none, x2) := by
  simp (config := {maxSteps := 1000000}) (disch := first | omega | assumption | (simp only [qm_wid_n, qm_wid_I, qm_wid_L, qm_wid_P]; omega) | (simp only [qm_wid_n, qm_wid_I, qm_wid_L, qm_wid_P]; done) | fail) only [e_R_readPair, b_R_readPair_0, b_R_readPair_1, b_R_readPair_2, qy0, qy1, qy2, qy3, qe, qcn, qin, ↓reduceIte, Nat.reduceEqDiff, Nat.reduceLeDiff, Bool.false_eq_true, Nat.reduceAdd, Nat.reduceSub, Nat.reduceMul, Nat.reduceLT, or_self, or_false, false_or, or_true, true_or, and_self, and_true, true_and, and_false, false_and, not_true_eq_false, not_false_eq_true, hs, h, hf]
theorem rr_0 (D : Nat) {x x1 x2 : qm_Hp} {v o : Nat} (hs : qm_evM D jR_step [qP 6 0] x = some (none, x1)) (h : qm_evM D jR_token [qP 6 0] x1 = some (some (qI (nI 53)), x1)) (hf : qm_evM D jR_opens [qP 6 0, qI (nI o)] x1 = some (some (qI (nI 0)), x2)) : qm_evM (D + 1) jR_readPair [qP 6 0, qI (nI v), qI (nI o)] x = some (none, x2) := by
  simp (config := {maxSteps := 1000000}) (disch := first | omega | assumption | (simp only [qm_wid_n, qm_wid_I, qm_wid_L, qm_wid_P]; omega) | (simp only [qm_wid_n, qm_wid_I, qm_wid_L, qm_wid_P]; done) | fail) only [e_R_readPair, b_R_readPair_0, b_R_readPair_1, b_R_readPair_2, qy0, qy1, qy2, qy3, qe, qcn, qin, ↓reduceIte, Nat.reduceEqDiff, Nat.reduceLeDiff, Bool.false_eq_true, Nat.reduceAdd, Nat.reduceSub, Nat.reduceMul, Nat.reduceLT, or_self, or_false, false_or, or_true, true_or, and_self, and_true, true_and, and_false, false_and, not_true_eq_false, not_false_eq_true, hs, h, hf]
theorem rr_y (D : Nat) {x x1 x2 x3 x4 x5 x6 x7 : qm_Hp} {v o : Nat} (hs : qm_evM D jR_step [qP 6 0] x = some (none, x1)) (h : qm_evM D jR_token [qP 6 0] x1 = some (some (qI (nI 53)), x1)) (hf : qm_evM D jR_opens [qP 6 0, qI (nI o)] x1 = some (some (qI (nI 1)), x2)) (h3 : qm_evM D jR_readPart [qP 6 0, qI (nI 3), qI (nI (o + 1))] x2 = some (none, x3)) (h4 : qm_evM D jR_expect [qP 6 0, qI (nI 55)] x3 = some (none, x4)) (h5 : qm_evM D jR_readPart [qP 6 0, qI (nI 3), qI (nI (o + 1))] x4 = some (none, x5)) (h6 : qm_evM D jR_expect [qP 6 0, qI (nI 54)] x5 = some (none, x6)) (h7 : qm_evM D jR_emit [qP 6 0, qI (nI (20000 + v))] x6 = some (none, x7)) : qm_evM (D + 1) jR_readPair [qP 6 0, qI (nI v), qI (nI o)] x = some (none, x7) := by
  simp (config := {maxSteps := 1000000}) (disch := first | omega | assumption | (simp only [qm_wid_n, qm_wid_I, qm_wid_L, qm_wid_P]; omega) | (simp only [qm_wid_n, qm_wid_I, qm_wid_L, qm_wid_P]; done) | fail) only [e_R_readPair, b_R_readPair_0, b_R_readPair_1, b_R_readPair_2, qy0, qy1, qy2, qy3, qe, qcn, qin, ↓reduceIte, Nat.reduceEqDiff, Nat.reduceLeDiff, Bool.false_eq_true, Nat.reduceAdd, Nat.reduceSub, Nat.reduceMul, Nat.reduceLT, or_self, or_false, false_or, or_true, true_or, and_self, and_true, true_and, and_false, false_and, not_true_eq_false, not_false_eq_true, hs, h, hf, h3, h4, h5, h6, h7]
def need (lv o : Nat) : Nat := 12 * (8 - o) + 2 * (6 - lv) + 6
theorem bnd_inv {r : PR} {k : Nat → List (Nat × Nat) → PR} (h : (bnd r k).1 ≠ 9) : r.1 ≠ 9 ∧ (r.1 = 0 → (k r.2.1 r.2.2).1 ≠ 9) := by
  unfold bnd at h
  by_cases q : r.1 = 0
  · rw [if_pos q] at h; exact ⟨by rw [q]; decide, fun _ => h⟩
  · rw [if_neg q] at h; exact ⟨h, fun g => absurd g q⟩
theorem bnd_0 {r : PR} {k : Nat → List (Nat × Nat) → PR} (h : r.1 = 0) : bnd r k = k r.2.1 r.2.2 := if_pos h
theorem bnd_n {r : PR} {k : Nat → List (Nat × Nat) → PR} (h : ¬ r.1 = 0) : bnd r k = r := if_neg h
theorem c_one {Tk Vl Pc : Nat → Nat} {E t cl a : Nat} (hE : Tk E = 41) (hE3 : E ≤ 300) (hT : ∀ i, i ≤ E → Tk i < 100 ∧ Vl i ≤ 10000) (hcl : 1 ≤ cl ∧ cl ≤ 20) (ha : a ≤ 5) (P : Nat → Nat → Nat → PR) (hP : ∀ lv o i u x d, (lv = 3 ∨ lv = 5) → i ≤ E → o ≤ 8 → u ≤ i → RS Tk Vl Pc E t cl a x → CI t cl x i u → (P lv o i).1 ≠ 9 → ∃ x', qm_evM (d + need lv o) jR_readPart [qP 6 0, qI (nI lv), qI (nI o)] x = some (none, x') ∧ QR Pc t cl x x' u (P lv o i)) (hG : ∀ lv o i, (lv = 3 ∨ lv = 5) → i ≤ E → o ≤ 8 → GP a E 0 lv o i (P lv o i)) (o i u : Nat) (x : qm_Hp) (d : Nat) (hi : i ≤ E) (ho : o ≤ 8) (hu : u ≤ i) (hRS : RS Tk Vl Pc E t cl a x) (hCI : CI t cl x i u) (h9 : (pOne Tk Vl a P o i).1 ≠ 9) : ∃ x', qm_evM (d + need 5 o) jR_readPart [qP 6 0, qI (nI 5), qI (nI o)] x = some (none, x') ∧ QR Pc t cl x x' u (pOne Tk Vl a P o i) := by
  have nE : ∀ i, i ≤ E → Tk i ≠ 41 → i + 1 ≤ E := fun i h1 h2 => by
    by_cases q : i = E
    · exact absurd (by rw [q]; exact hE) h2
    · omega
  have hKT := hRS.1
  obtain ⟨hat, hf0, hu5, hu34⟩ := id hCI
  have hD : d + need 5 o = d + 12 * (8 - o) + 2 + 2 + 4 := by unfold need; omega
  generalize hW : d + 12 * (8 - o) + 2 = W at hD
  rw [hD]
  have tk := c_tokenA (W + 2 + 1) hE3 hKT hat hi
  have hb := hT i hi
  unfold pOne at h9 ⊢
  by_cases t40 : Tk i = 40
  · rw [if_pos t40] at h9 ⊢
    rw [t40] at tk
    have tk1 := c_tokenA (W + 2) hE3 hKT hat hi
    rw [t40] at tk1
    have nm := c_numberA (W + 2) hE3 hKT hat hi
    have hi1 := nE i hi (by omega)
    by_cases hv : Vl i ≤ 9999
    · rw [if_pos hv]
      have em := c_emitA (W + 2) hcl (by omega : u < 300) hf0 hRS.2.1 hu5 hRS.2.2.2 (enc (0, Vl i))
      have q1 := QC_emit hCI (0, Vl i)
      have st := c_stepA (W + 2 + 1) hE3 (RS_TF q1.1 hRS).1 q1.2.1.1 q1.2.1.2.1 hi1
      exact ⟨_, rp_one _ ho hf0 (ro_num _ tk (rt_y _ tk1 nm ⟨Nat.zero_le _, hv⟩ (by decide) em st)), QR_ok (QC_tr q1 (QC_step q1.2.1))⟩
    · rw [if_neg hv]
      have fl := c_failA (W + 2) hE3 hKT hat hf0 hi 2
      exact ⟨_, rp_one _ ho hf0 (ro_num _ tk (rt_2 _ tk1 nm (by omega) ⟨by decide, by omega, by decide⟩ fl)), QR_no (by decide) (QF_fail hCI 2 (by decide))⟩
  · rw [if_neg t40] at h9 ⊢
    by_cases t17 : Tk i < 17
    · rw [if_pos t17] at h9 ⊢
      have hi1 := nE i hi (by omega)
      have isn := c_isName (W + 2 + 1) ha t17 hRS.2.2.1
      by_cases hbm : nmb a (Tk i) = true
      · rw [if_pos hbm] at isn ⊢
        have em := c_emitA (W + 2) hcl (by omega : u < 300) hf0 hRS.2.1 hu5 hRS.2.2.2 (enc (1, Tk i))
        have q1 := QC_emit hCI (1, Tk i)
        have st := c_stepA (W + 2 + 1) hE3 (RS_TF q1.1 hRS).1 q1.2.1.1 q1.2.1.2.1 hi1
        exact ⟨_, rp_one _ ho hf0 (ro_name _ t17 tk (rn_y _ isn em st)), QR_ok (QC_tr q1 (QC_step q1.2.1))⟩
      · rw [if_neg hbm] at isn ⊢
        have fl := c_failA (W + 2) hE3 hKT hat hf0 hi 5
        exact ⟨_, rp_one _ ho hf0 (ro_name _ t17 tk (rn_n _ isn fl)), QR_no (by decide) (QF_fail hCI 5 (by decide))⟩
    · rw [if_neg t17] at h9 ⊢
      by_cases tmm : Tk i = 24 ∨ Tk i = 25
      · rw [if_pos tmm] at h9 ⊢
        have hi1 := nE i hi (by omega)
        have st := c_stepA (W + 2 + 1) hE3 hKT hat hf0 hi1
        have q1 := QC_step hCI
        have hR1 := RS_TF q1.1 hRS
        have tk1 := c_tokenA (W + 2) hE3 hR1.1 q1.2.1.1 hi1
        by_cases t53 : Tk (i + 1) = 53
        · rw [if_pos t53] at h9 ⊢
          rw [t53] at tk1
          have hi2 := nE (i + 1) hi1 (by omega)
          by_cases ho8 : 8 ≤ o
          · rw [if_pos ho8]
            have op := c_opensN (W + 1) hE3 hR1.1 q1.2.1.1 q1.2.1.2.1 hi1 ho8 (by omega)
            exact ⟨_, rp_one _ ho hf0 (ro_pair _ tmm tk (rr_0 _ st tk1 op)), QR_no (by decide) (QF_tr q1 (QF_fail q1.2.1 3 (by decide)))⟩
          · rw [if_neg ho8] at h9 ⊢
            have op := c_opensY (W + 1) hE3 hR1.1 q1.2.1.1 q1.2.1.2.1 hi2 (by omega : o < 8)
            have q2 := QC_step q1.2.1
            have hR2 := RS_TF q2.1 hR1
            obtain ⟨n9, n9b⟩ := bnd_inv h9
            obtain ⟨x3, e3, r3⟩ := hP 3 (o + 1) (i + 2) u _ (d + 5) (Or.inl rfl) hi2 (by omega) (by omega) hR2 q2.2.1 n9
            rw [show d + 5 + need 3 (o + 1) = W + 2 + 1 by unfold need; omega] at e3
            by_cases q : (P 3 (o + 1) (i + 2)).1 = 0
            · have n9b := n9b q
              rw [bnd_0 q]
              have g3 := (hG 3 (o + 1) (i + 2) (Or.inl rfl) hi2 (by omega)).2 q
              have c3 := r3.1 q
              have hR3 := RS_TF c3.1 hR2
              generalize (P 3 (o + 1) (i + 2)).2.1 = j at n9b g3 c3 ⊢
              generalize (P 3 (o + 1) (i + 2)).2.2 = out at n9b g3 c3 ⊢
              have hbj := (hT j g3.2.2.1).1
              by_cases t55 : Tk j = 55
              · rw [if_pos t55] at n9b ⊢
                have hj1 := nE j g3.2.2.1 (by omega)
                have ex := c_expY (W + 1) hE3 hR3.1 c3.2.1.1 c3.2.1.2.1 hj1 55 t55
                have q4 := QC_step c3.2.1
                have hR4 := RS_TF q4.1 hR3
                obtain ⟨m9, m9b⟩ := bnd_inv n9b
                obtain ⟨x5, e5, r5⟩ := hP 3 (o + 1) (j + 1) (u + out.length) _ (d + 5) (Or.inl rfl) hj1 (by omega) (by have := g3.2.1; omega) hR4 q4.2.1 m9
                rw [show d + 5 + need 3 (o + 1) = W + 2 + 1 by unfold need; omega] at e5
                by_cases qq : (P 3 (o + 1) (j + 1)).1 = 0
                · rw [bnd_0 qq]
                  have g5 := (hG 3 (o + 1) (j + 1) (Or.inl rfl) hj1 (by omega)).2 qq
                  have c5 := r5.1 qq
                  have hR5 := RS_TF c5.1 hR4
                  generalize (P 3 (o + 1) (j + 1)).2.1 = k at g5 c5 ⊢
                  generalize (P 3 (o + 1) (j + 1)).2.2 = out2 at g5 c5 ⊢
                  have hbk := (hT k g5.2.2.1).1
                  by_cases t54 : Tk k = 54
                  · rw [if_pos t54]
                    have hk1 := nE k g5.2.2.1 (by omega)
                    have ex2 := c_expY (W + 1) hE3 hR5.1 c5.2.1.1 c5.2.1.2.1 hk1 54 t54
                    have q6 := QC_step c5.2.1
                    have hR6 := RS_TF q6.1 hR5
                    have em := c_emitA (u := u + out.length + out2.length) (W + 2) hcl (by have := g3.2.1; have := g5.2.1; have := g5.2.2.1; omega) q6.2.1.2.1 hR6.2.1 q6.2.1.2.2.1 hR6.2.2.2 (enc (opt (Tk i), 0))
                    have qz := QC_tr q1 (QC_tr q2 (QC_tr c3 (QC_tr q4 (QC_tr c5 (QC_tr q6 (QC_emit q6.2.1 (opt (Tk i), 0)))))))
                    exact ⟨_, rp_one _ ho hf0 (ro_pair _ tmm tk (rr_y _ st tk1 op e3 ex e5 ex2 (by rw [← enc_o (Or.inr (Or.inr tmm))]; exact em))), QR_ok qz⟩
                  · rw [if_neg t54]
                    have ex2 := c_expN (W + 1) hE3 hR5.1 c5.2.1.1 c5.2.1.2.1 g5.2.2.1 54 t54 ⟨hbk, by decide⟩
                    have q6 := QF_fail (Pc := Pc) c5.2.1 1 (by decide)
                    have em := c_emitF (W + 2) q6.2.2.1 q6.2.2.2.2 (nI (20000 + Tk i))
                    exact ⟨_, rp_one _ ho hf0 (ro_pair _ tmm tk (rr_y _ st tk1 op e3 ex e5 ex2 em)), QR_no (by decide) (QF_tr q1 (QF_tr q2 (QF_tr c3 (QF_tr q4 (QF_tr c5 q6)))))⟩
                · rw [bnd_n qq]
                  have f5 := r5.2 qq
                  have hk := (hG 3 (o + 1) (j + 1) (Or.inl rfl) hj1 (by omega)).1 qq
                  have hR5 := RS_TF f5.1 hR4
                  have ex2 := c_expF (W + 1) hE3 hR5.1 f5.2.1 hk f5.2.2.1 f5.2.2.2.2 54 ⟨(hT _ hk).1, by decide⟩
                  have em := c_emitF (W + 2) f5.2.2.1 f5.2.2.2.2 (nI (20000 + Tk i))
                  exact ⟨_, rp_one _ ho hf0 (ro_pair _ tmm tk (rr_y _ st tk1 op e3 ex e5 ex2 em)), fun g => absurd g qq, fun _ => QF_tr q1 (QF_tr q2 (QF_tr c3 (QF_tr q4 f5)))⟩
              · rw [if_neg t55]
                have ex := c_expN (W + 1) hE3 hR3.1 c3.2.1.1 c3.2.1.2.1 g3.2.2.1 55 t55 ⟨hbj, by decide⟩
                have q4 := QF_fail (Pc := Pc) c3.2.1 1 (by decide)
                have hR4 := RS_TF q4.1 hR3
                have e5 := rp_f (W + 2 + 1) q4.2.2.1 q4.2.2.2.2 (nI 3) (nI (o + 1))
                have ex2 := c_expF (W + 1) hE3 hR4.1 q4.2.1 g3.2.2.1 q4.2.2.1 q4.2.2.2.2 54 ⟨hbj, by decide⟩
                have em := c_emitF (W + 2) q4.2.2.1 q4.2.2.2.2 (nI (20000 + Tk i))
                exact ⟨_, rp_one _ ho hf0 (ro_pair _ tmm tk (rr_y _ st tk1 op e3 ex e5 ex2 em)), QR_no (by decide) (QF_tr q1 (QF_tr q2 (QF_tr c3 q4)))⟩
            · rw [bnd_n q]
              have f3 := r3.2 q
              have hj := (hG 3 (o + 1) (i + 2) (Or.inl rfl) hi2 (by omega)).1 q
              have hR3 := RS_TF f3.1 hR2
              have hbj := (hT _ hj).1
              have ex := c_expF (W + 1) hE3 hR3.1 f3.2.1 hj f3.2.2.1 f3.2.2.2.2 55 ⟨hbj, by decide⟩
              have e5 := rp_f (W + 2 + 1) f3.2.2.1 f3.2.2.2.2 (nI 3) (nI (o + 1))
              have ex2 := c_expF (W + 1) hE3 hR3.1 f3.2.1 hj f3.2.2.1 f3.2.2.2.2 54 ⟨hbj, by decide⟩
              have em := c_emitF (W + 2) f3.2.2.1 f3.2.2.2.2 (nI (20000 + Tk i))
              exact ⟨_, rp_one _ ho hf0 (ro_pair _ tmm tk (rr_y _ st tk1 op e3 ex e5 ex2 em)), fun g => absurd g q, fun _ => QF_tr q1 (QF_tr q2 f3)⟩
        · rw [if_neg t53]
          have fl := c_failA (W + 2) hE3 hR1.1 q1.2.1.1 q1.2.1.2.1 hi1 1
          exact ⟨_, rp_one _ ho hf0 (ro_pair _ tmm tk (rr_1 _ (hT _ hi1).1 t53 st tk1 fl)), QR_no (by decide) (QF_tr q1 (QF_fail q1.2.1 1 (by decide)))⟩
      · rw [if_neg tmm] at h9 ⊢
        by_cases t53 : Tk i = 53
        · rw [if_pos t53] at h9 ⊢
          rw [t53] at tk
          have hi1 := nE i hi (by omega)
          by_cases ho8 : 8 ≤ o
          · rw [if_pos ho8]
            have op := c_opensN (W + 2) hE3 hKT hat hf0 hi ho8 (by omega)
            exact ⟨_, rp_one _ ho hf0 (ro_parn _ tk op), QR_no (by decide) (QF_fail hCI 3 (by decide))⟩
          · rw [if_neg ho8] at h9 ⊢
            have op := c_opensY (W + 2) hE3 hKT hat hf0 hi1 (by omega : o < 8)
            have q1 := QC_step hCI
            have hR1 := RS_TF q1.1 hRS
            obtain ⟨n9, n9b⟩ := bnd_inv h9
            obtain ⟨x2, e2, r2⟩ := hP 3 (o + 1) (i + 1) u _ (d + 6) (Or.inl rfl) hi1 (by omega) (by omega) hR1 q1.2.1 n9
            rw [show d + 6 + need 3 (o + 1) = W + 2 + 1 + 1 by unfold need; omega] at e2
            by_cases q : (P 3 (o + 1) (i + 1)).1 = 0
            · rw [bnd_0 q]
              have g2 := (hG 3 (o + 1) (i + 1) (Or.inl rfl) hi1 (by omega)).2 q
              have c2 := r2.1 q
              have hR2 := RS_TF c2.1 hR1
              generalize (P 3 (o + 1) (i + 1)).2.1 = j at g2 c2 ⊢
              generalize (P 3 (o + 1) (i + 1)).2.2 = out at g2 c2 ⊢
              by_cases t54 : Tk j = 54
              · rw [if_pos t54]
                have hj1 := nE j g2.2.2.1 (by omega)
                have ex := c_expY (W + 2) hE3 hR2.1 c2.2.1.1 c2.2.1.2.1 hj1 54 t54
                have := QC_tr q1 (QC_tr c2 (QC_step c2.2.1))
                rw [List.nil_append, List.append_nil] at this
                exact ⟨_, rp_one _ ho hf0 (ro_par _ tk op e2 ex), QR_ok this⟩
              · rw [if_neg t54]
                have ex := c_expN (W + 2) hE3 hR2.1 c2.2.1.1 c2.2.1.2.1 g2.2.2.1 54 t54 ⟨(hT _ g2.2.2.1).1, by decide⟩
                exact ⟨_, rp_one _ ho hf0 (ro_par _ tk op e2 ex), QR_no (by decide) (QF_tr q1 (QF_tr c2 (QF_fail c2.2.1 1 (by decide))))⟩
            · rw [bnd_n q]
              have f2 := r2.2 q
              have hj := (hG 3 (o + 1) (i + 1) (Or.inl rfl) hi1 (by omega)).1 q
              have ex := c_expF (W + 2) hE3 (RS_TF f2.1 hR1).1 f2.2.1 hj f2.2.2.1 f2.2.2.2.2 54 ⟨(hT _ hj).1, by decide⟩
              exact ⟨_, rp_one _ ho hf0 (ro_par _ tk op e2 ex), fun g => absurd g q, fun _ => QF_tr q1 f2⟩
        · rw [if_neg t53] at h9 ⊢
          by_cases t50 : Tk i = 50
          · rw [if_pos t50] at h9 ⊢
            rw [t50] at tk
            have hi1 := nE i hi (by omega)
            by_cases ho8 : 8 ≤ o
            · rw [if_pos ho8]
              have op := c_opensN (W + 2) hE3 hKT hat hf0 hi ho8 (by omega)
              exact ⟨_, rp_one _ ho hf0 (ro_minn _ tk op), QR_no (by decide) (QF_fail hCI 3 (by decide))⟩
            · rw [if_neg ho8] at h9 ⊢
              have op := c_opensY (W + 2) hE3 hKT hat hf0 hi1 (by omega : o < 8)
              have q1 := QC_step hCI
              have hR1 := RS_TF q1.1 hRS
              obtain ⟨n9, n9b⟩ := bnd_inv h9
              obtain ⟨x2, e2, r2⟩ := hP 5 (o + 1) (i + 1) u _ (d + 10) (Or.inr rfl) hi1 (by omega) (by omega) hR1 q1.2.1 n9
              rw [show d + 10 + need 5 (o + 1) = W + 2 + 1 + 1 by unfold need; omega] at e2
              by_cases q : (P 5 (o + 1) (i + 1)).1 = 0
              · rw [bnd_0 q]
                have g2 := (hG 5 (o + 1) (i + 1) (Or.inr rfl) hi1 (by omega)).2 q
                have c2 := r2.1 q
                have hR2 := RS_TF c2.1 hR1
                have em := c_emitA (u := u + (P 5 (o + 1) (i + 1)).2.2.length) (W + 2 + 1) hcl (by have := g2.2.1; have := g2.2.2.1; omega) c2.2.1.2.1 hR2.2.1 c2.2.1.2.2.1 hR2.2.2.2 (enc (2, 0))
                have qz := QC_tr q1 (QC_tr c2 (QC_emit c2.2.1 (2, 0)))
                exact ⟨_, rp_one _ ho hf0 (ro_min _ tk op e2 em), QR_ok qz⟩
              · rw [bnd_n q]
                have f2 := r2.2 q
                have em := c_emitF (W + 2 + 1) f2.2.2.1 f2.2.2.2.2 (nI 20057)
                exact ⟨_, rp_one _ ho hf0 (ro_min _ tk op e2 em), fun g => absurd g q, fun _ => QF_tr q1 f2⟩
          · rw [if_neg t50]
            have fl := c_failA (W + 2 + 1) hE3 hKT hat hf0 hi 1
            exact ⟨_, rp_one _ ho hf0 (ro_else _ hb.1 t40 t17 tmm t53 t50 tk fl), QR_no (by decide) (QF_fail hCI 1 (by decide))⟩
theorem c_pp {Tk Vl Pc : Nat → Nat} {E t cl a : Nat} (hE : Tk E = 41) (hE3 : E ≤ 300) (hT : ∀ i, i ≤ E → Tk i < 100 ∧ Vl i ≤ 10000) (hcl : 1 ≤ cl ∧ cl ≤ 20) (ha : a ≤ 5) : ∀ n md lv o i u x d c x4, i ≤ E → o ≤ 8 → lv ≤ 5 → (md = 0 ∨ (md = 1 ∧ (lv ≤ 1 ∨ lv = 3 ∨ lv = 4))) → u ≤ i → c ≤ i → RS Tk Vl Pc E t cl a x → CI t cl x i u → (pp Tk Vl a n md lv o i).1 ≠ 9 → ∃ x', (if md = 0 then qm_evM (d + need lv o) jR_readPart [qP 6 0, qI (nI lv), qI (nI o)] x else qm_evB (d + need lv o) jR_readPart 5 [qP 6 0, qI (nI lv), qI (nI o), qI (nI c), x4] [] x) = some (none, x') ∧ QR Pc t cl x x' u (pp Tk Vl a n md lv o i) := by
  have nE : ∀ i, i ≤ E → Tk i ≠ 41 → i + 1 ≤ E := fun i h1 h2 => by
    by_cases q : i = E
    · exact absurd (by rw [q]; exact hE) h2
    · omega
  have gd := fun n md lv o i h1 h2 h3 h4 => pp_good (Vl := Vl) (a := a) hE n md lv o i h1 h2 h3 h4
  intro n
  induction n with
  | zero => intro md lv o i u x d c x4 _ _ _ _ _ _ _ _ h9; exact absurd rfl h9
  | succ n ih =>
    intro md lv o i u x d c x4 hi ho hl hm hu hc hRS hCI h9
    have hKT := hRS.1
    obtain ⟨hat, hf0, hu5, hu34⟩ := id hCI
    unfold pp at h9 ⊢
    rcases hm with hm | ⟨hm, hl2⟩
    · subst hm
      rw [if_neg (show ¬ (0 : Nat) = 1 by decide)] at h9 ⊢
      by_cases l2 : lv = 2
      · subst l2
        rw [if_pos rfl] at h9 ⊢
        unfold pAsk at h9 ⊢
        have hD : d + need 2 o = d + need 3 o + 1 + 1 := by unfold need; omega
        have hX : d + need 3 o = d + 12 * (8 - o) + 11 + 1 := by unfold need; omega
        have tk := c_tokenA (d + 12 * (8 - o) + 11) hE3 hKT hat hi
        rw [← hX] at tk
        rw [if_pos rfl, hD]
        by_cases t26 : Tk i = 26
        · rw [if_pos t26] at h9 ⊢
          rw [t26] at tk
          have hi1 := nE i hi (by omega)
          by_cases ho8 : 8 ≤ o
          · rw [if_pos ho8]
            have op := c_opensN (d + 12 * (8 - o) + 10) hE3 hKT hat hf0 hi ho8 (by omega)
            exact ⟨_, rp_ask _ ho hf0 (ra_nof _ tk op), QR_no (by decide) (QF_fail hCI 3 (by decide))⟩
          · rw [if_neg ho8] at h9 ⊢
            have op := c_opensY (d + 12 * (8 - o) + 10) hE3 hKT hat hf0 hi1 (by omega : o < 8)
            have q1 := QC_step hCI
            obtain ⟨n9, _⟩ := bnd_inv h9
            obtain ⟨x2, e2, r2⟩ := ih 0 2 (o + 1) (i + 1) u _ (d + 10) 0 qU hi1 (by omega) (by decide) (Or.inl rfl) (by omega) (Nat.zero_le _) (RS_TF q1.1 hRS) q1.2.1 n9
            rw [if_pos rfl, show d + 10 + need 2 (o + 1) = d + need 3 o by unfold need; omega] at e2
            by_cases q : (pp Tk Vl a n 0 2 (o + 1) (i + 1)).1 = 0
            · rw [bnd_0 q]
              have g2 := (gd n 0 2 (o + 1) (i + 1) hi1 (by omega) (by decide) (Or.inl rfl)).2 q
              have c2 := r2.1 q
              have em := c_emitA (u := u + (pp Tk Vl a n 0 2 (o + 1) (i + 1)).2.2.length) (d + 12 * (8 - o) + 11) hcl (by have := g2.2.1; have := g2.2.2.1; omega) c2.2.1.2.1 (RS_TF (TF_trans q1.1 c2.1) hRS).2.1 c2.2.1.2.2.1 (RS_TF (TF_trans q1.1 c2.1) hRS).2.2.2 (enc (20, 0))
              rw [← hX] at em
              have qz := QC_tr q1 (QC_tr c2 (QC_emit c2.2.1 (20, 0)))
              exact ⟨_, rp_ask _ ho hf0 (ra_not _ tk op e2 em), QR_ok qz⟩
            · rw [bnd_n q]
              have f2 := r2.2 q
              have em := c_emitF (d + 12 * (8 - o) + 11) f2.2.2.1 f2.2.2.2.2 (nI 20026)
              rw [← hX] at em
              exact ⟨x2, rp_ask _ ho hf0 (ra_not _ tk op e2 em), fun g => absurd g q, fun _ => QF_tr q1 f2⟩
        · rw [if_neg t26] at h9 ⊢
          obtain ⟨n9, n9b⟩ := bnd_inv h9
          obtain ⟨x1, e1, r1⟩ := ih 0 3 o i u x d 0 qU hi ho (by decide) (Or.inl rfl) hu (Nat.zero_le _) hRS hCI n9
          rw [if_pos rfl] at e1
          by_cases q : (pp Tk Vl a n 0 3 o i).1 = 0
          · have n9b := n9b q
            rw [bnd_0 q]
            have g1 := (gd n 0 3 o i hi ho (by decide) (Or.inl rfl)).2 q
            have c1 := r1.1 q
            have hR1 := RS_TF c1.1 hRS
            generalize (pp Tk Vl a n 0 3 o i).2.1 = j at n9b g1 c1 ⊢
            generalize (pp Tk Vl a n 0 3 o i).2.2 = out at n9b g1 c1 ⊢
            have tk2 := c_tokenA (d + 12 * (8 - o) + 11) hE3 hR1.1 c1.2.1.1 g1.2.2.1
            rw [← hX] at tk2
            have hb := (hT i hi).1
            have hbj := (hT j g1.2.2.1).1
            by_cases tc : 43 ≤ Tk j ∧ Tk j ≤ 48
            · rw [if_pos tc] at n9b ⊢
              have hj1 := nE j g1.2.2.1 (by omega)
              have st := c_stepA (d + need 3 o) hE3 hR1.1 c1.2.1.1 c1.2.1.2.1 hj1
              have q2 := QC_step c1.2.1
              obtain ⟨m9, _⟩ := bnd_inv n9b
              obtain ⟨x3, e3, r3⟩ := ih 0 3 o (j + 1) (u + out.length) _ d 0 qU hj1 ho (by decide) (Or.inl rfl) (by omega) (Nat.zero_le _) (RS_TF q2.1 hR1) q2.2.1 m9
              rw [if_pos rfl] at e3
              by_cases qq : (pp Tk Vl a n 0 3 o (j + 1)).1 = 0
              · rw [bnd_0 qq]
                have g3 := (gd n 0 3 o (j + 1) hj1 ho (by decide) (Or.inl rfl)).2 qq
                have c3 := r3.1 qq
                have hR3 := RS_TF (TF_trans q2.1 c3.1) hR1
                have em := c_emitA (d + 12 * (8 - o) + 11) hcl (by have := g3.2.1; have := g3.2.2.1; omega) c3.2.1.2.1 hR3.2.1 c3.2.1.2.2.1 hR3.2.2.2 (enc (opt (Tk j), 0))
                rw [← hX] at em
                have qz := QC_tr c1 (QC_tr q2 (QC_tr c3 (QC_emit c3.2.1 (opt (Tk j), 0))))
                exact ⟨_, rp_ask _ ho hf0 (ra_y _ hb t26 tk e1 tk2 tc st e3 (by rw [← enc_o (Or.inr (Or.inl tc))]; exact em)), QR_ok qz⟩
              · rw [bnd_n qq]
                have f3 := r3.2 qq
                have em := c_emitF (d + 12 * (8 - o) + 11) f3.2.2.1 f3.2.2.2.2 (nI (20000 + Tk j))
                rw [← hX] at em
                exact ⟨x3, rp_ask _ ho hf0 (ra_y _ hb t26 tk e1 tk2 tc st e3 em), fun g => absurd g qq, fun _ => QF_tr c1 (QF_tr q2 f3)⟩
            · rw [if_neg tc]
              have fl := c_failA (d + 12 * (8 - o) + 11) hE3 hR1.1 c1.2.1.1 c1.2.1.2.1 g1.2.2.1 1
              rw [← hX] at fl
              exact ⟨_, rp_ask _ ho hf0 (ra_n _ hb hbj t26 tk e1 tk2 tc fl), QR_no (by decide) (QF_tr c1 (QF_fail c1.2.1 1 (by decide)))⟩
          · rw [bnd_n q]
            have f1 := r1.2 q
            have hR1 := RS_TF f1.1 hRS
            have hj := (gd n 0 3 o i hi ho (by decide) (Or.inl rfl)).1 q
            have f1' := f1
            generalize (pp Tk Vl a n 0 3 o i).2.1 = j at f1' hj
            have tk2 := c_tokenA (d + 12 * (8 - o) + 11) hE3 hR1.1 f1'.2.1 hj
            rw [← hX] at tk2
            have hb := (hT i hi).1
            have hbj := (hT j hj).1
            refine ⟨x1, ?_, fun g => absurd g q, fun _ => f1⟩
            by_cases tc : 43 ≤ Tk j ∧ Tk j ≤ 48
            · have em := c_emitF (d + 12 * (8 - o) + 11) f1.2.2.1 f1.2.2.2.2 (nI (20000 + Tk j))
              rw [← hX] at em
              exact rp_ask _ ho hf0 (ra_y _ hb t26 tk e1 tk2 tc (c_stepF _ f1.2.2.1 f1.2.2.2.2) (rp_f _ f1.2.2.1 f1.2.2.2.2 _ _) em)
            · have fl := c_failF (d + 12 * (8 - o) + 11) f1.2.2.1 f1.2.2.2.2 (nI 1)
              rw [← hX] at fl
              exact rp_ask _ ho hf0 (ra_n _ hb hbj t26 tk e1 tk2 tc fl)
      · rw [if_neg l2] at h9 ⊢
        by_cases l5 : 5 ≤ lv
        · rw [if_pos l5] at h9 ⊢
          have hlv : lv = 5 := by omega
          subst hlv
          rw [if_pos rfl]
          exact c_one hE hE3 hT hcl ha (pp Tk Vl a n 0) (fun lv o i u x d h1 h2 h3 h4 h5 h6 h7 => by
            obtain ⟨x', e, r⟩ := ih 0 lv o i u x d 0 qU h2 h3 (by omega) (Or.inl rfl) h4 (Nat.zero_le _) h5 h6 h7
            rw [if_pos rfl] at e
            exact ⟨x', e, r⟩) (fun lv o i h1 h2 h3 => gd n 0 lv o i h2 h3 (by omega) (Or.inl rfl)) o i u x d hi ho hu hRS hCI h9
        · rw [if_neg l5] at h9 ⊢
          have hD : d + need lv o = d + 1 + need (lv + 1) o + 1 := by unfold need; omega
          obtain ⟨n9, n9b⟩ := bnd_inv h9
          obtain ⟨x1, e1, r1⟩ := ih 0 (lv + 1) o i u x (d + 1) 0 qU hi ho (by omega) (Or.inl rfl) hu (Nat.zero_le _) hRS hCI n9
          rw [if_pos rfl] at e1
          rw [if_pos rfl, hD]
          have ea := rp_A _ l2 (by omega) ho hf0 e1
          by_cases q : (pp Tk Vl a n 0 (lv + 1) o i).1 = 0
          · have n9b := n9b q
            rw [bnd_0 q]
            have g1 := (gd n 0 (lv + 1) o i hi ho (by omega) (Or.inl rfl)).2 q
            have c1 := r1.1 q
            have hR1 := RS_TF c1.1 hRS
            generalize (pp Tk Vl a n 0 (lv + 1) o i).2.1 = j at n9b g1 c1 ⊢
            generalize (pp Tk Vl a n 0 (lv + 1) o i).2.2 = out at n9b g1 c1 ⊢
            obtain ⟨m9, _⟩ := bnd_inv n9b
            obtain ⟨x2, e2, r2⟩ := ih 1 lv o j (u + out.length) x1 d 0 qU g1.2.2.1 ho hl (Or.inr ⟨rfl, by omega⟩) (by have := g1.2.1; omega) (Nat.zero_le _) hR1 c1.2.1 m9
            rw [if_neg (by decide), hD] at e2
            refine ⟨x2, ea.trans e2, ?_⟩
            by_cases qq : (pp Tk Vl a n 1 lv o j).1 = 0
            · rw [bnd_0 qq]; exact QR_ok (QC_tr c1 (r2.1 qq))
            · rw [bnd_n qq]; exact ⟨fun g => absurd g qq, fun _ => QF_tr c1 (r2.2 qq)⟩
          · rw [bnd_n q]
            have f1 := r1.2 q
            exact ⟨x1, ea.trans (rp_5f _ (by decide) f1.2.2.1 f1.2.2.2.2), fun g => absurd g q, fun _ => f1⟩
    · subst hm
      rw [if_pos rfl] at h9 ⊢
      rw [if_neg (by decide)]
      have hD : d + need lv o = d + 1 + need (lv + 1) o + 1 := by unfold need; omega
      have hX : d + 1 + need (lv + 1) o = d + 12 * (8 - o) + 2 * (5 - lv) + 6 + 1 := by unfold need; omega
      have tk := c_tokenA (d + 12 * (8 - o) + 2 * (5 - lv) + 6) hE3 hKT hat hi
      rw [← hX] at tk
      rw [hD]
      have hb := (hT i hi).1
      by_cases hlv : lvl (Tk i) = lv
      · rw [if_pos hlv] at h9 ⊢
        have hi1 := nE i hi (fun h => by rw [h, lvl_e] at hlv; omega)
        have st := c_stepA (d + 1 + need (lv + 1) o) hE3 hKT hat hf0 hi1
        have q1 := QC_step hCI
        obtain ⟨n9, n9b⟩ := bnd_inv h9
        obtain ⟨x2, e2, r2⟩ := ih 0 (lv + 1) o (i + 1) u _ (d + 1) 0 qU hi1 ho (by omega) (Or.inl rfl) (by omega) (Nat.zero_le _) (RS_TF q1.1 hRS) q1.2.1 n9
        rw [if_pos rfl] at e2
        by_cases q : (pp Tk Vl a n 0 (lv + 1) o (i + 1)).1 = 0
        · have n9b := n9b q
          rw [bnd_0 q]
          have g2 := (gd n 0 (lv + 1) o (i + 1) hi1 ho (by omega) (Or.inl rfl)).2 q
          have c2 := r2.1 q
          have hR2 := RS_TF (TF_trans q1.1 c2.1) hRS
          generalize (pp Tk Vl a n 0 (lv + 1) o (i + 1)).2.1 = j at n9b g2 c2 ⊢
          generalize (pp Tk Vl a n 0 (lv + 1) o (i + 1)).2.2 = out at n9b g2 c2 ⊢
          have hlen : u + out.length < j := by have := g2.2.1; omega
          have hj3 : j ≤ 300 := by have := g2.2.2.1; omega
          have em := c_emitA (u := u + out.length) (d + 12 * (8 - o) + 2 * (5 - lv) + 6) hcl (by omega) c2.2.1.2.1 hR2.2.1 c2.2.1.2.2.1 hR2.2.2.2 (enc (opt (Tk i), 0))
          rw [← hX] at em
          have q3 := QC_emit c2.2.1 (opt (Tk i), 0)
          have hn9 : lvl (Tk i) ≠ 9 := by omega
          obtain ⟨m9, _⟩ := bnd_inv n9b
          have eg := rp_5y _ (o := o) (x4 := x4) (by omega : c < 300) (by omega) hb hf0 tk hlv st e2 (by rw [← enc_o (Or.inl hn9)]; exact em)
          obtain ⟨x4', e4, r4⟩ := ih 1 lv o j (u + out.length + 1) _ d (c + 1) (qI (nI (Tk i))) g2.2.2.1 ho hl (Or.inr ⟨rfl, hl2⟩) (by omega) (by have := g2.1.2 rfl; omega) (RS_TF q3.1 hR2) (by
            have := q3.2.1
            simp only [List.length_nil, List.length_cons, Nat.add_zero, Nat.zero_add] at this
            exact this) m9
          rw [if_neg (by decide), hD] at e4
          refine ⟨x4', eg.trans e4, ?_⟩
          have qa := QC_tr q1 (QC_tr c2 q3)
          rw [List.nil_append] at qa
          by_cases qq : (pp Tk Vl a n 1 lv o j).1 = 0
          · rw [bnd_0 qq]
            have c4 := r4.1 qq
            have := QC_tr qa (by
              rw [List.length_append]
              simp only [List.length_cons, List.length_nil, Nat.zero_add]
              rw [← Nat.add_assoc]
              exact c4)
            rw [List.append_assoc] at this
            exact QR_ok this
          · rw [bnd_n qq]; exact ⟨fun g => absurd g qq, fun _ => QF_tr qa (r4.2 qq)⟩
        · rw [bnd_n q]
          have f2 := r2.2 q
          have em := c_emitF (d + 12 * (8 - o) + 2 * (5 - lv) + 6) f2.2.2.1 f2.2.2.2.2 (nI (20000 + Tk i))
          rw [← hX] at em
          have eg := rp_5y _ (o := o) (x4 := x4) (by omega : c < 300) (by omega) hb hf0 tk hlv st e2 em
          exact ⟨x2, eg.trans (rp_5f _ (by omega) f2.2.2.1 f2.2.2.2.2), fun g => absurd g q, fun _ => QF_tr q1 f2⟩
      · rw [if_neg hlv]
        have hl10 : lvl (Tk i) < 10 := by
          unfold lvl
          by_cases h1 : Tk i = 28
          · rw [if_pos h1]; decide
          · rw [if_neg h1]
            by_cases h2 : Tk i = 27
            · rw [if_pos h2]; decide
            · rw [if_neg h2]
              by_cases h3 : Tk i = 49 ∨ Tk i = 50
              · rw [if_pos h3]; decide
              · rw [if_neg h3]
                by_cases h4 : Tk i = 51 ∨ Tk i = 52
                · rw [if_pos h4]; decide
                · rw [if_neg h4]; decide
        exact ⟨x, rp_5n _ (by omega) (by omega) hb hf0 tk hlv hl10, QR_ok (QC_nil hCI)⟩
