/-! the reference's tokens: spaces and numbers -/
theorem uI_uI (s : qm_Hp) (k i j : Nat) (a b : Int32) : uI (uI s k i j a) k i j b = uI s k i j b := by
  unfold uI
  refine Prod.ext ?_ rfl
  funext a' b' c'
  by_cases q : a' = k ∧ b' = i ∧ c' = j
  · show (if a' = k ∧ b' = i ∧ c' = j then b else _) = if a' = k ∧ b' = i ∧ c' = j then b else _
    rw [if_pos q, if_pos q]
  · show (if a' = k ∧ b' = i ∧ c' = j then b else if a' = k ∧ b' = i ∧ c' = j then a else s.1 a' b' c') = if a' = k ∧ b' = i ∧ c' = j then b else s.1 a' b' c'
    rw [if_neg q, if_neg q, if_neg q]
theorem uI_self {s : qm_Hp} {k i j : Nat} {a : Int32} (h : zI s k i j = a) : uI s k i j a = s := by
  unfold uI
  refine Prod.ext ?_ rfl
  funext a' b' c'
  show (if a' = k ∧ b' = i ∧ c' = j then a else s.1 a' b' c') = s.1 a' b' c'
  by_cases q : a' = k ∧ b' = i ∧ c' = j
  · rw [if_pos q, q.1, q.2.1, q.2.2]; exact h.symm
  · rw [if_neg q]
def BYM (B : Nat → Nat) (L : Nat) (x : qm_Hp) : Prop := zI x 9 0 5 = nI L ∧ L ≤ 300 ∧ ∀ j, j < L → zI x 63 0 j = nI (B j) ∧ B j < 256
theorem BYM_u {B : Nat → Nat} {L : Nat} {x : qm_Hp} (h : BYM B L x) (j : Nat) (v : Int32) (hj : 6 ≤ j) : BYM B L (uI x 9 0 j v) := ⟨by rw [zI_uI, if_neg (by omega)]; exact h.1, h.2.1, fun i hi => ⟨by rw [zI_uI, if_neg (by omega)]; exact (h.2.2 i hi).1, (h.2.2 i hi).2⟩⟩
theorem r_byY (d : Nat) {B : Nat → Nat} {L p : Nat} {x : qm_Hp} (h : BYM B L x) (hp : p < L) : qm_evM d jM_byteAt [qP 9 0, qI (nI p)] x = some (some (qI (nI (B p))), x) := by
  obtain ⟨h5, hL, hz⟩ := h
  have hz := (hz p hp).1
  simp (config := {maxSteps := 1000000}) (disch := first | omega | assumption | (simp only [qm_wid_n, qm_wid_I, qm_wid_L, qm_wid_P]; omega) | (simp only [qm_wid_n, qm_wid_I, qm_wid_L, qm_wid_P]; done) | fail) only [e_M_byteAt, b_M_byteAt_0, b_M_byteAt_1, b_M_byteAt_2, qy0, qy1, qy2, qy3, qe, qcn, qin, ↓reduceIte, Nat.reduceEqDiff, Nat.reduceLeDiff, Bool.false_eq_true, Nat.reduceAdd, Nat.reduceSub, Nat.reduceMul, Nat.reduceLT, or_self, or_false, false_or, or_true, true_or, and_self, and_true, true_and, and_false, false_and, not_true_eq_false, not_false_eq_true, h5, hz]
theorem r_byN (d : Nat) {B : Nat → Nat} {L : Nat} {x : qm_Hp} (h : BYM B L x) : qm_evM d jM_byteAt [qP 9 0, qI (nI L)] x = some (some (qI N1), x) := by
  obtain ⟨h5, hL, hz⟩ := h
  simp (config := {maxSteps := 1000000}) (disch := first | omega | assumption | (simp only [qm_wid_n, qm_wid_I, qm_wid_L, qm_wid_P]; omega) | (simp only [qm_wid_n, qm_wid_I, qm_wid_L, qm_wid_P]; done) | fail) only [e_M_byteAt, b_M_byteAt_0, b_M_byteAt_1, b_M_byteAt_2, qy0, qy1, qy2, qy3, qe, qcn, qin, ↓reduceIte, Nat.reduceEqDiff, Nat.reduceLeDiff, Bool.false_eq_true, Nat.reduceAdd, Nat.reduceSub, Nat.reduceMul, Nat.reduceLT, or_self, or_false, false_or, or_true, true_or, and_self, and_true, true_and, and_false, false_and, not_true_eq_false, not_false_eq_true, h5]
theorem r_isDY (d : Nat) (s : qm_Hp) {b : Nat} (h : isD b = true) : qm_evM (d + 1) jM_isDigit [qI (nI b)] s = some (some (qI (nI 1)), s) := by
  have h := of_decide_eq_true h
  simp (config := {maxSteps := 1000000}) (disch := first | omega | assumption | (simp only [qm_wid_n, qm_wid_I, qm_wid_L, qm_wid_P]; omega) | (simp only [qm_wid_n, qm_wid_I, qm_wid_L, qm_wid_P]; done) | fail) only [e_M_isDigit, b_M_isDigit_0, qy0, qy1, qy2, qy3, qe, qcn, qin, ↓reduceIte, Nat.reduceEqDiff, Nat.reduceLeDiff, Bool.false_eq_true, Nat.reduceAdd, Nat.reduceSub, Nat.reduceMul, Nat.reduceLT, or_self, or_false, false_or, or_true, true_or, and_self, and_true, true_and, and_false, false_and, not_true_eq_false, not_false_eq_true, t_isIn]
theorem r_isDN (d : Nat) (s : qm_Hp) {b : Nat} (hb : b < 256) (h : ¬ isD b = true) : qm_evM (d + 1) jM_isDigit [qI (nI b)] s = some (some (qI (nI 0)), s) := by
  have h : ¬ (48 ≤ b ∧ b ≤ 57) := fun g => h (decide_eq_true g)
  rcases (by omega : b < 48 ∨ 57 < b) with k | k
  · simp (config := {maxSteps := 1000000}) (disch := first | omega | assumption | (simp only [qm_wid_n, qm_wid_I, qm_wid_L, qm_wid_P]; omega) | (simp only [qm_wid_n, qm_wid_I, qm_wid_L, qm_wid_P]; done) | fail) only [e_M_isDigit, b_M_isDigit_0, qy0, qy1, qy2, qy3, qe, qcn, qin, ↓reduceIte, Nat.reduceEqDiff, Nat.reduceLeDiff, Bool.false_eq_true, Nat.reduceAdd, Nat.reduceSub, Nat.reduceMul, Nat.reduceLT, or_self, or_false, false_or, or_true, true_or, and_self, and_true, true_and, and_false, false_and, not_true_eq_false, not_false_eq_true, t_isIn]
  · simp (config := {maxSteps := 1000000}) (disch := first | omega | assumption | (simp only [qm_wid_n, qm_wid_I, qm_wid_L, qm_wid_P]; omega) | (simp only [qm_wid_n, qm_wid_I, qm_wid_L, qm_wid_P]; done) | fail) only [e_M_isDigit, b_M_isDigit_0, qy0, qy1, qy2, qy3, qe, qcn, qin, ↓reduceIte, Nat.reduceEqDiff, Nat.reduceLeDiff, Bool.false_eq_true, Nat.reduceAdd, Nat.reduceSub, Nat.reduceMul, Nat.reduceLT, or_self, or_false, false_or, or_true, true_or, and_self, and_true, true_and, and_false, false_and, not_true_eq_false, not_false_eq_true, t_isIn]
theorem r_isD1 (d : Nat) (s : qm_Hp) : qm_evM (d + 1) jM_isDigit [qI N1] s = some (some (qI (nI 0)), s) := by
  have h : ¬ (nI 48 ≤ N1 ∧ N1 ≤ nI 57) := by decide
  simp (config := {maxSteps := 1000000}) (disch := first | omega | assumption | (simp only [qm_wid_n, qm_wid_I, qm_wid_L, qm_wid_P]; omega) | (simp only [qm_wid_n, qm_wid_I, qm_wid_L, qm_wid_P]; done) | fail) only [e_M_isDigit, b_M_isDigit_0, qy0, qy1, qy2, qy3, qe, qcn, qin, ↓reduceIte, Nat.reduceEqDiff, Nat.reduceLeDiff, Bool.false_eq_true, Nat.reduceAdd, Nat.reduceSub, Nat.reduceMul, Nat.reduceLT, or_self, or_false, false_or, or_true, true_or, and_self, and_true, true_and, and_false, false_and, not_true_eq_false, not_false_eq_true, t_isIn, h]
theorem r_isLY (d : Nat) (s : qm_Hp) {b : Nat} (h : isL b = true) : qm_evM (d + 1) jM_isLetter [qI (nI b)] s = some (some (qI (nI 1)), s) := by
  rcases (of_decide_eq_true h : (97 ≤ b ∧ b ≤ 122) ∨ (65 ≤ b ∧ b ≤ 90)) with k | k
  · simp (config := {maxSteps := 1000000}) (disch := first | omega | assumption | (simp only [qm_wid_n, qm_wid_I, qm_wid_L, qm_wid_P]; omega) | (simp only [qm_wid_n, qm_wid_I, qm_wid_L, qm_wid_P]; done) | fail) only [e_M_isLetter, b_M_isLetter_0, b_M_isLetter_1, b_M_isLetter_2, b_M_isLetter_3, qy0, qy1, qy2, qy3, qe, qcn, qin, ↓reduceIte, Nat.reduceEqDiff, Nat.reduceLeDiff, Bool.false_eq_true, Nat.reduceAdd, Nat.reduceSub, Nat.reduceMul, Nat.reduceLT, or_self, or_false, false_or, or_true, true_or, and_self, and_true, true_and, and_false, false_and, not_true_eq_false, not_false_eq_true, t_isIn]
  · simp (config := {maxSteps := 1000000}) (disch := first | omega | assumption | (simp only [qm_wid_n, qm_wid_I, qm_wid_L, qm_wid_P]; omega) | (simp only [qm_wid_n, qm_wid_I, qm_wid_L, qm_wid_P]; done) | fail) only [e_M_isLetter, b_M_isLetter_0, b_M_isLetter_1, b_M_isLetter_2, b_M_isLetter_3, qy0, qy1, qy2, qy3, qe, qcn, qin, ↓reduceIte, Nat.reduceEqDiff, Nat.reduceLeDiff, Bool.false_eq_true, Nat.reduceAdd, Nat.reduceSub, Nat.reduceMul, Nat.reduceLT, or_self, or_false, false_or, or_true, true_or, and_self, and_true, true_and, and_false, false_and, not_true_eq_false, not_false_eq_true, t_isIn]
theorem r_isLN (d : Nat) (s : qm_Hp) {b : Nat} (hb : b < 256) (h : ¬ isL b = true) : qm_evM (d + 1) jM_isLetter [qI (nI b)] s = some (some (qI (nI 0)), s) := by
  have h : ¬ ((97 ≤ b ∧ b ≤ 122) ∨ (65 ≤ b ∧ b ≤ 90)) := fun g => h (decide_eq_true g)
  rcases (by omega : b < 65 ∨ (90 < b ∧ b < 97) ∨ 122 < b) with k | k | k
  · simp (config := {maxSteps := 1000000}) (disch := first | omega | assumption | (simp only [qm_wid_n, qm_wid_I, qm_wid_L, qm_wid_P]; omega) | (simp only [qm_wid_n, qm_wid_I, qm_wid_L, qm_wid_P]; done) | fail) only [e_M_isLetter, b_M_isLetter_0, b_M_isLetter_1, b_M_isLetter_2, b_M_isLetter_3, qy0, qy1, qy2, qy3, qe, qcn, qin, ↓reduceIte, Nat.reduceEqDiff, Nat.reduceLeDiff, Bool.false_eq_true, Nat.reduceAdd, Nat.reduceSub, Nat.reduceMul, Nat.reduceLT, or_self, or_false, false_or, or_true, true_or, and_self, and_true, true_and, and_false, false_and, not_true_eq_false, not_false_eq_true, t_isIn]
  · simp (config := {maxSteps := 1000000}) (disch := first | omega | assumption | (simp only [qm_wid_n, qm_wid_I, qm_wid_L, qm_wid_P]; omega) | (simp only [qm_wid_n, qm_wid_I, qm_wid_L, qm_wid_P]; done) | fail) only [e_M_isLetter, b_M_isLetter_0, b_M_isLetter_1, b_M_isLetter_2, b_M_isLetter_3, qy0, qy1, qy2, qy3, qe, qcn, qin, ↓reduceIte, Nat.reduceEqDiff, Nat.reduceLeDiff, Bool.false_eq_true, Nat.reduceAdd, Nat.reduceSub, Nat.reduceMul, Nat.reduceLT, or_self, or_false, false_or, or_true, true_or, and_self, and_true, true_and, and_false, false_and, not_true_eq_false, not_false_eq_true, t_isIn]
  · simp (config := {maxSteps := 1000000}) (disch := first | omega | assumption | (simp only [qm_wid_n, qm_wid_I, qm_wid_L, qm_wid_P]; omega) | (simp only [qm_wid_n, qm_wid_I, qm_wid_L, qm_wid_P]; done) | fail) only [e_M_isLetter, b_M_isLetter_0, b_M_isLetter_1, b_M_isLetter_2, b_M_isLetter_3, qy0, qy1, qy2, qy3, qe, qcn, qin, ↓reduceIte, Nat.reduceEqDiff, Nat.reduceLeDiff, Bool.false_eq_true, Nat.reduceAdd, Nat.reduceSub, Nat.reduceMul, Nat.reduceLT, or_self, or_false, false_or, or_true, true_or, and_self, and_true, true_and, and_false, false_and, not_true_eq_false, not_false_eq_true, t_isIn]
theorem nt_s (D : Nat) {x : qm_Hp} {p b : Nat} {x1 x2 : qm_AV} (hp : p ≤ 300) (ha : zI x 9 0 8 = nI p) (by1 : qm_evM D jM_byteAt [qP 9 0, qI (nI p)] x = some (some (qI (nI b)), x)) (hb : b = 32 ∨ b = 10) : qm_evB (D + 1) jM_nextToken 0 [qP 9 0, x1, x2] [] x = qm_evB (D + 1) jM_nextToken 0 [qP 9 0, x1, x2] [] (uI x 9 0 8 (nI (p + 1))) := by
  refine (b_M_nextToken_0 ..).trans ?_
  rcases hb with rfl | rfl
  · simp (config := {maxSteps := 1000000}) (disch := first | omega | assumption | (simp only [qm_wid_n, qm_wid_I, qm_wid_L, qm_wid_P]; omega) | (simp only [qm_wid_n, qm_wid_I, qm_wid_L, qm_wid_P]; done) | fail) only [b_M_nextToken_1, qy0, qy1, qy2, qy3, qe, qcn, qin, ↓reduceIte, Nat.reduceEqDiff, Nat.reduceLeDiff, Bool.false_eq_true, Nat.reduceAdd, Nat.reduceSub, Nat.reduceMul, Nat.reduceLT, or_self, or_false, false_or, or_true, true_or, and_self, and_true, true_and, and_false, false_and, not_true_eq_false, not_false_eq_true, ha, by1]
  · simp (config := {maxSteps := 1000000}) (disch := first | omega | assumption | (simp only [qm_wid_n, qm_wid_I, qm_wid_L, qm_wid_P]; omega) | (simp only [qm_wid_n, qm_wid_I, qm_wid_L, qm_wid_P]; done) | fail) only [b_M_nextToken_1, qy0, qy1, qy2, qy3, qe, qcn, qin, ↓reduceIte, Nat.reduceEqDiff, Nat.reduceLeDiff, Bool.false_eq_true, Nat.reduceAdd, Nat.reduceSub, Nat.reduceMul, Nat.reduceLT, or_self, or_false, false_or, or_true, true_or, and_self, and_true, true_and, and_false, false_and, not_true_eq_false, not_false_eq_true, ha, by1]
theorem nt_n (D : Nat) {x : qm_Hp} {p b : Nat} {x1 x2 : qm_AV} (hp : p ≤ 300) (hb8 : b < 256) (ha : zI x 9 0 8 = nI p) (by1 : qm_evM D jM_byteAt [qP 9 0, qI (nI p)] x = some (some (qI (nI b)), x)) (hb : b ≠ 32 ∧ b ≠ 10) : qm_evB (D + 1) jM_nextToken 0 [qP 9 0, x1, x2] [] x = qm_evB (D + 1) jM_nextToken 2 [qP 9 0, x1, x2] [] x := by
  refine (b_M_nextToken_0 ..).trans ?_
  simp (config := {maxSteps := 1000000}) (disch := first | omega | assumption | (simp only [qm_wid_n, qm_wid_I, qm_wid_L, qm_wid_P]; omega) | (simp only [qm_wid_n, qm_wid_I, qm_wid_L, qm_wid_P]; done) | fail) only [qy0, qy1, qy2, qy3, qe, qcn, qin, ↓reduceIte, Nat.reduceEqDiff, Nat.reduceLeDiff, Bool.false_eq_true, Nat.reduceAdd, Nat.reduceSub, Nat.reduceMul, Nat.reduceLT, or_self, or_false, false_or, or_true, true_or, and_self, and_true, true_and, and_false, false_and, not_true_eq_false, not_false_eq_true, ha, by1]
theorem nt_e (D : Nat) {x : qm_Hp} {p : Nat} {x1 x2 : qm_AV} (hp : p ≤ 300) (ha : zI x 9 0 8 = nI p) (by1 : qm_evM D jM_byteAt [qP 9 0, qI (nI p)] x = some (some (qI N1), x)) : qm_evB (D + 1) jM_nextToken 0 [qP 9 0, x1, x2] [] x = qm_evB (D + 1) jM_nextToken 2 [qP 9 0, x1, x2] [] x := by
  have h1 : ¬ N1 = nI 32 := by decide
  have h2 : ¬ N1 = nI 10 := by decide
  refine (b_M_nextToken_0 ..).trans ?_
  simp (config := {maxSteps := 1000000}) (disch := first | omega | assumption | (simp only [qm_wid_n, qm_wid_I, qm_wid_L, qm_wid_P]; omega) | (simp only [qm_wid_n, qm_wid_I, qm_wid_L, qm_wid_P]; done) | fail) only [qy0, qy1, qy2, qy3, qe, qcn, qin, ↓reduceIte, Nat.reduceEqDiff, Nat.reduceLeDiff, Bool.false_eq_true, Nat.reduceAdd, Nat.reduceSub, Nat.reduceMul, Nat.reduceLT, or_self, or_false, false_or, or_true, true_or, and_self, and_true, true_and, and_false, false_and, not_true_eq_false, not_false_eq_true, ha, by1, h1, h2]
theorem nt_l (D : Nat) {B : Nat → Nat} {L : Nat} {x1 x2 : qm_AV} : ∀ n p x, p + n = L → BYM B L x → zI x 9 0 8 = nI p → qm_evB (D + 1) jM_nextToken 0 [qP 9 0, x1, x2] [] x = qm_evB (D + 1) jM_nextToken 2 [qP 9 0, x1, x2] [] (uI x 9 0 8 (nI (rwn B isS n p))) := by
  intro n
  induction n with
  | zero =>
    intro p x hp hB ha
    have e : p = L := by omega
    subst e
    show _ = qm_evB (D + 1) jM_nextToken 2 [qP 9 0, x1, x2] [] (uI x 9 0 8 (nI p))
    rw [uI_self ha]
    exact nt_e D hB.2.1 ha (r_byN D hB)
  | succ n ih =>
    intro p x hp hB ha
    have hL := hB.2.1
    have b1 := r_byY D hB (by omega : p < L)
    unfold rwn
    by_cases q : isS (B p) = true
    · rw [if_pos q]
      have e := ih (p + 1) (uI x 9 0 8 (nI (p + 1))) (by omega) (BYM_u hB 8 _ (by decide)) (by rw [zI_uI, if_pos ⟨rfl, rfl, rfl⟩])
      rw [uI_uI] at e
      exact (nt_s D (by omega) ha b1 (of_decide_eq_true q)).trans e
    · rw [if_neg q, uI_self ha]
      exact nt_n D (by omega) (hB.2.2 p (by omega)).2 ha b1 ⟨fun g => q (decide_eq_true (Or.inl g)), fun g => q (decide_eq_true (Or.inr g))⟩
