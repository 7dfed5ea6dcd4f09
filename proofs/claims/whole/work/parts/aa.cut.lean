/-! the class's tokens, whole -/
theorem c_cutWord (d : Nat) {B : Nat → Nat} {x : qm_Hp} {f L c : Nat} (h : BY B L x) (hf : f ≤ L) (hc : c ≤ 300) (h3 : zI x 7 0 3 = nI c) : qm_evM (d + 2) jK_cutWord [qP 7 0, qP 52 0, qI (nI f), qI (nI L)] x = some (some (qI (nI (rwn B isL (L - f) f))), kad x c (wo B f (rwn B isL (L - f) f) qm_str 0 0 true) 0 f) := by
  have hl := cw_l d (f := f) h (L - f) f (by omega)
  have hr := rwn_b B isL (L - f) f
  have hL := h.1
  have wd := c_wordOf (d + 1) (B := B) (x := x) (f := f) (e := rwn B isL (L - f) f) (fun j hj => h.2 j (by omega)) ⟨by omega, by omega⟩
  have ka := c_kadd (d + 1) hc h3 (wo B f (rwn B isL (L - f) f) qm_str 0 0 true) 0 f
  simp (config := {maxSteps := 1000000}) (disch := first | omega | assumption | (simp only [qm_wid_n, qm_wid_I, qm_wid_L, qm_wid_P]; omega) | (simp only [qm_wid_n, qm_wid_I, qm_wid_L, qm_wid_P]; done) | fail) only [e_K_cutWord, b_K_cutWord_0, b_K_cutWord_2, qy0, qy1, qy2, qy3, qe, qcn, qin, ↓reduceIte, Nat.reduceEqDiff, Nat.reduceLeDiff, Bool.false_eq_true, Nat.reduceAdd, Nat.reduceSub, Nat.reduceMul, Nat.reduceLT, or_self, or_false, false_or, or_true, true_or, and_self, and_true, true_and, and_false, false_and, not_true_eq_false, not_false_eq_true, hl, wd, ka]
theorem cs_1 (d : Nat) {x x1 : qm_Hp} {f L b : Nat} (hL : L ≤ 300) (hf : f + 1 < L) (hz : zI x 52 0 f = nI 60) (hz1 : zI x 52 0 (f + 1) = nI 61) (ka : qm_evM d jK_add [qP 7 0, qI (nI 44), qI (nI 0), qI (nI f)] x = some (none, x1)) : qm_evM (d + 1) jK_cutSign [qP 7 0, qP 52 0, qI (nI f), qI (nI L)] x = some (some (qI (nI (f + 2))), x1) := by
  simp (config := {maxSteps := 1000000}) (disch := first | omega | assumption | (simp only [qm_wid_n, qm_wid_I, qm_wid_L, qm_wid_P]; omega) | (simp only [qm_wid_n, qm_wid_I, qm_wid_L, qm_wid_P]; done) | fail) only [e_K_cutSign, b_K_cutSign_0, b_K_cutSign_2, qy0, qy1, qy2, qy3, qe, qcn, qin, ↓reduceIte, Nat.reduceEqDiff, Nat.reduceLeDiff, Bool.false_eq_true, Nat.reduceAdd, Nat.reduceSub, Nat.reduceMul, Nat.reduceLT, or_self, or_false, false_or, or_true, true_or, and_self, and_true, true_and, and_false, false_and, not_true_eq_false, not_false_eq_true, hz, hz1, ka]
theorem cs_2 (d : Nat) {x x1 : qm_Hp} {f L b : Nat} (hL : L ≤ 300) (hf : f + 1 < L) (hz : zI x 52 0 f = nI 62) (hz1 : zI x 52 0 (f + 1) = nI 61) (ka : qm_evM d jK_add [qP 7 0, qI (nI 46), qI (nI 0), qI (nI f)] x = some (none, x1)) : qm_evM (d + 1) jK_cutSign [qP 7 0, qP 52 0, qI (nI f), qI (nI L)] x = some (some (qI (nI (f + 2))), x1) := by
  simp (config := {maxSteps := 1000000}) (disch := first | omega | assumption | (simp only [qm_wid_n, qm_wid_I, qm_wid_L, qm_wid_P]; omega) | (simp only [qm_wid_n, qm_wid_I, qm_wid_L, qm_wid_P]; done) | fail) only [e_K_cutSign, b_K_cutSign_0, b_K_cutSign_2, b_K_cutSign_3, qy0, qy1, qy2, qy3, qe, qcn, qin, ↓reduceIte, Nat.reduceEqDiff, Nat.reduceLeDiff, Bool.false_eq_true, Nat.reduceAdd, Nat.reduceSub, Nat.reduceMul, Nat.reduceLT, or_self, or_false, false_or, or_true, true_or, and_self, and_true, true_and, and_false, false_and, not_true_eq_false, not_false_eq_true, hz, hz1, ka]
theorem cs_3 (d : Nat) {x x1 : qm_Hp} {f L b t : Nat} (hL : L ≤ 300) (hf : f + 1 < L) (hb : b < 256) (hb1 : b ≠ 60) (hb2 : b ≠ 62) (hz : zI x 52 0 f = nI b) (hz1 : zI x 52 0 (f + 1) = nI 61) (sg : qm_evM d jK_signOf [qI (nI b)] x = some (some (qI (nI t)), x)) (ka : qm_evM d jK_add [qP 7 0, qI (nI t), qI (nI 0), qI (nI f)] x = some (none, x1)) : qm_evM (d + 1) jK_cutSign [qP 7 0, qP 52 0, qI (nI f), qI (nI L)] x = some (some (qI (nI (f + 1))), x1) := by
  simp (config := {maxSteps := 1000000}) (disch := first | omega | assumption | (simp only [qm_wid_n, qm_wid_I, qm_wid_L, qm_wid_P]; omega) | (simp only [qm_wid_n, qm_wid_I, qm_wid_L, qm_wid_P]; done) | fail) only [e_K_cutSign, b_K_cutSign_0, b_K_cutSign_2, b_K_cutSign_3, b_K_cutSign_4, qy0, qy1, qy2, qy3, qe, qcn, qin, ↓reduceIte, Nat.reduceEqDiff, Nat.reduceLeDiff, Bool.false_eq_true, Nat.reduceAdd, Nat.reduceSub, Nat.reduceMul, Nat.reduceLT, or_self, or_false, false_or, or_true, true_or, and_self, and_true, true_and, and_false, false_and, not_true_eq_false, not_false_eq_true, hz, hz1, sg, ka]
theorem cs_4 (d : Nat) {x x1 : qm_Hp} {f L b b1 t : Nat} (hL : L ≤ 300) (hf : f + 1 < L) (hb : b1 < 256) (hb1 : b1 ≠ 61) (hz : zI x 52 0 f = nI b) (hz1 : zI x 52 0 (f + 1) = nI b1) (sg : qm_evM d jK_signOf [qI (nI b)] x = some (some (qI (nI t)), x)) (ka : qm_evM d jK_add [qP 7 0, qI (nI t), qI (nI 0), qI (nI f)] x = some (none, x1)) : qm_evM (d + 1) jK_cutSign [qP 7 0, qP 52 0, qI (nI f), qI (nI L)] x = some (some (qI (nI (f + 1))), x1) := by
  simp (config := {maxSteps := 1000000}) (disch := first | omega | assumption | (simp only [qm_wid_n, qm_wid_I, qm_wid_L, qm_wid_P]; omega) | (simp only [qm_wid_n, qm_wid_I, qm_wid_L, qm_wid_P]; done) | fail) only [e_K_cutSign, b_K_cutSign_0, b_K_cutSign_1, b_K_cutSign_2, b_K_cutSign_3, b_K_cutSign_4, qy0, qy1, qy2, qy3, qe, qcn, qin, ↓reduceIte, Nat.reduceEqDiff, Nat.reduceLeDiff, Bool.false_eq_true, Nat.reduceAdd, Nat.reduceSub, Nat.reduceMul, Nat.reduceLT, or_self, or_false, false_or, or_true, true_or, and_self, and_true, true_and, and_false, false_and, not_true_eq_false, not_false_eq_true, hz, hz1, sg, ka]
theorem cs_5 (d : Nat) {x x1 : qm_Hp} {f L b t : Nat} (hL : L ≤ 300) (hf : f + 1 = L) (hz : zI x 52 0 f = nI b) (sg : qm_evM d jK_signOf [qI (nI b)] x = some (some (qI (nI t)), x)) (ka : qm_evM d jK_add [qP 7 0, qI (nI t), qI (nI 0), qI (nI f)] x = some (none, x1)) : qm_evM (d + 1) jK_cutSign [qP 7 0, qP 52 0, qI (nI f), qI (nI L)] x = some (some (qI (nI (f + 1))), x1) := by
  simp (config := {maxSteps := 1000000}) (disch := first | omega | assumption | (simp only [qm_wid_n, qm_wid_I, qm_wid_L, qm_wid_P]; omega) | (simp only [qm_wid_n, qm_wid_I, qm_wid_L, qm_wid_P]; done) | fail) only [e_K_cutSign, b_K_cutSign_0, b_K_cutSign_1, b_K_cutSign_2, b_K_cutSign_3, b_K_cutSign_4, qy0, qy1, qy2, qy3, qe, qcn, qin, ↓reduceIte, Nat.reduceEqDiff, Nat.reduceLeDiff, Bool.false_eq_true, Nat.reduceAdd, Nat.reduceSub, Nat.reduceMul, Nat.reduceLT, or_self, or_false, false_or, or_true, true_or, and_self, and_true, true_and, and_false, false_and, not_true_eq_false, not_false_eq_true, hz, sg, ka]
theorem ct_s (D : Nat) {x : qm_Hp} {L p k b : Nat} {x5 : qm_AV} (hL : L ≤ 300) (hp : p < L) (hk : k < L) (hz : zI x 52 0 p = nI b) (hb : b = 32 ∨ b = 10) : qm_evB D jK_cut 1 [qP 7 0, qP 52 0, qI (nI L), qI (nI p), qI (nI k), x5] [] x = qm_evB D jK_cut 1 [qP 7 0, qP 52 0, qI (nI L), qI (nI (p + 1)), qI (nI (k + 1)), qI (nI b)] [] x := by
  refine (b_K_cut_1 ..).trans ?_
  rcases hb with rfl | rfl
  · simp (config := {maxSteps := 1000000}) (disch := first | omega | assumption | (simp only [qm_wid_n, qm_wid_I, qm_wid_L, qm_wid_P]; omega) | (simp only [qm_wid_n, qm_wid_I, qm_wid_L, qm_wid_P]; done) | fail) only [b_K_cut_2, b_K_cut_6, qy0, qy1, qy2, qy3, qe, qcn, qin, ↓reduceIte, Nat.reduceEqDiff, Nat.reduceLeDiff, Bool.false_eq_true, Nat.reduceAdd, Nat.reduceSub, Nat.reduceMul, Nat.reduceLT, or_self, or_false, false_or, or_true, true_or, and_self, and_true, true_and, and_false, false_and, not_true_eq_false, not_false_eq_true, hz]
  · simp (config := {maxSteps := 1000000}) (disch := first | omega | assumption | (simp only [qm_wid_n, qm_wid_I, qm_wid_L, qm_wid_P]; omega) | (simp only [qm_wid_n, qm_wid_I, qm_wid_L, qm_wid_P]; done) | fail) only [b_K_cut_2, b_K_cut_6, qy0, qy1, qy2, qy3, qe, qcn, qin, ↓reduceIte, Nat.reduceEqDiff, Nat.reduceLeDiff, Bool.false_eq_true, Nat.reduceAdd, Nat.reduceSub, Nat.reduceMul, Nat.reduceLT, or_self, or_false, false_or, or_true, true_or, and_self, and_true, true_and, and_false, false_and, not_true_eq_false, not_false_eq_true, hz]
theorem ct_w (D : Nat) {x x1 : qm_Hp} {L p k b p' : Nat} {x5 : qm_AV} (hL : L ≤ 300) (hp : p < L) (hk : k < L) (hz : zI x 52 0 p = nI b) (hb8 : b < 256) (hb : b ≠ 32 ∧ b ≠ 10) (il : qm_evM D jK_isLetter [qI (nI b)] x = some (some (qI (nI 1)), x)) (cw : qm_evM D jK_cutWord [qP 7 0, qP 52 0, qI (nI p), qI (nI L)] x = some (some (qI (nI p')), x1)) : qm_evB (D + 1) jK_cut 1 [qP 7 0, qP 52 0, qI (nI L), qI (nI p), qI (nI k), x5] [] x = qm_evB (D + 1) jK_cut 1 [qP 7 0, qP 52 0, qI (nI L), qI (nI p'), qI (nI (k + 1)), qI (nI b)] [] x1 := by
  refine (b_K_cut_1 ..).trans ?_
  simp (config := {maxSteps := 1000000}) (disch := first | omega | assumption | (simp only [qm_wid_n, qm_wid_I, qm_wid_L, qm_wid_P]; omega) | (simp only [qm_wid_n, qm_wid_I, qm_wid_L, qm_wid_P]; done) | fail) only [b_K_cut_3, b_K_cut_6, qy0, qy1, qy2, qy3, qe, qcn, qin, ↓reduceIte, Nat.reduceEqDiff, Nat.reduceLeDiff, Bool.false_eq_true, Nat.reduceAdd, Nat.reduceSub, Nat.reduceMul, Nat.reduceLT, or_self, or_false, false_or, or_true, true_or, and_self, and_true, true_and, and_false, false_and, not_true_eq_false, not_false_eq_true, hz, il, cw]
theorem ct_d (D : Nat) {x x1 : qm_Hp} {L p k b p' : Nat} {x5 : qm_AV} (hL : L ≤ 300) (hp : p < L) (hk : k < L) (hz : zI x 52 0 p = nI b) (hb8 : b < 256) (hb : b ≠ 32 ∧ b ≠ 10) (il : qm_evM D jK_isLetter [qI (nI b)] x = some (some (qI (nI 0)), x)) (id : qm_evM D jK_isDigit [qI (nI b)] x = some (some (qI (nI 1)), x)) (cw : qm_evM D jK_cutNumber [qP 7 0, qP 52 0, qI (nI p), qI (nI L)] x = some (some (qI (nI p')), x1)) : qm_evB (D + 1) jK_cut 1 [qP 7 0, qP 52 0, qI (nI L), qI (nI p), qI (nI k), x5] [] x = qm_evB (D + 1) jK_cut 1 [qP 7 0, qP 52 0, qI (nI L), qI (nI p'), qI (nI (k + 1)), qI (nI b)] [] x1 := by
  refine (b_K_cut_1 ..).trans ?_
  simp (config := {maxSteps := 1000000}) (disch := first | omega | assumption | (simp only [qm_wid_n, qm_wid_I, qm_wid_L, qm_wid_P]; omega) | (simp only [qm_wid_n, qm_wid_I, qm_wid_L, qm_wid_P]; done) | fail) only [b_K_cut_3, b_K_cut_4, b_K_cut_6, qy0, qy1, qy2, qy3, qe, qcn, qin, ↓reduceIte, Nat.reduceEqDiff, Nat.reduceLeDiff, Bool.false_eq_true, Nat.reduceAdd, Nat.reduceSub, Nat.reduceMul, Nat.reduceLT, or_self, or_false, false_or, or_true, true_or, and_self, and_true, true_and, and_false, false_and, not_true_eq_false, not_false_eq_true, hz, il, id, cw]
theorem ct_g (D : Nat) {x x1 : qm_Hp} {L p k b p' : Nat} {x5 : qm_AV} (hL : L ≤ 300) (hp : p < L) (hk : k < L) (hz : zI x 52 0 p = nI b) (hb8 : b < 256) (hb : b ≠ 32 ∧ b ≠ 10) (il : qm_evM D jK_isLetter [qI (nI b)] x = some (some (qI (nI 0)), x)) (id : qm_evM D jK_isDigit [qI (nI b)] x = some (some (qI (nI 0)), x)) (cw : qm_evM D jK_cutSign [qP 7 0, qP 52 0, qI (nI p), qI (nI L)] x = some (some (qI (nI p')), x1)) : qm_evB (D + 1) jK_cut 1 [qP 7 0, qP 52 0, qI (nI L), qI (nI p), qI (nI k), x5] [] x = qm_evB (D + 1) jK_cut 1 [qP 7 0, qP 52 0, qI (nI L), qI (nI p'), qI (nI (k + 1)), qI (nI b)] [] x1 := by
  refine (b_K_cut_1 ..).trans ?_
  simp (config := {maxSteps := 1000000}) (disch := first | omega | assumption | (simp only [qm_wid_n, qm_wid_I, qm_wid_L, qm_wid_P]; omega) | (simp only [qm_wid_n, qm_wid_I, qm_wid_L, qm_wid_P]; done) | fail) only [b_K_cut_3, b_K_cut_4, b_K_cut_5, b_K_cut_6, qy0, qy1, qy2, qy3, qe, qcn, qin, ↓reduceIte, Nat.reduceEqDiff, Nat.reduceLeDiff, Bool.false_eq_true, Nat.reduceAdd, Nat.reduceSub, Nat.reduceMul, Nat.reduceLT, or_self, or_false, false_or, or_true, true_or, and_self, and_true, true_and, and_false, false_and, not_true_eq_false, not_false_eq_true, hz, il, id, cw]
theorem ct_e (D : Nat) {x x1 : qm_Hp} {L k : Nat} {x5 : qm_AV} (hL : L ≤ 300) (hk : k ≤ L) (ka : qm_evM D jK_add [qP 7 0, qI (nI 41), qI (nI 0), qI (nI L)] x = some (none, x1)) : qm_evB (D + 1) jK_cut 1 [qP 7 0, qP 52 0, qI (nI L), qI (nI L), qI (nI k), x5] [] x = some (none, x1) := by
  refine (b_K_cut_1 ..).trans ?_
  rcases (by omega : k < L ∨ k = L) with q | q
  · simp (config := {maxSteps := 1000000}) (disch := first | omega | assumption | (simp only [qm_wid_n, qm_wid_I, qm_wid_L, qm_wid_P]; omega) | (simp only [qm_wid_n, qm_wid_I, qm_wid_L, qm_wid_P]; done) | fail) only [b_K_cut_7, qy0, qy1, qy2, qy3, qe, qcn, qin, ↓reduceIte, Nat.reduceEqDiff, Nat.reduceLeDiff, Bool.false_eq_true, Nat.reduceAdd, Nat.reduceSub, Nat.reduceMul, Nat.reduceLT, or_self, or_false, false_or, or_true, true_or, and_self, and_true, true_and, and_false, false_and, not_true_eq_false, not_false_eq_true, ka]
  · subst q
    simp (config := {maxSteps := 1000000}) (disch := first | omega | assumption | (simp only [qm_wid_n, qm_wid_I, qm_wid_L, qm_wid_P]; omega) | (simp only [qm_wid_n, qm_wid_I, qm_wid_L, qm_wid_P]; done) | fail) only [b_K_cut_7, qy0, qy1, qy2, qy3, qe, qcn, qin, ↓reduceIte, Nat.reduceEqDiff, Nat.reduceLeDiff, Bool.false_eq_true, Nat.reduceAdd, Nat.reduceSub, Nat.reduceMul, Nat.reduceLT, or_self, or_false, false_or, or_true, true_or, and_self, and_true, true_and, and_false, false_and, not_true_eq_false, not_false_eq_true, ka]
theorem wo_b (B : Nat → Nat) (f e : Nat) : ∀ cs w j sm, wo B f e cs w j sm < w + cs.count 32 ∨ wo B f e cs w j sm = 42
  | [], _, _, _ => Or.inr rfl
  | c :: cs, w, j, sm => by
    unfold wo
    by_cases h : c = 32
    · subst h
      rw [if_pos rfl, List.count_cons_self]
      by_cases q : sm = true ∧ f + j = e
      · rw [if_pos q]; left; omega
      · rw [if_neg q]
        rcases wo_b B f e cs (w + 1) 0 true with k | k
        · left; omega
        · right; exact k
    · rw [if_neg h, List.count_cons_of_ne h]
      exact wo_b B f e cs w (j + 1) _
theorem str_c : qm_str.count 32 = 30 := by decide +kernel
theorem sgn_b : ∀ b, b < 256 → 42 ≤ sgn b ∧ sgn b ≤ 56 ∧ sgn b ≠ 44 ∧ sgn b ≠ 46 := by decide +kernel
theorem nv_b (B : Nat → Nat) : ∀ n j v, v ≤ 10000 → nv B n j v ≤ 10000
  | 0, _, _, h => h
  | n + 1, j, v, h => by
    unfold nv
    by_cases q : isD (B j) = true
    · rw [if_pos q]; exact nv_b B n _ _ (Nat.min_le_left _ _)
    · rw [if_neg q]; exact h
theorem tk0_b {B : Nat → Nat} {L p : Nat} (hB : ∀ j, j < L → B j < 256) : (tk0 B L p).1 < 100 ∧ (tk0 B L p).2.1 ≤ 10000 ∧ (p < L → p < (tk0 B L p).2.2 ∧ (tk0 B L p).2.2 ≤ L) := by
  unfold tk0
  by_cases h0 : L ≤ p
  · rw [if_pos h0]; exact ⟨show (41 : Nat) < 100 by decide, Nat.zero_le _, fun h => by omega⟩
  · rw [if_neg h0]
    have e1 : L - p = (L - p - 1) + 1 := by omega
    by_cases h1 : isL (B p) = true
    · rw [if_pos h1]
      refine ⟨?_, Nat.zero_le _, fun _ => ?_⟩
      · have := wo_b B p (rwn B isL (L - p) p) qm_str 0 0 true
        rw [str_c] at this
        dsimp only
        omega
      · show p < rwn B isL (L - p) p ∧ rwn B isL (L - p) p ≤ L
        rw [e1]
        unfold rwn
        rw [if_pos h1]
        have := rwn_b B isL (L - p - 1) (p + 1)
        omega
    · rw [if_neg h1]
      by_cases h2 : isD (B p) = true
      · rw [if_pos h2]
        refine ⟨show (40 : Nat) < 100 by decide, nv_b B _ _ _ (Nat.zero_le _), fun _ => ?_⟩
        show p < rwn B isD (L - p) p ∧ rwn B isD (L - p) p ≤ L
        rw [e1]
        unfold rwn
        rw [if_pos h2]
        have := rwn_b B isD (L - p - 1) (p + 1)
        omega
      · rw [if_neg h2]
        by_cases h3 : (p + 1 < L ∧ B (p + 1) = 61) ∧ B p = 60
        · rw [if_pos h3]; exact ⟨show (44 : Nat) < 100 by decide, Nat.zero_le _, fun _ => ⟨by show p < p + 2; omega, by show p + 2 ≤ L; omega⟩⟩
        · rw [if_neg h3]
          by_cases h4 : (p + 1 < L ∧ B (p + 1) = 61) ∧ B p = 62
          · rw [if_pos h4]; exact ⟨show (46 : Nat) < 100 by decide, Nat.zero_le _, fun _ => ⟨by show p < p + 2; omega, by show p + 2 ≤ L; omega⟩⟩
          · rw [if_neg h4]
            have := sgn_b (B p) (hB p (by omega))
            exact ⟨by show sgn (B p) < 100; omega, Nat.zero_le _, fun _ => ⟨by show p < p + 1; omega, by show p + 1 ≤ L; omega⟩⟩
theorem skp_s {B : Nat → Nat} {L p : Nat} (hp : p < L) (h : isS (B p) = true) : skp B L p = skp B L (p + 1) := by
  unfold skp
  rw [show L - p = (L - (p + 1)) + 1 by omega]
  show (if isS (B p) = true then rwn B isS (L - (p + 1)) (p + 1) else p) = _
  rw [if_pos h]
theorem skp_n {B : Nat → Nat} {L p : Nat} (h : p < L → ¬ isS (B p) = true) : skp B L p = p := by
  unfold skp
  by_cases hp : p < L
  · rw [show L - p = (L - (p + 1)) + 1 by omega]
    show (if isS (B p) = true then rwn B isS (L - (p + 1)) (p + 1) else p) = _
    rw [if_neg (h hp)]
  · rw [show L - p = 0 by omega]; rfl
theorem c_cutSign (d : Nat) {B : Nat → Nat} {x : qm_Hp} {f L c : Nat} (h : BY B L x) (hf : f < L) (hl : ¬ isL (B f) = true) (hd : ¬ isD (B f) = true) (hc : c ≤ 300) (h3 : zI x 7 0 3 = nI c) : qm_evM (d + 1) jK_cutSign [qP 7 0, qP 52 0, qI (nI f), qI (nI L)] x = some (some (qI (nI (tk0 B L f).2.2)), kad x c (tk0 B L f).1 (tk0 B L f).2.1 f) := by
  have hL := h.1
  obtain ⟨hz, hb⟩ := h.2 f hf
  have ka := fun t => c_kadd d hc h3 t 0 f
  have sg := c_signOf d x hb
  unfold tk0
  rw [if_neg (by omega), if_neg hl, if_neg hd]
  by_cases h1 : f + 1 < L
  · obtain ⟨hz1, hb1⟩ := h.2 (f + 1) h1
    by_cases e : B (f + 1) = 61
    · rw [e] at hz1
      by_cases q1 : B f = 60
      · rw [if_pos ⟨⟨h1, e⟩, q1⟩]
        rw [q1] at hz
        exact cs_1 d (b := 0) hL h1 hz hz1 (ka 44)
      · rw [if_neg (fun g => q1 g.2)]
        by_cases q2 : B f = 62
        · rw [if_pos ⟨⟨h1, e⟩, q2⟩]
          rw [q2] at hz
          exact cs_2 d (b := 0) hL h1 hz hz1 (ka 46)
        · rw [if_neg (fun g => q2 g.2)]
          exact cs_3 d hL h1 hb q1 q2 hz hz1 sg (ka _)
    · rw [if_neg (fun g => e g.1.2), if_neg (fun g => e g.1.2)]
      exact cs_4 d hL h1 hb1 e hz hz1 sg (ka _)
  · rw [if_neg (fun g => h1 g.1.1), if_neg (fun g => h1 g.1.1)]
    exact cs_5 d hL (by omega) hz sg (ka _)
theorem tk0_n {B : Nat → Nat} {L p : Nat} (hp : p < L) (hB : ∀ j, j < L → B j < 256) : (tk0 B L p).1 ≠ 41 := by
  unfold tk0
  rw [if_neg (by omega)]
  by_cases h1 : isL (B p) = true
  · rw [if_pos h1]
    have := wo_b B p (rwn B isL (L - p) p) qm_str 0 0 true
    rw [str_c] at this
    dsimp only
    omega
  · rw [if_neg h1]
    by_cases h2 : isD (B p) = true
    · rw [if_pos h2]; exact show (40 : Nat) ≠ 41 by decide
    · rw [if_neg h2]
      by_cases h3 : (p + 1 < L ∧ B (p + 1) = 61) ∧ B p = 60
      · rw [if_pos h3]; exact show (44 : Nat) ≠ 41 by decide
      · rw [if_neg h3]
        by_cases h4 : (p + 1 < L ∧ B (p + 1) = 61) ∧ B p = 62
        · rw [if_pos h4]; exact show (46 : Nat) ≠ 41 by decide
        · rw [if_neg h4]
          have := sgn_b (B p) (hB p hp)
          dsimp only
          omega
