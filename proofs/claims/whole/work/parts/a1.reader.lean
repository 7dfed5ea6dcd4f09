/-! the class's reader: small methods -/
def KT (Tk Vl Pc : Nat → Nat) (E : Nat) (x : qm_Hp) : Prop := zI x 7 0 3 = nI (E + 1) ∧ ∀ i, i ≤ E → zI x 43 0 i = nI (Tk i) ∧ zI x 44 0 i = nI (Vl i) ∧ zI x 45 0 i = nI (Pc i)
theorem c_tokenA (d : Nat) {Tk Vl Pc : Nat → Nat} {E i : Nat} {x : qm_Hp} (hE : E ≤ 300) (hK : KT Tk Vl Pc E x) (hat : zI x 6 0 2 = nI i) (hi : i ≤ E) : qm_evM (d + 1) jR_token [qP 6 0] x = some (some (qI (nI (Tk i))), x) := by
  have h3 := hK.1
  have h43 := (hK.2 i hi).1
  have e1 : E + 1 - 1 = E := rfl
  simp (config := {maxSteps := 1000000}) (disch := first | omega | assumption | (simp only [qm_wid_n, qm_wid_I, qm_wid_L, qm_wid_P]; omega) | (simp only [qm_wid_n, qm_wid_I, qm_wid_L, qm_wid_P]; done) | fail) only [e_R_token, b_R_token_0, b_R_token_1, b_R_token_2, qy0, qy1, qy2, qy3, qe, qcn, qin, ↓reduceIte, Nat.reduceEqDiff, Nat.reduceLeDiff, Bool.false_eq_true, Nat.reduceAdd, Nat.reduceSub, Nat.reduceMul, Nat.reduceLT, or_self, or_false, false_or, or_true, true_or, and_self, and_true, true_and, and_false, false_and, not_true_eq_false, not_false_eq_true, hat, h3, e1, t_within, h43]
theorem c_numberA (d : Nat) {Tk Vl Pc : Nat → Nat} {E i : Nat} {x : qm_Hp} (hE : E ≤ 300) (hK : KT Tk Vl Pc E x) (hat : zI x 6 0 2 = nI i) (hi : i ≤ E) : qm_evM (d + 1) jR_number [qP 6 0] x = some (some (qI (nI (Vl i))), x) := by
  have h3 := hK.1
  have h43 := (hK.2 i hi).2.1
  have e1 : E + 1 - 1 = E := rfl
  simp (config := {maxSteps := 1000000}) (disch := first | omega | assumption | (simp only [qm_wid_n, qm_wid_I, qm_wid_L, qm_wid_P]; omega) | (simp only [qm_wid_n, qm_wid_I, qm_wid_L, qm_wid_P]; done) | fail) only [e_R_number, b_R_number_0, b_R_number_1, b_R_number_2, qy0, qy1, qy2, qy3, qe, qcn, qin, ↓reduceIte, Nat.reduceEqDiff, Nat.reduceLeDiff, Bool.false_eq_true, Nat.reduceAdd, Nat.reduceSub, Nat.reduceMul, Nat.reduceLT, or_self, or_false, false_or, or_true, true_or, and_self, and_true, true_and, and_false, false_and, not_true_eq_false, not_false_eq_true, hat, h3, e1, t_within, h43]
theorem c_stepA (d : Nat) {Tk Vl Pc : Nat → Nat} {E i : Nat} {x : qm_Hp} (hE : E ≤ 300) (hK : KT Tk Vl Pc E x) (hat : zI x 6 0 2 = nI i) (hf : zI x 6 0 4 = nI 0) (hi : i < E) : qm_evM d jR_step [qP 6 0] x = some (none, uI x 6 0 2 (nI (i + 1))) := by
  have h3 := hK.1
  simp (config := {maxSteps := 1000000}) (disch := first | omega | assumption | (simp only [qm_wid_n, qm_wid_I, qm_wid_L, qm_wid_P]; omega) | (simp only [qm_wid_n, qm_wid_I, qm_wid_L, qm_wid_P]; done) | fail) only [e_R_step, b_R_step_0, b_R_step_1, qy0, qy1, qy2, qy3, qe, qcn, qin, ↓reduceIte, Nat.reduceEqDiff, Nat.reduceLeDiff, Bool.false_eq_true, Nat.reduceAdd, Nat.reduceSub, Nat.reduceMul, Nat.reduceLT, or_self, or_false, false_or, or_true, true_or, and_self, and_true, true_and, and_false, false_and, not_true_eq_false, not_false_eq_true, hat, h3, hf]
theorem c_stepF (d : Nat) {f : Nat} {x : qm_Hp} (hf : zI x 6 0 4 = nI f) (h1 : 1 ≤ f ∧ f ≤ 9) : qm_evM d jR_step [qP 6 0] x = some (none, x) := by
  simp (config := {maxSteps := 1000000}) (disch := first | omega | assumption | (simp only [qm_wid_n, qm_wid_I, qm_wid_L, qm_wid_P]; omega) | (simp only [qm_wid_n, qm_wid_I, qm_wid_L, qm_wid_P]; done) | fail) only [e_R_step, b_R_step_0, b_R_step_1, qy0, qy1, qy2, qy3, qe, qcn, qin, ↓reduceIte, Nat.reduceEqDiff, Nat.reduceLeDiff, Bool.false_eq_true, Nat.reduceAdd, Nat.reduceSub, Nat.reduceMul, Nat.reduceLT, or_self, or_false, false_or, or_true, true_or, and_self, and_true, true_and, and_false, false_and, not_true_eq_false, not_false_eq_true, hf]
theorem c_failA (d : Nat) {Tk Vl Pc : Nat → Nat} {E i : Nat} {x : qm_Hp} (hE : E ≤ 300) (hK : KT Tk Vl Pc E x) (hat : zI x 6 0 2 = nI i) (hf : zI x 6 0 4 = nI 0) (hi : i ≤ E) (f : Nat) : qm_evM (d + 1) jR_fail [qP 6 0, qI (nI f)] x = some (none, uI (uI x 6 0 4 (nI f)) 6 0 5 (nI (Pc i))) := by
  have h3 := hK.1
  have h45 := (hK.2 i hi).2.2
  have e1 : E + 1 - 1 = E := rfl
  simp (config := {maxSteps := 1000000}) (disch := first | omega | assumption | (simp only [qm_wid_n, qm_wid_I, qm_wid_L, qm_wid_P]; omega) | (simp only [qm_wid_n, qm_wid_I, qm_wid_L, qm_wid_P]; done) | fail) only [e_R_fail, b_R_fail_0, b_R_fail_1, b_R_fail_2, b_R_fail_3, qy0, qy1, qy2, qy3, qe, qcn, qin, ↓reduceIte, Nat.reduceEqDiff, Nat.reduceLeDiff, Bool.false_eq_true, Nat.reduceAdd, Nat.reduceSub, Nat.reduceMul, Nat.reduceLT, or_self, or_false, false_or, or_true, true_or, and_self, and_true, true_and, and_false, false_and, not_true_eq_false, not_false_eq_true, hat, h3, hf, e1, t_within, h45, zI_uI]
theorem c_failF (d : Nat) {f : Nat} {x : qm_Hp} (hf : zI x 6 0 4 = nI f) (h1 : 1 ≤ f ∧ f ≤ 9) (g : Int32) : qm_evM (d + 1) jR_fail [qP 6 0, qI g] x = some (none, x) := by
  simp (config := {maxSteps := 1000000}) (disch := first | omega | assumption | (simp only [qm_wid_n, qm_wid_I, qm_wid_L, qm_wid_P]; omega) | (simp only [qm_wid_n, qm_wid_I, qm_wid_L, qm_wid_P]; done) | fail) only [e_R_fail, b_R_fail_0, b_R_fail_1, b_R_fail_2, b_R_fail_3, qy0, qy1, qy2, qy3, qe, qcn, qin, ↓reduceIte, Nat.reduceEqDiff, Nat.reduceLeDiff, Bool.false_eq_true, Nat.reduceAdd, Nat.reduceSub, Nat.reduceMul, Nat.reduceLT, or_self, or_false, false_or, or_true, true_or, and_self, and_true, true_and, and_false, false_and, not_true_eq_false, not_false_eq_true, hf]
/-- a code written -/
def hem (x : qm_Hp) (t u cl c : Nat) : qm_Hp := uI (uI (uI x 31 t u (nI c)) 4 t 5 (nI (u + 1))) 34 t (cl - 1) (nI (u + 1))
theorem c_temit (d : Nat) {x : qm_Hp} {t u cl : Nat} (hcl : 1 ≤ cl ∧ cl ≤ 20) (hu : u < 300) (h5 : zI x 4 t 5 = nI u) (h6 : zI x 4 t 6 = nI cl) (c : Nat) : qm_evM d jT_emit [qP 4 t, qI (nI c)] x = some (none, hem x t u cl c) := by
  unfold hem
  simp (config := {maxSteps := 1000000}) (disch := first | omega | assumption | (simp only [qm_wid_n, qm_wid_I, qm_wid_L, qm_wid_P]; omega) | (simp only [qm_wid_n, qm_wid_I, qm_wid_L, qm_wid_P]; done) | fail) only [e_T_emit, b_T_emit_0, b_T_emit_1, qy0, qy1, qy2, qy3, qe, qcn, qin, ↓reduceIte, Nat.reduceEqDiff, Nat.reduceLeDiff, Bool.false_eq_true, Nat.reduceAdd, Nat.reduceSub, Nat.reduceMul, Nat.reduceLT, or_self, or_false, false_or, or_true, true_or, and_self, and_true, true_and, and_false, false_and, not_true_eq_false, not_false_eq_true, h5, h6, zI_uI]
theorem c_emitA (d : Nat) {x : qm_Hp} {t u cl : Nat} (hcl : 1 ≤ cl ∧ cl ≤ 20) (hu : u < 300) (hf : zI x 6 0 4 = nI 0) (ht : zP x 6 0 1 = (4, t)) (h5 : zI x 4 t 5 = nI u) (h6 : zI x 4 t 6 = nI cl) (c : Nat) : qm_evM (d + 1) jR_emit [qP 6 0, qI (nI c)] x = some (none, hem x t u cl c) := by
  have he := c_temit d hcl hu h5 h6 c
  simp (config := {maxSteps := 1000000}) (disch := first | omega | assumption | (simp only [qm_wid_n, qm_wid_I, qm_wid_L, qm_wid_P]; omega) | (simp only [qm_wid_n, qm_wid_I, qm_wid_L, qm_wid_P]; done) | fail) only [e_R_emit, b_R_emit_0, b_R_emit_1, qy0, qy1, qy2, qy3, qe, qcn, qin, ↓reduceIte, Nat.reduceEqDiff, Nat.reduceLeDiff, Bool.false_eq_true, Nat.reduceAdd, Nat.reduceSub, Nat.reduceMul, Nat.reduceLT, or_self, or_false, false_or, or_true, true_or, and_self, and_true, true_and, and_false, false_and, not_true_eq_false, not_false_eq_true, hf, ht, x_null _ _ _ _ _ _ _ 4 _ (show ¬ (4 : Nat) = 0 by decide), he]
theorem c_emitF (d : Nat) {f : Nat} {x : qm_Hp} (hf : zI x 6 0 4 = nI f) (h1 : 1 ≤ f ∧ f ≤ 9) (g : Int32) : qm_evM (d + 1) jR_emit [qP 6 0, qI g] x = some (none, x) := by
  simp (config := {maxSteps := 1000000}) (disch := first | omega | assumption | (simp only [qm_wid_n, qm_wid_I, qm_wid_L, qm_wid_P]; omega) | (simp only [qm_wid_n, qm_wid_I, qm_wid_L, qm_wid_P]; done) | fail) only [e_R_emit, b_R_emit_0, b_R_emit_1, qy0, qy1, qy2, qy3, qe, qcn, qin, ↓reduceIte, Nat.reduceEqDiff, Nat.reduceLeDiff, Bool.false_eq_true, Nat.reduceAdd, Nat.reduceSub, Nat.reduceMul, Nat.reduceLT, or_self, or_false, false_or, or_true, true_or, and_self, and_true, true_and, and_false, false_and, not_true_eq_false, not_false_eq_true, hf]
theorem c_expY (d : Nat) {Tk Vl Pc : Nat → Nat} {E i : Nat} {x : qm_Hp} (hE : E ≤ 300) (hK : KT Tk Vl Pc E x) (hat : zI x 6 0 2 = nI i) (hf : zI x 6 0 4 = nI 0) (hi : i < E) (c : Nat) (hc : Tk i = c) : qm_evM (d + 2) jR_expect [qP 6 0, qI (nI c)] x = some (none, uI x 6 0 2 (nI (i + 1))) := by
  subst hc
  have h1 := c_tokenA d hE hK hat (by omega)
  have h2 := c_stepA (d + 1) hE hK hat hf hi
  simp (config := {maxSteps := 1000000}) (disch := first | omega | assumption | (simp only [qm_wid_n, qm_wid_I, qm_wid_L, qm_wid_P]; omega) | (simp only [qm_wid_n, qm_wid_I, qm_wid_L, qm_wid_P]; done) | fail) only [e_R_expect, b_R_expect_0, b_R_expect_1, b_R_expect_2, qy0, qy1, qy2, qy3, qe, qcn, qin, ↓reduceIte, Nat.reduceEqDiff, Nat.reduceLeDiff, Bool.false_eq_true, Nat.reduceAdd, Nat.reduceSub, Nat.reduceMul, Nat.reduceLT, or_self, or_false, false_or, or_true, true_or, and_self, and_true, true_and, and_false, false_and, not_true_eq_false, not_false_eq_true, h1, h2]
theorem c_expN (d : Nat) {Tk Vl Pc : Nat → Nat} {E i : Nat} {x : qm_Hp} (hE : E ≤ 300) (hK : KT Tk Vl Pc E x) (hat : zI x 6 0 2 = nI i) (hf : zI x 6 0 4 = nI 0) (hi : i ≤ E) (c : Nat) (hc : ¬ Tk i = c) (hb : Tk i < 100 ∧ c < 100) : qm_evM (d + 2) jR_expect [qP 6 0, qI (nI c)] x = some (none, uI (uI x 6 0 4 (nI 1)) 6 0 5 (nI (Pc i))) := by
  have h1 := c_tokenA d hE hK hat hi
  have h2 := c_failA d hE hK hat hf hi 1
  simp (config := {maxSteps := 1000000}) (disch := first | omega | assumption | (simp only [qm_wid_n, qm_wid_I, qm_wid_L, qm_wid_P]; omega) | (simp only [qm_wid_n, qm_wid_I, qm_wid_L, qm_wid_P]; done) | fail) only [e_R_expect, b_R_expect_0, b_R_expect_1, b_R_expect_2, qy0, qy1, qy2, qy3, qe, qcn, qin, ↓reduceIte, Nat.reduceEqDiff, Nat.reduceLeDiff, Bool.false_eq_true, Nat.reduceAdd, Nat.reduceSub, Nat.reduceMul, Nat.reduceLT, or_self, or_false, false_or, or_true, true_or, and_self, and_true, true_and, and_false, false_and, not_true_eq_false, not_false_eq_true, h1, h2]
theorem c_expF (d : Nat) {Tk Vl Pc : Nat → Nat} {E i f : Nat} {x : qm_Hp} (hE : E ≤ 300) (hK : KT Tk Vl Pc E x) (hat : zI x 6 0 2 = nI i) (hi : i ≤ E) (hf : zI x 6 0 4 = nI f) (h1 : 1 ≤ f ∧ f ≤ 9) (c : Nat) (hb : Tk i < 100 ∧ c < 100) : qm_evM (d + 2) jR_expect [qP 6 0, qI (nI c)] x = some (none, x) := by
  have g1 := c_tokenA d hE hK hat hi
  have g2 := c_failF d hf h1 (nI 1)
  have g3 := c_stepF (d + 1) hf h1
  by_cases h : Tk i = c
  · subst h
    simp (config := {maxSteps := 1000000}) (disch := first | omega | assumption | (simp only [qm_wid_n, qm_wid_I, qm_wid_L, qm_wid_P]; omega) | (simp only [qm_wid_n, qm_wid_I, qm_wid_L, qm_wid_P]; done) | fail) only [e_R_expect, b_R_expect_0, b_R_expect_1, b_R_expect_2, qy0, qy1, qy2, qy3, qe, qcn, qin, ↓reduceIte, Nat.reduceEqDiff, Nat.reduceLeDiff, Bool.false_eq_true, Nat.reduceAdd, Nat.reduceSub, Nat.reduceMul, Nat.reduceLT, or_self, or_false, false_or, or_true, true_or, and_self, and_true, true_and, and_false, false_and, not_true_eq_false, not_false_eq_true, g1, g3]
  · simp (config := {maxSteps := 1000000}) (disch := first | omega | assumption | (simp only [qm_wid_n, qm_wid_I, qm_wid_L, qm_wid_P]; omega) | (simp only [qm_wid_n, qm_wid_I, qm_wid_L, qm_wid_P]; done) | fail) only [e_R_expect, b_R_expect_0, b_R_expect_1, b_R_expect_2, qy0, qy1, qy2, qy3, qe, qcn, qin, ↓reduceIte, Nat.reduceEqDiff, Nat.reduceLeDiff, Bool.false_eq_true, Nat.reduceAdd, Nat.reduceSub, Nat.reduceMul, Nat.reduceLT, or_self, or_false, false_or, or_true, true_or, and_self, and_true, true_and, and_false, false_and, not_true_eq_false, not_false_eq_true, g1, g2]
theorem c_opensY (d : Nat) {Tk Vl Pc : Nat → Nat} {E i o : Nat} {x : qm_Hp} (hE : E ≤ 300) (hK : KT Tk Vl Pc E x) (hat : zI x 6 0 2 = nI i) (hf : zI x 6 0 4 = nI 0) (hi : i < E) (ho : o < 8) : qm_evM (d + 2) jR_opens [qP 6 0, qI (nI o)] x = some (some (qI (nI 1)), uI x 6 0 2 (nI (i + 1))) := by
  have h2 := c_stepA (d + 1) hE hK hat hf hi
  simp (config := {maxSteps := 1000000}) (disch := first | omega | assumption | (simp only [qm_wid_n, qm_wid_I, qm_wid_L, qm_wid_P]; omega) | (simp only [qm_wid_n, qm_wid_I, qm_wid_L, qm_wid_P]; done) | fail) only [e_R_opens, b_R_opens_0, b_R_opens_1, qy0, qy1, qy2, qy3, qe, qcn, qin, ↓reduceIte, Nat.reduceEqDiff, Nat.reduceLeDiff, Bool.false_eq_true, Nat.reduceAdd, Nat.reduceSub, Nat.reduceMul, Nat.reduceLT, or_self, or_false, false_or, or_true, true_or, and_self, and_true, true_and, and_false, false_and, not_true_eq_false, not_false_eq_true, h2]
theorem c_opensN (d : Nat) {Tk Vl Pc : Nat → Nat} {E i o : Nat} {x : qm_Hp} (hE : E ≤ 300) (hK : KT Tk Vl Pc E x) (hat : zI x 6 0 2 = nI i) (hf : zI x 6 0 4 = nI 0) (hi : i ≤ E) (ho : 8 ≤ o) (ho2 : o < 100) : qm_evM (d + 2) jR_opens [qP 6 0, qI (nI o)] x = some (some (qI (nI 0)), uI (uI x 6 0 4 (nI 3)) 6 0 5 (nI (Pc i))) := by
  have h2 := c_failA d hE hK hat hf hi 3
  simp (config := {maxSteps := 1000000}) (disch := first | omega | assumption | (simp only [qm_wid_n, qm_wid_I, qm_wid_L, qm_wid_P]; omega) | (simp only [qm_wid_n, qm_wid_I, qm_wid_L, qm_wid_P]; done) | fail) only [e_R_opens, b_R_opens_0, b_R_opens_1, qy0, qy1, qy2, qy3, qe, qcn, qin, ↓reduceIte, Nat.reduceEqDiff, Nat.reduceLeDiff, Bool.false_eq_true, Nat.reduceAdd, Nat.reduceSub, Nat.reduceMul, Nat.reduceLT, or_self, or_false, false_or, or_true, true_or, and_self, and_true, true_and, and_false, false_and, not_true_eq_false, not_false_eq_true, h2]
theorem c_levelOf (d : Nat) (s : qm_Hp) (t : Nat) (ht : t < 100) : qm_evM d jR_levelOf [qI (nI t)] s = some (some (qI (if lvl t = 9 then N1 else nI (lvl t))), s) := by
  by_cases h27 : t = 27
  · subst h27
    have sw : qm_lk [27, 2, 28, 1, 49, 3, 50, 3, 51, 4, 52, 4] (nI 27) 5 = 2 := by decide +kernel
    simp (config := {maxSteps := 1000000}) (disch := first | omega | assumption | (simp only [qm_wid_n, qm_wid_I, qm_wid_L, qm_wid_P]; omega) | (simp only [qm_wid_n, qm_wid_I, qm_wid_L, qm_wid_P]; done) | fail) only [e_R_levelOf, b_R_levelOf_0, b_R_levelOf_1, b_R_levelOf_2, b_R_levelOf_3, b_R_levelOf_4, b_R_levelOf_5, qy0, qy1, qy2, qy3, qe, qcn, qin, ↓reduceIte, Nat.reduceEqDiff, Nat.reduceLeDiff, Bool.false_eq_true, Nat.reduceAdd, Nat.reduceSub, Nat.reduceMul, Nat.reduceLT, or_self, or_false, false_or, or_true, true_or, and_self, and_true, true_and, and_false, false_and, not_true_eq_false, not_false_eq_true, sw]
    rfl
  · by_cases h28 : t = 28
    · subst h28
      have sw : qm_lk [27, 2, 28, 1, 49, 3, 50, 3, 51, 4, 52, 4] (nI 28) 5 = 1 := by decide +kernel
      simp (config := {maxSteps := 1000000}) (disch := first | omega | assumption | (simp only [qm_wid_n, qm_wid_I, qm_wid_L, qm_wid_P]; omega) | (simp only [qm_wid_n, qm_wid_I, qm_wid_L, qm_wid_P]; done) | fail) only [e_R_levelOf, b_R_levelOf_0, b_R_levelOf_1, b_R_levelOf_2, b_R_levelOf_3, b_R_levelOf_4, b_R_levelOf_5, qy0, qy1, qy2, qy3, qe, qcn, qin, ↓reduceIte, Nat.reduceEqDiff, Nat.reduceLeDiff, Bool.false_eq_true, Nat.reduceAdd, Nat.reduceSub, Nat.reduceMul, Nat.reduceLT, or_self, or_false, false_or, or_true, true_or, and_self, and_true, true_and, and_false, false_and, not_true_eq_false, not_false_eq_true, sw]
      rfl
    · by_cases h3 : t = 49 ∨ t = 50
      · have sw : qm_lk [27, 2, 28, 1, 49, 3, 50, 3, 51, 4, 52, 4] (nI t) 5 = 3 := by rcases h3 with h | h <;> subst h <;> decide +kernel
        have e : lvl t = 3 := by rcases h3 with h | h <;> subst h <;> decide
        rw [e, if_neg (by decide)]
        simp (config := {maxSteps := 1000000}) (disch := first | omega | assumption | (simp only [qm_wid_n, qm_wid_I, qm_wid_L, qm_wid_P]; omega) | (simp only [qm_wid_n, qm_wid_I, qm_wid_L, qm_wid_P]; done) | fail) only [e_R_levelOf, b_R_levelOf_0, b_R_levelOf_1, b_R_levelOf_2, b_R_levelOf_3, b_R_levelOf_4, b_R_levelOf_5, qy0, qy1, qy2, qy3, qe, qcn, qin, ↓reduceIte, Nat.reduceEqDiff, Nat.reduceLeDiff, Bool.false_eq_true, Nat.reduceAdd, Nat.reduceSub, Nat.reduceMul, Nat.reduceLT, or_self, or_false, false_or, or_true, true_or, and_self, and_true, true_and, and_false, false_and, not_true_eq_false, not_false_eq_true, sw]
      · by_cases h4 : t = 51 ∨ t = 52
        · have sw : qm_lk [27, 2, 28, 1, 49, 3, 50, 3, 51, 4, 52, 4] (nI t) 5 = 4 := by rcases h4 with h | h <;> subst h <;> decide +kernel
          have e : lvl t = 4 := by rcases h4 with h | h <;> subst h <;> decide
          rw [e, if_neg (by decide)]
          simp (config := {maxSteps := 1000000}) (disch := first | omega | assumption | (simp only [qm_wid_n, qm_wid_I, qm_wid_L, qm_wid_P]; omega) | (simp only [qm_wid_n, qm_wid_I, qm_wid_L, qm_wid_P]; done) | fail) only [e_R_levelOf, b_R_levelOf_0, b_R_levelOf_1, b_R_levelOf_2, b_R_levelOf_3, b_R_levelOf_4, b_R_levelOf_5, qy0, qy1, qy2, qy3, qe, qcn, qin, ↓reduceIte, Nat.reduceEqDiff, Nat.reduceLeDiff, Bool.false_eq_true, Nat.reduceAdd, Nat.reduceSub, Nat.reduceMul, Nat.reduceLT, or_self, or_false, false_or, or_true, true_or, and_self, and_true, true_and, and_false, false_and, not_true_eq_false, not_false_eq_true, sw]
        · have e : lvl t = 9 := by unfold lvl; rw [if_neg h28, if_neg h27, if_neg h3, if_neg h4]
          have ne : ∀ k, k < 100 → t ≠ k → ¬ nI t = Int32.ofNat k := fun k hk h g => h ((nI_eq (by omega) (by omega)).mp g)
          have sw : qm_lk [27, 2, 28, 1, 49, 3, 50, 3, 51, 4, 52, 4] (nI t) 5 = 5 := by
            unfold qm_lk
            rw [if_neg (ne 27 (by decide) h27)]
            unfold qm_lk
            rw [if_neg (ne 28 (by decide) h28)]
            unfold qm_lk
            rw [if_neg (ne 49 (by decide) (by omega))]
            unfold qm_lk
            rw [if_neg (ne 50 (by decide) (by omega))]
            unfold qm_lk
            rw [if_neg (ne 51 (by decide) (by omega))]
            unfold qm_lk
            rw [if_neg (ne 52 (by decide) (by omega))]
            rfl
          rw [e, if_pos rfl]
          simp (config := {maxSteps := 1000000}) (disch := first | omega | assumption | (simp only [qm_wid_n, qm_wid_I, qm_wid_L, qm_wid_P]; omega) | (simp only [qm_wid_n, qm_wid_I, qm_wid_L, qm_wid_P]; done) | fail) only [e_R_levelOf, b_R_levelOf_0, b_R_levelOf_1, b_R_levelOf_2, b_R_levelOf_3, b_R_levelOf_4, b_R_levelOf_5, qy0, qy1, qy2, qy3, qe, qcn, qin, ↓reduceIte, Nat.reduceEqDiff, Nat.reduceLeDiff, Bool.false_eq_true, Nat.reduceAdd, Nat.reduceSub, Nat.reduceMul, Nat.reduceLT, or_self, or_false, false_or, or_true, true_or, and_self, and_true, true_and, and_false, false_and, not_true_eq_false, not_false_eq_true, sw]
/-- a sort's names, as the class has it -/
theorem c_isName (d : Nat) {x : qm_Hp} {a v : Nat} (ha : a ≤ 5) (hv : v < 17) (h3 : zI x 6 0 3 = nI (17 + a)) : qm_evM d jR_isNameOfClause [qP 6 0, qI (nI v)] x = some (some (qI (if nmb a v = true then nI 1 else nI 0)), x) := by
  unfold nmb
  simp only [decide_eq_true_eq]
  by_cases h12 : v = 12
  · rw [if_pos (Or.inl h12)]
    subst h12
    simp (config := {maxSteps := 1000000}) (disch := first | omega | assumption | (simp only [qm_wid_n, qm_wid_I, qm_wid_L, qm_wid_P]; omega) | (simp only [qm_wid_n, qm_wid_I, qm_wid_L, qm_wid_P]; done) | fail) only [e_R_isNameOfClause, b_R_isNameOfClause_0, b_R_isNameOfClause_1, b_R_isNameOfClause_2, b_R_isNameOfClause_3, b_R_isNameOfClause_4, b_R_isNameOfClause_5, b_R_isNameOfClause_6, b_R_isNameOfClause_7, b_R_isNameOfClause_8, qy0, qy1, qy2, qy3, qe, qcn, qin, ↓reduceIte, Nat.reduceEqDiff, Nat.reduceLeDiff, Bool.false_eq_true, Nat.reduceAdd, Nat.reduceSub, Nat.reduceMul, Nat.reduceLT, or_self, or_false, false_or, or_true, true_or, and_self, and_true, true_and, and_false, false_and, not_true_eq_false, not_false_eq_true]
  · by_cases h2 : a = 2
    · subst h2
      by_cases h13 : 13 ≤ v
      · rw [if_pos (by omega)]
        simp (config := {maxSteps := 1000000}) (disch := first | omega | assumption | (simp only [qm_wid_n, qm_wid_I, qm_wid_L, qm_wid_P]; omega) | (simp only [qm_wid_n, qm_wid_I, qm_wid_L, qm_wid_P]; done) | fail) only [e_R_isNameOfClause, b_R_isNameOfClause_0, b_R_isNameOfClause_1, b_R_isNameOfClause_2, b_R_isNameOfClause_3, b_R_isNameOfClause_4, b_R_isNameOfClause_5, b_R_isNameOfClause_6, b_R_isNameOfClause_7, b_R_isNameOfClause_8, qy0, qy1, qy2, qy3, qe, qcn, qin, ↓reduceIte, Nat.reduceEqDiff, Nat.reduceLeDiff, Bool.false_eq_true, Nat.reduceAdd, Nat.reduceSub, Nat.reduceMul, Nat.reduceLT, or_self, or_false, false_or, or_true, true_or, and_self, and_true, true_and, and_false, false_and, not_true_eq_false, not_false_eq_true, h3]
      · rw [if_neg (by omega)]
        simp (config := {maxSteps := 1000000}) (disch := first | omega | assumption | (simp only [qm_wid_n, qm_wid_I, qm_wid_L, qm_wid_P]; omega) | (simp only [qm_wid_n, qm_wid_I, qm_wid_L, qm_wid_P]; done) | fail) only [e_R_isNameOfClause, b_R_isNameOfClause_0, b_R_isNameOfClause_1, b_R_isNameOfClause_2, b_R_isNameOfClause_3, b_R_isNameOfClause_4, b_R_isNameOfClause_5, b_R_isNameOfClause_6, b_R_isNameOfClause_7, b_R_isNameOfClause_8, qy0, qy1, qy2, qy3, qe, qcn, qin, ↓reduceIte, Nat.reduceEqDiff, Nat.reduceLeDiff, Bool.false_eq_true, Nat.reduceAdd, Nat.reduceSub, Nat.reduceMul, Nat.reduceLT, or_self, or_false, false_or, or_true, true_or, and_self, and_true, true_and, and_false, false_and, not_true_eq_false, not_false_eq_true, h3]
    · by_cases h0 : a = 0
      · subst h0
        by_cases hq : v < 12
        · rw [if_pos (by omega)]
          simp (config := {maxSteps := 1000000}) (disch := first | omega | assumption | (simp only [qm_wid_n, qm_wid_I, qm_wid_L, qm_wid_P]; omega) | (simp only [qm_wid_n, qm_wid_I, qm_wid_L, qm_wid_P]; done) | fail) only [e_R_isNameOfClause, b_R_isNameOfClause_0, b_R_isNameOfClause_1, b_R_isNameOfClause_2, b_R_isNameOfClause_3, b_R_isNameOfClause_4, b_R_isNameOfClause_5, b_R_isNameOfClause_6, b_R_isNameOfClause_7, b_R_isNameOfClause_8, qy0, qy1, qy2, qy3, qe, qcn, qin, ↓reduceIte, Nat.reduceEqDiff, Nat.reduceLeDiff, Bool.false_eq_true, Nat.reduceAdd, Nat.reduceSub, Nat.reduceMul, Nat.reduceLT, or_self, or_false, false_or, or_true, true_or, and_self, and_true, true_and, and_false, false_and, not_true_eq_false, not_false_eq_true, h3]
        · rw [if_neg (by omega)]
          simp (config := {maxSteps := 1000000}) (disch := first | omega | assumption | (simp only [qm_wid_n, qm_wid_I, qm_wid_L, qm_wid_P]; omega) | (simp only [qm_wid_n, qm_wid_I, qm_wid_L, qm_wid_P]; done) | fail) only [e_R_isNameOfClause, b_R_isNameOfClause_0, b_R_isNameOfClause_1, b_R_isNameOfClause_2, b_R_isNameOfClause_3, b_R_isNameOfClause_4, b_R_isNameOfClause_5, b_R_isNameOfClause_6, b_R_isNameOfClause_7, b_R_isNameOfClause_8, qy0, qy1, qy2, qy3, qe, qcn, qin, ↓reduceIte, Nat.reduceEqDiff, Nat.reduceLeDiff, Bool.false_eq_true, Nat.reduceAdd, Nat.reduceSub, Nat.reduceMul, Nat.reduceLT, or_self, or_false, false_or, or_true, true_or, and_self, and_true, true_and, and_false, false_and, not_true_eq_false, not_false_eq_true, h3]
      · by_cases hq : v < 8
        · rw [if_pos (by omega)]
          simp (config := {maxSteps := 1000000}) (disch := first | omega | assumption | (simp only [qm_wid_n, qm_wid_I, qm_wid_L, qm_wid_P]; omega) | (simp only [qm_wid_n, qm_wid_I, qm_wid_L, qm_wid_P]; done) | fail) only [e_R_isNameOfClause, b_R_isNameOfClause_0, b_R_isNameOfClause_1, b_R_isNameOfClause_2, b_R_isNameOfClause_3, b_R_isNameOfClause_4, b_R_isNameOfClause_5, b_R_isNameOfClause_6, b_R_isNameOfClause_7, b_R_isNameOfClause_8, qy0, qy1, qy2, qy3, qe, qcn, qin, ↓reduceIte, Nat.reduceEqDiff, Nat.reduceLeDiff, Bool.false_eq_true, Nat.reduceAdd, Nat.reduceSub, Nat.reduceMul, Nat.reduceLT, or_self, or_false, false_or, or_true, true_or, and_self, and_true, true_and, and_false, false_and, not_true_eq_false, not_false_eq_true, h3]
        · rw [if_neg (by omega)]
          simp (config := {maxSteps := 1000000}) (disch := first | omega | assumption | (simp only [qm_wid_n, qm_wid_I, qm_wid_L, qm_wid_P]; omega) | (simp only [qm_wid_n, qm_wid_I, qm_wid_L, qm_wid_P]; done) | fail) only [e_R_isNameOfClause, b_R_isNameOfClause_0, b_R_isNameOfClause_1, b_R_isNameOfClause_2, b_R_isNameOfClause_3, b_R_isNameOfClause_4, b_R_isNameOfClause_5, b_R_isNameOfClause_6, b_R_isNameOfClause_7, b_R_isNameOfClause_8, qy0, qy1, qy2, qy3, qe, qcn, qin, ↓reduceIte, Nat.reduceEqDiff, Nat.reduceLeDiff, Bool.false_eq_true, Nat.reduceAdd, Nat.reduceSub, Nat.reduceMul, Nat.reduceLT, or_self, or_false, false_or, or_true, true_or, and_self, and_true, true_and, and_false, false_and, not_true_eq_false, not_false_eq_true, h3]
