/-! the reference asks what its token is -/
theorem TT_b {T t : Nat} (h : TT T t) : t ≤ 62 ∧ T ≤ 56 ∧ (t ≠ 2 → 40 ≤ T) ∧ (t = 2 → T < 30 ∨ T = 42) := by
  unfold TT at h
  omega
theorem lg_0 (a b : Int64) : (lg_cmp a b = nI 0) ↔ a = b := lg_cmp_eq a b
theorem r_w3 (d : Nat) (s : qm_Hp) (a b c : Nat) : qm_evM d jM_w3 [qI (nI a), qI (nI b), qI (nI c)] s = some (some (qL (pkc (pkc (nI a).toInt64 b) c)), s) := by
  simp (config := {maxSteps := 1000000}) (disch := first | omega | assumption | (simp only [qm_wid_n, qm_wid_I, qm_wid_L, qm_wid_P]; omega) | (simp only [qm_wid_n, qm_wid_I, qm_wid_L, qm_wid_P]; done) | fail) only [e_M_w3, b_M_w3_0, qy0, qy1, qy2, qy3, qe, qcn, qin, ↓reduceIte, Nat.reduceEqDiff, Nat.reduceLeDiff, Bool.false_eq_true, Nat.reduceAdd, Nat.reduceSub, Nat.reduceMul, Nat.reduceLT, or_self, or_false, false_or, or_true, true_or, and_self, and_true, true_and, and_false, false_and, not_true_eq_false, not_false_eq_true, pkc]
theorem r_w4 (d : Nat) (s : qm_Hp) (a b c e : Nat) : qm_evM (d + 1) jM_w4 [qI (nI a), qI (nI b), qI (nI c), qI (nI e)] s = some (some (qL (pkc (pkc (pkc (nI a).toInt64 b) c) e)), s) := by
  simp (config := {maxSteps := 1000000}) (disch := first | omega | assumption | (simp only [qm_wid_n, qm_wid_I, qm_wid_L, qm_wid_P]; omega) | (simp only [qm_wid_n, qm_wid_I, qm_wid_L, qm_wid_P]; done) | fail) only [e_M_w4, b_M_w4_0, qy0, qy1, qy2, qy3, qe, qcn, qin, ↓reduceIte, Nat.reduceEqDiff, Nat.reduceLeDiff, Bool.false_eq_true, Nat.reduceAdd, Nat.reduceSub, Nat.reduceMul, Nat.reduceLT, or_self, or_false, false_or, or_true, true_or, and_self, and_true, true_and, and_false, false_and, not_true_eq_false, not_false_eq_true, r_w3, pkc]
theorem r_w5 (d : Nat) (s : qm_Hp) (a b c e f : Nat) : qm_evM (d + 1) jM_w5 [qI (nI a), qI (nI b), qI (nI c), qI (nI e), qI (nI f)] s = some (some (qL (pkc (pkc (pkc (pkc (nI a).toInt64 b) c) e) f)), s) := by
  simp (config := {maxSteps := 1000000}) (disch := first | omega | assumption | (simp only [qm_wid_n, qm_wid_I, qm_wid_L, qm_wid_P]; omega) | (simp only [qm_wid_n, qm_wid_I, qm_wid_L, qm_wid_P]; done) | fail) only [e_M_w5, b_M_w5_0, qy0, qy1, qy2, qy3, qe, qcn, qin, ↓reduceIte, Nat.reduceEqDiff, Nat.reduceLeDiff, Bool.false_eq_true, Nat.reduceAdd, Nat.reduceSub, Nat.reduceMul, Nat.reduceLT, or_self, or_false, false_or, or_true, true_or, and_self, and_true, true_and, and_false, false_and, not_true_eq_false, not_false_eq_true, r_w3, pkc]
theorem r_w6 (d : Nat) (s : qm_Hp) (a b c e f g : Nat) : qm_evM (d + 2) jM_w6 [qI (nI a), qI (nI b), qI (nI c), qI (nI e), qI (nI f), qI (nI g)] s = some (some (qL (pkc (pkc (pkc (pkc (pkc (nI a).toInt64 b) c) e) f) g)), s) := by
  simp (config := {maxSteps := 1000000}) (disch := first | omega | assumption | (simp only [qm_wid_n, qm_wid_I, qm_wid_L, qm_wid_P]; omega) | (simp only [qm_wid_n, qm_wid_I, qm_wid_L, qm_wid_P]; done) | fail) only [e_M_w6, b_M_w6_0, qy0, qy1, qy2, qy3, qe, qcn, qin, ↓reduceIte, Nat.reduceEqDiff, Nat.reduceLeDiff, Bool.false_eq_true, Nat.reduceAdd, Nat.reduceSub, Nat.reduceMul, Nat.reduceLT, or_self, or_false, false_or, or_true, true_or, and_self, and_true, true_and, and_false, false_and, not_true_eq_false, not_false_eq_true, r_w5, pkc]
theorem r_w7 (d : Nat) (s : qm_Hp) (a b c e f g h : Nat) : qm_evM (d + 3) jM_w7 [qI (nI a), qI (nI b), qI (nI c), qI (nI e), qI (nI f), qI (nI g), qI (nI h)] s = some (some (qL (pkc (pkc (pkc (pkc (pkc (pkc (nI a).toInt64 b) c) e) f) g) h)), s) := by
  simp (config := {maxSteps := 1000000}) (disch := first | omega | assumption | (simp only [qm_wid_n, qm_wid_I, qm_wid_L, qm_wid_P]; omega) | (simp only [qm_wid_n, qm_wid_I, qm_wid_L, qm_wid_P]; done) | fail) only [e_M_w7, b_M_w7_0, qy0, qy1, qy2, qy3, qe, qcn, qin, ↓reduceIte, Nat.reduceEqDiff, Nat.reduceLeDiff, Bool.false_eq_true, Nat.reduceAdd, Nat.reduceSub, Nat.reduceMul, Nat.reduceLT, or_self, or_false, false_or, or_true, true_or, and_self, and_true, true_and, and_false, false_and, not_true_eq_false, not_false_eq_true, r_w6, pkc]
theorem wk_0 : pkc (pkc (pkc (pkc (nI 119).toInt64 97) 116) 101) 114 = wdK 0 := by decide +kernel
theorem wk_1 : pkc (pkc (pkc (nI 115).toInt64 105) 122) 101 = wdK 1 := by decide +kernel
theorem wk_2 : pkc (pkc (pkc (nI 107).toInt64 105) 110) 100 = wdK 2 := by decide +kernel
theorem wk_3 : pkc (pkc (pkc (nI 98).toInt64 97) 114) 107 = wdK 3 := by decide +kernel
theorem wk_4 : pkc (pkc (pkc (nI 104).toInt64 105) 103) 104 = wdK 4 := by decide +kernel
theorem wk_5 : pkc (pkc (nI 116).toInt64 111) 112 = wdK 5 := by decide +kernel
theorem wk_6 : pkc (pkc (pkc (pkc (pkc (nI 98).toInt64 101) 115) 105) 100) 101 = wdK 6 := by decide +kernel
theorem wk_7 : pkc (pkc (pkc (pkc (nI 115).toInt64 117) 110) 110) 121 = wdK 7 := by decide +kernel
theorem wk_8 : pkc (pkc (pkc (nI 119).toInt64 105) 110) 100 = wdK 8 := by decide +kernel
theorem wk_9 : pkc (pkc (nI 115).toInt64 117) 110 = wdK 9 := by decide +kernel
theorem wk_10 : pkc (pkc (pkc (nI 114).toInt64 97) 105) 110 = wdK 10 := by decide +kernel
theorem wk_11 : pkc (pkc (nI 97).toInt64 105) 114 = wdK 11 := by decide +kernel
theorem wk_12 : pkc (pkc (pkc (nI 119).toInt64 101) 101) 107 = wdK 12 := by decide +kernel
theorem wk_13 : pkc (pkc (pkc (nI 119).toInt64 105) 100) 101 = wdK 13 := by decide +kernel
theorem wk_14 : pkc (pkc (pkc (nI 116).toInt64 97) 108) 108 = wdK 14 := by decide +kernel
theorem wk_15 : pkc (pkc (pkc (pkc (nI 112).toInt64 111) 115) 116) 115 = wdK 15 := by decide +kernel
theorem wk_16 : pkc (pkc (pkc (pkc (pkc (pkc (nI 99).toInt64 114) 111) 115) 115) 101) 100 = wdK 16 := by decide +kernel
theorem wk_17 : pkc (pkc (nI 100).toInt64 114) 121 = wdK 17 := by decide +kernel
theorem wk_18 : pkc (pkc (pkc (pkc (nI 116).toInt64 104) 105) 99) 107 = wdK 18 := by decide +kernel
theorem wk_19 : pkc (pkc (pkc (pkc (nI 115).toInt64 116) 97) 110) 100 = wdK 19 := by decide +kernel
theorem wk_20 : pkc (pkc (pkc (nI 116).toInt64 97) 107) 101 = wdK 20 := by decide +kernel
theorem wk_21 : pkc (pkc (pkc (nI 104).toInt64 101) 97) 116 = wdK 21 := by decide +kernel
theorem wk_22 : pkc (pkc (pkc (pkc (pkc (nI 98).toInt64 101) 101) 116) 108) 101 = wdK 22 := by decide +kernel
theorem wk_23 : pkc (pkc (nI 108).toInt64 97) 121 = wdK 23 := by decide +kernel
theorem wk_24 : pkc (pkc (nI 109).toInt64 105) 110 = wdK 24 := by decide +kernel
theorem wk_25 : pkc (pkc (nI 109).toInt64 97) 120 = wdK 25 := by decide +kernel
theorem wk_26 : pkc (pkc (nI 110).toInt64 111) 116 = wdK 26 := by decide +kernel
theorem wk_27 : pkc (pkc (nI 97).toInt64 110) 100 = wdK 27 := by decide +kernel
theorem wk_28 : pkc (nI 111).toInt64 114 = wdK 28 := by decide +kernel
theorem wk_29 : pkc (nI 111).toInt64 110 = wdK 29 := by decide +kernel
def wks := And.intro wk_0 <| And.intro wk_1 <| And.intro wk_2 <| And.intro wk_3 <| And.intro wk_4 <| And.intro wk_5 <| And.intro wk_6 <| And.intro wk_7 <| And.intro wk_8 <| And.intro wk_9 <| And.intro wk_10 <| And.intro wk_11 <| And.intro wk_12 <| And.intro wk_13 <| And.intro wk_14 <| And.intro wk_15 <| And.intro wk_16 <| And.intro wk_17 <| And.intro wk_18 <| And.intro wk_19 <| And.intro wk_20 <| And.intro wk_21 <| And.intro wk_22 <| And.intro wk_23 <| And.intro wk_24 <| And.intro wk_25 <| And.intro wk_26 <| And.intro wk_27 <| And.intro wk_28 wk_29
theorem wk_7b : pkc (pkc (wdK 9) 110) 121 = wdK 7 := by decide +kernel
theorem wk_or2 : (Int64.ofInt 28530) = wdK 28 := by decide +kernel
theorem wk_on2 : (Int64.ofInt 28526) = wdK 29 := by decide +kernel
theorem r_isWord (d : Nat) {T V : Nat} {x : qm_Hp} (h : RK T V x) {k : Nat} (hk : k < 30) : qm_evM d jM_isWord [qP 9 0, qL (wdK k)] x = some (some (qI (if T = k then nI 1 else nI 0)), x) := by
  obtain ⟨t, h10, tt, _, hw⟩ := h
  have tb := TT_b tt
  clear tt
  by_cases q : t = 2
  · subst q
    have e := hw rfl k hk
    by_cases c : T = k
    · have hz : lg_cmp (zL x 9 0 12) (wdK k) = nI 0 := (lg_0 _ _).mpr (e.mpr c)
      rw [if_pos c]
      simp (config := {maxSteps := 1000000}) (disch := first | omega | assumption | (simp only [qm_wid_n, qm_wid_I, qm_wid_L, qm_wid_P]; omega) | (simp only [qm_wid_n, qm_wid_I, qm_wid_L, qm_wid_P]; done) | fail) only [e_M_isWord, b_M_isWord_0, b_M_isWord_1, b_M_isWord_2, qy0, qy1, qy2, qy3, qe, qcn, qin, ↓reduceIte, Nat.reduceEqDiff, Nat.reduceLeDiff, Bool.false_eq_true, Nat.reduceAdd, Nat.reduceSub, Nat.reduceMul, Nat.reduceLT, or_self, or_false, false_or, or_true, true_or, and_self, and_true, true_and, and_false, false_and, not_true_eq_false, not_false_eq_true, h10, hz]
    · have hz : ¬ lg_cmp (zL x 9 0 12) (wdK k) = nI 0 := fun g => c (e.mp ((lg_0 _ _).mp g))
      rw [if_neg c]
      simp (config := {maxSteps := 1000000}) (disch := first | omega | assumption | (simp only [qm_wid_n, qm_wid_I, qm_wid_L, qm_wid_P]; omega) | (simp only [qm_wid_n, qm_wid_I, qm_wid_L, qm_wid_P]; done) | fail) only [e_M_isWord, b_M_isWord_0, b_M_isWord_1, b_M_isWord_2, qy0, qy1, qy2, qy3, qe, qcn, qin, ↓reduceIte, Nat.reduceEqDiff, Nat.reduceLeDiff, Bool.false_eq_true, Nat.reduceAdd, Nat.reduceSub, Nat.reduceMul, Nat.reduceLT, or_self, or_false, false_or, or_true, true_or, and_self, and_true, true_and, and_false, false_and, not_true_eq_false, not_false_eq_true, h10, hz]
  · have c : ¬ T = k := by omega
    rw [if_neg c]
    simp (config := {maxSteps := 1000000}) (disch := first | omega | assumption | (simp only [qm_wid_n, qm_wid_I, qm_wid_L, qm_wid_P]; omega) | (simp only [qm_wid_n, qm_wid_I, qm_wid_L, qm_wid_P]; done) | fail) only [e_M_isWord, b_M_isWord_0, b_M_isWord_1, b_M_isWord_2, qy0, qy1, qy2, qy3, qe, qcn, qin, ↓reduceIte, Nat.reduceEqDiff, Nat.reduceLeDiff, Bool.false_eq_true, Nat.reduceAdd, Nat.reduceSub, Nat.reduceMul, Nat.reduceLT, or_self, or_false, false_or, or_true, true_or, and_self, and_true, true_and, and_false, false_and, not_true_eq_false, not_false_eq_true, h10]
theorem r_farName (d : Nat) {T : Nat} {x : qm_Hp} (hq : ∀ k, k < 30 → (lg_cmp (zL x 9 0 12) (wdK k) = nI 0) = (T = k)) (hT : 10 ≤ T) : qm_evM (d + 4) jM_farName [qP 9 0] x = some (some (qI (if T < 17 then nI T else N1)), x) := by
  by_cases q : T < 17
  · rw [if_pos q]
    rcases (by omega : T = 10 ∨ T = 11 ∨ T = 12 ∨ T = 13 ∨ T = 14 ∨ T = 15 ∨ T = 16) with g | g | g | g | g | g | g <;> subst g <;> simp (config := {maxSteps := 1000000}) (disch := first | omega | assumption | (simp only [qm_wid_n, qm_wid_I, qm_wid_L, qm_wid_P]; omega) | (simp only [qm_wid_n, qm_wid_I, qm_wid_L, qm_wid_P]; done) | fail) only [e_M_farName, b_M_farName_0, b_M_farName_1, b_M_farName_2, b_M_farName_3, b_M_farName_4, b_M_farName_5, b_M_farName_6, b_M_farName_7, b_M_farName_8, qy0, qy1, qy2, qy3, qe, qcn, qin, ↓reduceIte, Nat.reduceEqDiff, Nat.reduceLeDiff, Bool.false_eq_true, Nat.reduceAdd, Nat.reduceSub, Nat.reduceMul, Nat.reduceLT, or_self, or_false, false_or, or_true, true_or, and_self, and_true, true_and, and_false, false_and, not_true_eq_false, not_false_eq_true, r_w3, r_w4, r_w5, r_w6, r_w7, wks, wk_7b, hq]
  · rw [if_neg q]
    simp (config := {maxSteps := 1000000}) (disch := first | omega | assumption | (simp only [qm_wid_n, qm_wid_I, qm_wid_L, qm_wid_P]; omega) | (simp only [qm_wid_n, qm_wid_I, qm_wid_L, qm_wid_P]; done) | fail) only [e_M_farName, b_M_farName_0, b_M_farName_1, b_M_farName_2, b_M_farName_3, b_M_farName_4, b_M_farName_5, b_M_farName_6, b_M_farName_7, b_M_farName_8, qy0, qy1, qy2, qy3, qe, qcn, qin, ↓reduceIte, Nat.reduceEqDiff, Nat.reduceLeDiff, Bool.false_eq_true, Nat.reduceAdd, Nat.reduceSub, Nat.reduceMul, Nat.reduceLT, or_self, or_false, false_or, or_true, true_or, and_self, and_true, true_and, and_false, false_and, not_true_eq_false, not_false_eq_true, r_w3, r_w4, r_w5, r_w6, r_w7, wks, wk_7b, hq]
theorem r_nameOf (d : Nat) {T V : Nat} {x : qm_Hp} (h : RK T V x) : qm_evM (d + 5) jM_nameOf [qP 9 0] x = some (some (qI (if T < 17 then nI T else N1)), x) := by
  obtain ⟨t, h10, tt, _, hw⟩ := h
  have tb := TT_b tt
  clear tt
  by_cases q : t = 2
  · subst q
    have hq : ∀ k, k < 30 → (lg_cmp (zL x 9 0 12) (wdK k) = nI 0) = (T = k) := fun k hk => propext ((lg_0 _ _).trans (hw rfl k hk))
    clear hw
    by_cases c : T < 10
    · rw [if_pos (by omega)]
      rcases (by omega : T = 0 ∨ T = 1 ∨ T = 2 ∨ T = 3 ∨ T = 4 ∨ T = 5 ∨ T = 6 ∨ T = 7 ∨ T = 8 ∨ T = 9) with g | g | g | g | g | g | g | g | g | g <;> subst g <;> simp (config := {maxSteps := 1000000}) (disch := first | omega | assumption | (simp only [qm_wid_n, qm_wid_I, qm_wid_L, qm_wid_P]; omega) | (simp only [qm_wid_n, qm_wid_I, qm_wid_L, qm_wid_P]; done) | fail) only [e_M_nameOf, b_M_nameOf_0, b_M_nameOf_1, b_M_nameOf_2, b_M_nameOf_3, b_M_nameOf_4, b_M_nameOf_5, b_M_nameOf_6, b_M_nameOf_7, b_M_nameOf_8, b_M_nameOf_9, b_M_nameOf_10, b_M_nameOf_11, qy0, qy1, qy2, qy3, qe, qcn, qin, ↓reduceIte, Nat.reduceEqDiff, Nat.reduceLeDiff, Bool.false_eq_true, Nat.reduceAdd, Nat.reduceSub, Nat.reduceMul, Nat.reduceLT, or_self, or_false, false_or, or_true, true_or, and_self, and_true, true_and, and_false, false_and, not_true_eq_false, not_false_eq_true, h10, r_w3, r_w4, r_w5, r_w6, r_w7, wks, wk_7b, hq]
    · have fn := r_farName d hq (by omega)
      generalize (if T < 17 then nI T else N1) = v at *
      simp (config := {maxSteps := 1000000}) (disch := first | omega | assumption | (simp only [qm_wid_n, qm_wid_I, qm_wid_L, qm_wid_P]; omega) | (simp only [qm_wid_n, qm_wid_I, qm_wid_L, qm_wid_P]; done) | fail) only [e_M_nameOf, b_M_nameOf_0, b_M_nameOf_1, b_M_nameOf_2, b_M_nameOf_3, b_M_nameOf_4, b_M_nameOf_5, b_M_nameOf_6, b_M_nameOf_7, b_M_nameOf_8, b_M_nameOf_9, b_M_nameOf_10, b_M_nameOf_11, qy0, qy1, qy2, qy3, qe, qcn, qin, ↓reduceIte, Nat.reduceEqDiff, Nat.reduceLeDiff, Bool.false_eq_true, Nat.reduceAdd, Nat.reduceSub, Nat.reduceMul, Nat.reduceLT, or_self, or_false, false_or, or_true, true_or, and_self, and_true, true_and, and_false, false_and, not_true_eq_false, not_false_eq_true, h10, r_w3, r_w4, r_w5, r_w6, r_w7, wks, wk_7b, hq, fn]
  · rw [if_neg (by omega)]
    simp (config := {maxSteps := 1000000}) (disch := first | omega | assumption | (simp only [qm_wid_n, qm_wid_I, qm_wid_L, qm_wid_P]; omega) | (simp only [qm_wid_n, qm_wid_I, qm_wid_L, qm_wid_P]; done) | fail) only [e_M_nameOf, b_M_nameOf_0, qy0, qy1, qy2, qy3, qe, qcn, qin, ↓reduceIte, Nat.reduceEqDiff, Nat.reduceLeDiff, Bool.false_eq_true, Nat.reduceAdd, Nat.reduceSub, Nat.reduceMul, Nat.reduceLT, or_self, or_false, false_or, or_true, true_or, and_self, and_true, true_and, and_false, false_and, not_true_eq_false, not_false_eq_true, h10]
theorem r_sortOf (d : Nat) {T V : Nat} {x : qm_Hp} (h : RK T V x) : qm_evM (d + 4) jM_sortOf [qP 9 0] x = some (some (qI (if 17 ≤ T ∧ T ≤ 23 then nI (T - 17) else N1)), x) := by
  have iw := fun d k hk => r_isWord d h (k := k) hk
  clear h
  by_cases q : 17 ≤ T ∧ T ≤ 23
  · rw [if_pos q]
    rcases (by omega : T = 17 ∨ T = 18 ∨ T = 19 ∨ T = 20 ∨ T = 21 ∨ T = 22 ∨ T = 23) with g | g | g | g | g | g | g <;> subst g <;> simp (config := {maxSteps := 1000000}) (disch := first | omega | assumption | (simp only [qm_wid_n, qm_wid_I, qm_wid_L, qm_wid_P]; omega) | (simp only [qm_wid_n, qm_wid_I, qm_wid_L, qm_wid_P]; done) | fail) only [e_M_sortOf, b_M_sortOf_0, b_M_sortOf_1, b_M_sortOf_2, b_M_sortOf_3, b_M_sortOf_4, b_M_sortOf_5, b_M_sortOf_6, b_M_sortOf_7, b_M_sortOf_8, qy0, qy1, qy2, qy3, qe, qcn, qin, ↓reduceIte, Nat.reduceEqDiff, Nat.reduceLeDiff, Bool.false_eq_true, Nat.reduceAdd, Nat.reduceSub, Nat.reduceMul, Nat.reduceLT, or_self, or_false, false_or, or_true, true_or, and_self, and_true, true_and, and_false, false_and, not_true_eq_false, not_false_eq_true, r_w3, r_w4, r_w5, r_w6, wks, iw]
  · rw [if_neg q]
    simp (config := {maxSteps := 1000000}) (disch := first | omega | assumption | (simp only [qm_wid_n, qm_wid_I, qm_wid_L, qm_wid_P]; omega) | (simp only [qm_wid_n, qm_wid_I, qm_wid_L, qm_wid_P]; done) | fail) only [e_M_sortOf, b_M_sortOf_0, b_M_sortOf_1, b_M_sortOf_2, b_M_sortOf_3, b_M_sortOf_4, b_M_sortOf_5, b_M_sortOf_6, b_M_sortOf_7, b_M_sortOf_8, qy0, qy1, qy2, qy3, qe, qcn, qin, ↓reduceIte, Nat.reduceEqDiff, Nat.reduceLeDiff, Bool.false_eq_true, Nat.reduceAdd, Nat.reduceSub, Nat.reduceMul, Nat.reduceLT, or_self, or_false, false_or, or_true, true_or, and_self, and_true, true_and, and_false, false_and, not_true_eq_false, not_false_eq_true, r_w3, r_w4, r_w5, r_w6, wks, iw]
def cmpv (T : Nat) : Int32 := if 43 ≤ T ∧ T ≤ 48 then nI (opt T) else N1
theorem r_compareOf (d : Nat) {T V : Nat} {x : qm_Hp} (h : RK T V x) : qm_evM d jM_compareOf [qP 9 0] x = some (some (qI (cmpv T)), x) := by
  obtain ⟨t, h10, tt, _, _⟩ := h
  rcases tt with ⟨hT, rfl⟩ | tt
  · have e : cmpv T = N1 := if_neg (by omega)
    simp (config := {maxSteps := 1000000}) (disch := first | omega | assumption | (simp only [qm_wid_n, qm_wid_I, qm_wid_L, qm_wid_P]; omega) | (simp only [qm_wid_n, qm_wid_I, qm_wid_L, qm_wid_P]; done) | fail) only [e_M_compareOf, b_M_compareOf_0, b_M_compareOf_1, b_M_compareOf_2, b_M_compareOf_3, b_M_compareOf_4, b_M_compareOf_5, b_M_compareOf_6, b_M_compareOf_7, qy0, qy1, qy2, qy3, qe, qcn, qin, ↓reduceIte, Nat.reduceEqDiff, Nat.reduceLeDiff, Bool.false_eq_true, Nat.reduceAdd, Nat.reduceSub, Nat.reduceMul, Nat.reduceLT, or_self, or_false, false_or, or_true, true_or, and_self, and_true, true_and, and_false, false_and, not_true_eq_false, not_false_eq_true, h10, e]
  · rcases tt with ⟨rfl, rfl⟩ | ⟨rfl, rfl⟩ | ⟨rfl, rfl⟩ | ⟨rfl, rfl⟩ | ⟨rfl, rfl⟩ | ⟨rfl, rfl⟩ | ⟨rfl, rfl⟩ | ⟨rfl, rfl⟩ | ⟨rfl, rfl⟩ | ⟨rfl, rfl⟩ | ⟨rfl, rfl⟩ | ⟨rfl, rfl⟩ | ⟨rfl, rfl⟩ | ⟨rfl, rfl⟩ | ⟨rfl, rfl⟩ | ⟨rfl, rfl⟩ | ⟨rfl, rfl⟩ <;> simp (config := {maxSteps := 1000000}) (disch := first | omega | assumption | (simp only [qm_wid_n, qm_wid_I, qm_wid_L, qm_wid_P]; omega) | (simp only [qm_wid_n, qm_wid_I, qm_wid_L, qm_wid_P]; done) | fail) only [e_M_compareOf, b_M_compareOf_0, b_M_compareOf_1, b_M_compareOf_2, b_M_compareOf_3, b_M_compareOf_4, b_M_compareOf_5, b_M_compareOf_6, b_M_compareOf_7, qy0, qy1, qy2, qy3, qe, qcn, qin, ↓reduceIte, Nat.reduceEqDiff, Nat.reduceLeDiff, Bool.false_eq_true, Nat.reduceAdd, Nat.reduceSub, Nat.reduceMul, Nat.reduceLT, or_self, or_false, false_or, or_true, true_or, and_self, and_true, true_and, and_false, false_and, not_true_eq_false, not_false_eq_true, h10] <;> rfl
theorem r_isOf (d : Nat) {x : qm_Hp} {a v : Nat} (ha : a ≤ 5) (hv : v < 17) (h : zI x 9 0 21 = nI a) : qm_evM d jM_isOf [qP 9 0, qI (nI v)] x = some (some (qI (if nmb a v = true then nI 1 else nI 0)), x) := by
  have cy : (v = 12 ∨ (a = 2 ∧ 13 ≤ v ∧ v < 17) ∨ (a ≠ 2 ∧ v < 8) ∨ (a = 0 ∧ v < 12)) → (if nmb a v = true then nI 1 else nI 0) = nI 1 := fun g => if_pos (decide_eq_true g)
  have cn' : ¬ (v = 12 ∨ (a = 2 ∧ 13 ≤ v ∧ v < 17) ∨ (a ≠ 2 ∧ v < 8) ∨ (a = 0 ∧ v < 12)) → (if nmb a v = true then nI 1 else nI 0) = nI 0 := fun g => if_neg (fun k => g (of_decide_eq_true k))
  by_cases c1 : v = 12
  · rw [cy (by omega)]
    simp (config := {maxSteps := 1000000}) (disch := first | omega | assumption | (simp only [qm_wid_n, qm_wid_I, qm_wid_L, qm_wid_P]; omega) | (simp only [qm_wid_n, qm_wid_I, qm_wid_L, qm_wid_P]; done) | fail) only [e_M_isOf, b_M_isOf_0, b_M_isOf_1, b_M_isOf_2, b_M_isOf_3, b_M_isOf_4, qy0, qy1, qy2, qy3, qe, qcn, qin, ↓reduceIte, Nat.reduceEqDiff, Nat.reduceLeDiff, Bool.false_eq_true, Nat.reduceAdd, Nat.reduceSub, Nat.reduceMul, Nat.reduceLT, or_self, or_false, false_or, or_true, true_or, and_self, and_true, true_and, and_false, false_and, not_true_eq_false, not_false_eq_true, h]
  · by_cases c2 : a = 2
    · by_cases c3 : 12 < v
      · rw [cy (by omega)]
        simp (config := {maxSteps := 1000000}) (disch := first | omega | assumption | (simp only [qm_wid_n, qm_wid_I, qm_wid_L, qm_wid_P]; omega) | (simp only [qm_wid_n, qm_wid_I, qm_wid_L, qm_wid_P]; done) | fail) only [e_M_isOf, b_M_isOf_0, b_M_isOf_1, b_M_isOf_2, b_M_isOf_3, b_M_isOf_4, qy0, qy1, qy2, qy3, qe, qcn, qin, ↓reduceIte, Nat.reduceEqDiff, Nat.reduceLeDiff, Bool.false_eq_true, Nat.reduceAdd, Nat.reduceSub, Nat.reduceMul, Nat.reduceLT, or_self, or_false, false_or, or_true, true_or, and_self, and_true, true_and, and_false, false_and, not_true_eq_false, not_false_eq_true, h]
      · rw [cn' (by omega)]
        simp (config := {maxSteps := 1000000}) (disch := first | omega | assumption | (simp only [qm_wid_n, qm_wid_I, qm_wid_L, qm_wid_P]; omega) | (simp only [qm_wid_n, qm_wid_I, qm_wid_L, qm_wid_P]; done) | fail) only [e_M_isOf, b_M_isOf_0, b_M_isOf_1, b_M_isOf_2, b_M_isOf_3, b_M_isOf_4, qy0, qy1, qy2, qy3, qe, qcn, qin, ↓reduceIte, Nat.reduceEqDiff, Nat.reduceLeDiff, Bool.false_eq_true, Nat.reduceAdd, Nat.reduceSub, Nat.reduceMul, Nat.reduceLT, or_self, or_false, false_or, or_true, true_or, and_self, and_true, true_and, and_false, false_and, not_true_eq_false, not_false_eq_true, h]
    · by_cases c3 : v < 8
      · rw [cy (by omega)]
        simp (config := {maxSteps := 1000000}) (disch := first | omega | assumption | (simp only [qm_wid_n, qm_wid_I, qm_wid_L, qm_wid_P]; omega) | (simp only [qm_wid_n, qm_wid_I, qm_wid_L, qm_wid_P]; done) | fail) only [e_M_isOf, b_M_isOf_0, b_M_isOf_1, b_M_isOf_2, b_M_isOf_3, b_M_isOf_4, qy0, qy1, qy2, qy3, qe, qcn, qin, ↓reduceIte, Nat.reduceEqDiff, Nat.reduceLeDiff, Bool.false_eq_true, Nat.reduceAdd, Nat.reduceSub, Nat.reduceMul, Nat.reduceLT, or_self, or_false, false_or, or_true, true_or, and_self, and_true, true_and, and_false, false_and, not_true_eq_false, not_false_eq_true, h]
      · by_cases c4 : a = 0
        · by_cases c5 : v < 12
          · rw [cy (by omega)]
            simp (config := {maxSteps := 1000000}) (disch := first | omega | assumption | (simp only [qm_wid_n, qm_wid_I, qm_wid_L, qm_wid_P]; omega) | (simp only [qm_wid_n, qm_wid_I, qm_wid_L, qm_wid_P]; done) | fail) only [e_M_isOf, b_M_isOf_0, b_M_isOf_1, b_M_isOf_2, b_M_isOf_3, b_M_isOf_4, qy0, qy1, qy2, qy3, qe, qcn, qin, ↓reduceIte, Nat.reduceEqDiff, Nat.reduceLeDiff, Bool.false_eq_true, Nat.reduceAdd, Nat.reduceSub, Nat.reduceMul, Nat.reduceLT, or_self, or_false, false_or, or_true, true_or, and_self, and_true, true_and, and_false, false_and, not_true_eq_false, not_false_eq_true, h]
          · rw [cn' (by omega)]
            simp (config := {maxSteps := 1000000}) (disch := first | omega | assumption | (simp only [qm_wid_n, qm_wid_I, qm_wid_L, qm_wid_P]; omega) | (simp only [qm_wid_n, qm_wid_I, qm_wid_L, qm_wid_P]; done) | fail) only [e_M_isOf, b_M_isOf_0, b_M_isOf_1, b_M_isOf_2, b_M_isOf_3, b_M_isOf_4, qy0, qy1, qy2, qy3, qe, qcn, qin, ↓reduceIte, Nat.reduceEqDiff, Nat.reduceLeDiff, Bool.false_eq_true, Nat.reduceAdd, Nat.reduceSub, Nat.reduceMul, Nat.reduceLT, or_self, or_false, false_or, or_true, true_or, and_self, and_true, true_and, and_false, false_and, not_true_eq_false, not_false_eq_true, h]
        · rw [cn' (by omega)]
          simp (config := {maxSteps := 1000000}) (disch := first | omega | assumption | (simp only [qm_wid_n, qm_wid_I, qm_wid_L, qm_wid_P]; omega) | (simp only [qm_wid_n, qm_wid_I, qm_wid_L, qm_wid_P]; done) | fail) only [e_M_isOf, b_M_isOf_0, b_M_isOf_1, b_M_isOf_2, b_M_isOf_3, b_M_isOf_4, qy0, qy1, qy2, qy3, qe, qcn, qin, ↓reduceIte, Nat.reduceEqDiff, Nat.reduceLeDiff, Bool.false_eq_true, Nat.reduceAdd, Nat.reduceSub, Nat.reduceMul, Nat.reduceLT, or_self, or_false, false_or, or_true, true_or, and_self, and_true, true_and, and_false, false_and, not_true_eq_false, not_false_eq_true, h]
