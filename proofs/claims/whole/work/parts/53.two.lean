/-! what joins two values in the reference -/
theorem i32_10 : (((10 : Int32) = 10) = True ∧ ((10 : Int32) = 11) = False ∧ ((10 : Int32) = 12) = False ∧ ((10 : Int32) = 13) = False ∧ ((10 : Int32) = 14) = False ∧ ((10 : Int32) = 15) = False) := by simp
theorem i32_11 : (((11 : Int32) = 10) = False ∧ ((11 : Int32) = 11) = True ∧ ((11 : Int32) = 12) = False ∧ ((11 : Int32) = 13) = False ∧ ((11 : Int32) = 14) = False ∧ ((11 : Int32) = 15) = False) := by simp
theorem i32_12 : (((12 : Int32) = 10) = False ∧ ((12 : Int32) = 11) = False ∧ ((12 : Int32) = 12) = True ∧ ((12 : Int32) = 13) = False ∧ ((12 : Int32) = 14) = False ∧ ((12 : Int32) = 15) = False) := by simp
theorem i32_13 : (((13 : Int32) = 10) = False ∧ ((13 : Int32) = 11) = False ∧ ((13 : Int32) = 12) = False ∧ ((13 : Int32) = 13) = True ∧ ((13 : Int32) = 14) = False ∧ ((13 : Int32) = 15) = False) := by simp
theorem i32_14 : (((14 : Int32) = 10) = False ∧ ((14 : Int32) = 11) = False ∧ ((14 : Int32) = 12) = False ∧ ((14 : Int32) = 13) = False ∧ ((14 : Int32) = 14) = True ∧ ((14 : Int32) = 15) = False) := by simp
theorem i32_15 : (((15 : Int32) = 10) = False ∧ ((15 : Int32) = 11) = False ∧ ((15 : Int32) = 12) = False ∧ ((15 : Int32) = 13) = False ∧ ((15 : Int32) = 14) = False ∧ ((15 : Int32) = 15) = True) := by simp
theorem m_clip (d : Nat) (s : qm_Hp) (v : Int64) : qm_evM d jM_clip [qL v] s = some (some (qL (if 1000000 < v then 1000000 else if v < -1000000 then -1000000 else v)), s) := by
  simp only [e_M_clip, b_M_clip_0, b_M_clip_1, b_M_clip_2, b_M_clip_3, qx, qe, qc, qil, reduceIte, Nat.reduceEqDiff, Nat.reduceLeDiff, Bool.false_eq_true, Nat.reduceAdd, Nat.reduceLT, List.length_cons, List.length_nil, or_self, or_false, false_or, or_true, true_or, and_self, and_true, true_and, and_false, false_and, not_true_eq_false, not_false_eq_true, Nat.zero_le, qz1, qz2, qz3, qz4, qz5, qz6, qz7, qz8, qz9, qz0, qz10, qz01, lg_cmp_ge, lg_cmp_le, lg_cmp_gt, lg_cmp_lt, lg_cmp_eq]
  by_cases h1 : v ≤ 1000000
  · have g1 := Int64.not_lt.mpr h1
    by_cases h2 : -1000000 ≤ v
    · have g2 := Int64.not_lt.mpr h2
      simp only [h1, g1, h2, g2, reduceIte]
    · have g2 := Int64.not_le.mp h2
      simp only [h1, g1, h2, g2, reduceIte]
  · have g1 := Int64.not_le.mp h1
    simp only [h1, g1, reduceIte]
theorem tw_two_3 : qm_sw [1, 2, 3, 10, 4, 7] 3 3 10 = 1 := by decide +kernel
theorem m_two_3 (d : Nat) (s : qm_Hp) (a b : Int64) : qm_evM (d + 1) jM_two [qI 3, qL a, qL b] s = some (some (qL (if 1000000 < (a + b) then 1000000 else if (a + b) < -1000000 then -1000000 else (a + b))), s) := by
  simp only [e_M_two, b_M_two_0, b_M_two_1, b_M_two_2, b_M_two_3, b_M_two_4, b_M_two_5, b_M_two_6, b_M_two_7, b_M_two_8, b_M_two_9, b_M_two_10, b_M_two_11, b_M_two_12, qx, qe, qc, qil, reduceIte, Nat.reduceEqDiff, Nat.reduceLeDiff, Bool.false_eq_true, Nat.reduceAdd, Nat.reduceLT, List.length_cons, List.length_nil, or_self, or_false, false_or, or_true, true_or, and_self, and_true, true_and, and_false, false_and, not_true_eq_false, not_false_eq_true, Nat.zero_le, qz1, qz2, qz3, qz4, qz5, qz6, qz7, qz8, qz9, qz0, qz10, qz01, tw_two_3, m_clip, lg_cmp_ge, lg_cmp_le, lg_cmp_gt, lg_cmp_lt, lg_cmp_eq]
theorem tw_two_4 : qm_sw [1, 2, 3, 10, 4, 7] 3 4 10 = 2 := by decide +kernel
theorem m_two_4 (d : Nat) (s : qm_Hp) (a b : Int64) : qm_evM (d + 1) jM_two [qI 4, qL a, qL b] s = some (some (qL (if 1000000 < (a - b) then 1000000 else if (a - b) < -1000000 then -1000000 else (a - b))), s) := by
  simp only [e_M_two, b_M_two_0, b_M_two_1, b_M_two_2, b_M_two_3, b_M_two_4, b_M_two_5, b_M_two_6, b_M_two_7, b_M_two_8, b_M_two_9, b_M_two_10, b_M_two_11, b_M_two_12, qx, qe, qc, qil, reduceIte, Nat.reduceEqDiff, Nat.reduceLeDiff, Bool.false_eq_true, Nat.reduceAdd, Nat.reduceLT, List.length_cons, List.length_nil, or_self, or_false, false_or, or_true, true_or, and_self, and_true, true_and, and_false, false_and, not_true_eq_false, not_false_eq_true, Nat.zero_le, qz1, qz2, qz3, qz4, qz5, qz6, qz7, qz8, qz9, qz0, qz10, qz01, tw_two_4, m_clip, lg_cmp_ge, lg_cmp_le, lg_cmp_gt, lg_cmp_lt, lg_cmp_eq]
theorem tw_two_5 : qm_sw [1, 2, 3, 10, 4, 7] 3 5 10 = 3 := by decide +kernel
theorem m_two_5 (d : Nat) (s : qm_Hp) (a b : Int64) : qm_evM (d + 1) jM_two [qI 5, qL a, qL b] s = some (some (qL (if 1000000 < (a * b) then 1000000 else if (a * b) < -1000000 then -1000000 else (a * b))), s) := by
  simp only [e_M_two, b_M_two_0, b_M_two_1, b_M_two_2, b_M_two_3, b_M_two_4, b_M_two_5, b_M_two_6, b_M_two_7, b_M_two_8, b_M_two_9, b_M_two_10, b_M_two_11, b_M_two_12, qx, qe, qc, qil, reduceIte, Nat.reduceEqDiff, Nat.reduceLeDiff, Bool.false_eq_true, Nat.reduceAdd, Nat.reduceLT, List.length_cons, List.length_nil, or_self, or_false, false_or, or_true, true_or, and_self, and_true, true_and, and_false, false_and, not_true_eq_false, not_false_eq_true, Nat.zero_le, qz1, qz2, qz3, qz4, qz5, qz6, qz7, qz8, qz9, qz0, qz10, qz01, tw_two_5, m_clip, lg_cmp_ge, lg_cmp_le, lg_cmp_gt, lg_cmp_lt, lg_cmp_eq]
theorem tw_two_6 : qm_sw [1, 2, 3, 10, 4, 7] 3 6 10 = 10 := by decide +kernel
theorem m_two_6 (d : Nat) (s : qm_Hp) (a b : Int64) : qm_evM (d + 1) jM_two [qI 6, qL a, qL b] s = some (some (qL (if b = 0 then 0 else if 1000000 < (a / b) then 1000000 else if (a / b) < -1000000 then -1000000 else (a / b))), s) := by
  by_cases h : b = 0
  · simp only [e_M_two, b_M_two_0, b_M_two_1, b_M_two_2, b_M_two_3, b_M_two_4, b_M_two_5, b_M_two_6, b_M_two_7, b_M_two_8, b_M_two_9, b_M_two_10, b_M_two_11, b_M_two_12, qx, qe, qc, qil, reduceIte, Nat.reduceEqDiff, Nat.reduceLeDiff, Bool.false_eq_true, Nat.reduceAdd, Nat.reduceLT, List.length_cons, List.length_nil, or_self, or_false, false_or, or_true, true_or, and_self, and_true, true_and, and_false, false_and, not_true_eq_false, not_false_eq_true, Nat.zero_le, qz1, qz2, qz3, qz4, qz5, qz6, qz7, qz8, qz9, qz0, qz10, qz01, tw_two_6, m_clip, lg_cmp_ge, lg_cmp_le, lg_cmp_gt, lg_cmp_lt, lg_cmp_eq, h]
  · simp only [e_M_two, b_M_two_0, b_M_two_1, b_M_two_2, b_M_two_3, b_M_two_4, b_M_two_5, b_M_two_6, b_M_two_7, b_M_two_8, b_M_two_9, b_M_two_10, b_M_two_11, b_M_two_12, qx, qe, qc, qil, reduceIte, Nat.reduceEqDiff, Nat.reduceLeDiff, Bool.false_eq_true, Nat.reduceAdd, Nat.reduceLT, List.length_cons, List.length_nil, or_self, or_false, false_or, or_true, true_or, and_self, and_true, true_and, and_false, false_and, not_true_eq_false, not_false_eq_true, Nat.zero_le, qz1, qz2, qz3, qz4, qz5, qz6, qz7, qz8, qz9, qz0, qz10, qz01, tw_two_6, m_clip, lg_cmp_ge, lg_cmp_le, lg_cmp_gt, lg_cmp_lt, lg_cmp_eq, h]
theorem tw_two_7 : qm_sw [1, 2, 3, 10, 4, 7] 3 7 10 = 4 := by decide +kernel
theorem m_two_7 (d : Nat) (s : qm_Hp) (a b : Int64) : qm_evM (d + 1) jM_two [qI 7, qL a, qL b] s = some (some (qL (if a < b then a else b)), s) := by
  by_cases h : a < b
  · have g := Int64.not_le.mpr h
    simp only [e_M_two, b_M_two_0, b_M_two_1, b_M_two_2, b_M_two_3, b_M_two_4, b_M_two_5, b_M_two_6, b_M_two_7, b_M_two_8, b_M_two_9, b_M_two_10, b_M_two_11, b_M_two_12, qx, qe, qc, qil, reduceIte, Nat.reduceEqDiff, Nat.reduceLeDiff, Bool.false_eq_true, Nat.reduceAdd, Nat.reduceLT, List.length_cons, List.length_nil, or_self, or_false, false_or, or_true, true_or, and_self, and_true, true_and, and_false, false_and, not_true_eq_false, not_false_eq_true, Nat.zero_le, qz1, qz2, qz3, qz4, qz5, qz6, qz7, qz8, qz9, qz0, qz10, qz01, tw_two_7, m_clip, lg_cmp_ge, lg_cmp_le, lg_cmp_gt, lg_cmp_lt, lg_cmp_eq, h, g]
  · have g := Int64.not_lt.mp h
    simp only [e_M_two, b_M_two_0, b_M_two_1, b_M_two_2, b_M_two_3, b_M_two_4, b_M_two_5, b_M_two_6, b_M_two_7, b_M_two_8, b_M_two_9, b_M_two_10, b_M_two_11, b_M_two_12, qx, qe, qc, qil, reduceIte, Nat.reduceEqDiff, Nat.reduceLeDiff, Bool.false_eq_true, Nat.reduceAdd, Nat.reduceLT, List.length_cons, List.length_nil, or_self, or_false, false_or, or_true, true_or, and_self, and_true, true_and, and_false, false_and, not_true_eq_false, not_false_eq_true, Nat.zero_le, qz1, qz2, qz3, qz4, qz5, qz6, qz7, qz8, qz9, qz0, qz10, qz01, tw_two_7, m_clip, lg_cmp_ge, lg_cmp_le, lg_cmp_gt, lg_cmp_lt, lg_cmp_eq, h, g]
theorem tw_two_8 : qm_sw [1, 2, 3, 10, 4, 7] 3 8 10 = 7 := by decide +kernel
theorem m_two_8 (d : Nat) (s : qm_Hp) (a b : Int64) : qm_evM (d + 1) jM_two [qI 8, qL a, qL b] s = some (some (qL (if b < a then a else b)), s) := by
  by_cases h : b < a
  · have g := Int64.not_le.mpr h
    simp only [e_M_two, b_M_two_0, b_M_two_1, b_M_two_2, b_M_two_3, b_M_two_4, b_M_two_5, b_M_two_6, b_M_two_7, b_M_two_8, b_M_two_9, b_M_two_10, b_M_two_11, b_M_two_12, qx, qe, qc, qil, reduceIte, Nat.reduceEqDiff, Nat.reduceLeDiff, Bool.false_eq_true, Nat.reduceAdd, Nat.reduceLT, List.length_cons, List.length_nil, or_self, or_false, false_or, or_true, true_or, and_self, and_true, true_and, and_false, false_and, not_true_eq_false, not_false_eq_true, Nat.zero_le, qz1, qz2, qz3, qz4, qz5, qz6, qz7, qz8, qz9, qz0, qz10, qz01, tw_two_8, m_clip, lg_cmp_ge, lg_cmp_le, lg_cmp_gt, lg_cmp_lt, lg_cmp_eq, h, g]
  · have g := Int64.not_lt.mp h
    simp only [e_M_two, b_M_two_0, b_M_two_1, b_M_two_2, b_M_two_3, b_M_two_4, b_M_two_5, b_M_two_6, b_M_two_7, b_M_two_8, b_M_two_9, b_M_two_10, b_M_two_11, b_M_two_12, qx, qe, qc, qil, reduceIte, Nat.reduceEqDiff, Nat.reduceLeDiff, Bool.false_eq_true, Nat.reduceAdd, Nat.reduceLT, List.length_cons, List.length_nil, or_self, or_false, false_or, or_true, true_or, and_self, and_true, true_and, and_false, false_and, not_true_eq_false, not_false_eq_true, Nat.zero_le, qz1, qz2, qz3, qz4, qz5, qz6, qz7, qz8, qz9, qz0, qz10, qz01, tw_two_8, m_clip, lg_cmp_ge, lg_cmp_le, lg_cmp_gt, lg_cmp_lt, lg_cmp_eq, h, g]
theorem m_ask_10 (d : Nat) (s : qm_Hp) (a b : Int64) : qm_evM d jM_isAsked [qI 10, qL a, qL b] s = some (some (qI (if a < b then 1 else 0)), s) := by
  simp only [e_M_isAsked, b_M_isAsked_0, b_M_isAsked_1, b_M_isAsked_2, b_M_isAsked_3, b_M_isAsked_4, b_M_isAsked_5, b_M_isAsked_6, b_M_isAsked_7, b_M_isAsked_8, b_M_isAsked_9, b_M_isAsked_10, b_M_isAsked_11, b_M_isAsked_12, qx, qe, qc, qil, reduceIte, Nat.reduceEqDiff, Nat.reduceLeDiff, Bool.false_eq_true, Nat.reduceAdd, Nat.reduceLT, List.length_cons, List.length_nil, or_self, or_false, false_or, or_true, true_or, and_self, and_true, true_and, and_false, false_and, not_true_eq_false, not_false_eq_true, Nat.zero_le, qz1, qz2, qz3, qz4, qz5, qz6, qz7, qz8, qz9, qz0, qz10, qz01, i32_10, lg_cmp_ge, lg_cmp_le, lg_cmp_gt, lg_cmp_lt, lg_cmp_eq]
  rcases fb_three a b with h | h | h
  · have g1 := Int64.not_le.mpr h
    have g2 : ¬ b < a := fun z => g1 (Int64.le_of_lt z)
    have g3 : ¬ a = b := fun z => by rw [z] at h; exact Int64.lt_irrefl h
    have g4 := Int64.le_of_lt h
    simp [h, g1, g2, g3, g4]
  · subst h
    simp
  · have g1 := Int64.not_le.mpr h
    have g2 : ¬ a < b := fun z => g1 (Int64.le_of_lt z)
    have g3 : ¬ a = b := fun z => by rw [z] at h; exact Int64.lt_irrefl h
    have g4 := Int64.le_of_lt h
    simp [h, g1, g2, g3, g4]
theorem m_ask_11 (d : Nat) (s : qm_Hp) (a b : Int64) : qm_evM d jM_isAsked [qI 11, qL a, qL b] s = some (some (qI (if a ≤ b then 1 else 0)), s) := by
  simp only [e_M_isAsked, b_M_isAsked_0, b_M_isAsked_1, b_M_isAsked_2, b_M_isAsked_3, b_M_isAsked_4, b_M_isAsked_5, b_M_isAsked_6, b_M_isAsked_7, b_M_isAsked_8, b_M_isAsked_9, b_M_isAsked_10, b_M_isAsked_11, b_M_isAsked_12, qx, qe, qc, qil, reduceIte, Nat.reduceEqDiff, Nat.reduceLeDiff, Bool.false_eq_true, Nat.reduceAdd, Nat.reduceLT, List.length_cons, List.length_nil, or_self, or_false, false_or, or_true, true_or, and_self, and_true, true_and, and_false, false_and, not_true_eq_false, not_false_eq_true, Nat.zero_le, qz1, qz2, qz3, qz4, qz5, qz6, qz7, qz8, qz9, qz0, qz10, qz01, i32_11, lg_cmp_ge, lg_cmp_le, lg_cmp_gt, lg_cmp_lt, lg_cmp_eq]
  rcases fb_three a b with h | h | h
  · have g1 := Int64.not_le.mpr h
    have g2 : ¬ b < a := fun z => g1 (Int64.le_of_lt z)
    have g3 : ¬ a = b := fun z => by rw [z] at h; exact Int64.lt_irrefl h
    have g4 := Int64.le_of_lt h
    simp [h, g1, g2, g3, g4]
  · subst h
    simp
  · have g1 := Int64.not_le.mpr h
    have g2 : ¬ a < b := fun z => g1 (Int64.le_of_lt z)
    have g3 : ¬ a = b := fun z => by rw [z] at h; exact Int64.lt_irrefl h
    have g4 := Int64.le_of_lt h
    simp [h, g1, g2, g3, g4]
theorem m_ask_12 (d : Nat) (s : qm_Hp) (a b : Int64) : qm_evM d jM_isAsked [qI 12, qL a, qL b] s = some (some (qI (if b < a then 1 else 0)), s) := by
  simp only [e_M_isAsked, b_M_isAsked_0, b_M_isAsked_1, b_M_isAsked_2, b_M_isAsked_3, b_M_isAsked_4, b_M_isAsked_5, b_M_isAsked_6, b_M_isAsked_7, b_M_isAsked_8, b_M_isAsked_9, b_M_isAsked_10, b_M_isAsked_11, b_M_isAsked_12, qx, qe, qc, qil, reduceIte, Nat.reduceEqDiff, Nat.reduceLeDiff, Bool.false_eq_true, Nat.reduceAdd, Nat.reduceLT, List.length_cons, List.length_nil, or_self, or_false, false_or, or_true, true_or, and_self, and_true, true_and, and_false, false_and, not_true_eq_false, not_false_eq_true, Nat.zero_le, qz1, qz2, qz3, qz4, qz5, qz6, qz7, qz8, qz9, qz0, qz10, qz01, i32_12, lg_cmp_ge, lg_cmp_le, lg_cmp_gt, lg_cmp_lt, lg_cmp_eq]
  rcases fb_three a b with h | h | h
  · have g1 := Int64.not_le.mpr h
    have g2 : ¬ b < a := fun z => g1 (Int64.le_of_lt z)
    have g3 : ¬ a = b := fun z => by rw [z] at h; exact Int64.lt_irrefl h
    have g4 := Int64.le_of_lt h
    simp [h, g1, g2, g3, g4]
  · subst h
    simp
  · have g1 := Int64.not_le.mpr h
    have g2 : ¬ a < b := fun z => g1 (Int64.le_of_lt z)
    have g3 : ¬ a = b := fun z => by rw [z] at h; exact Int64.lt_irrefl h
    have g4 := Int64.le_of_lt h
    simp [h, g1, g2, g3, g4]
theorem m_ask_13 (d : Nat) (s : qm_Hp) (a b : Int64) : qm_evM d jM_isAsked [qI 13, qL a, qL b] s = some (some (qI (if b ≤ a then 1 else 0)), s) := by
  simp only [e_M_isAsked, b_M_isAsked_0, b_M_isAsked_1, b_M_isAsked_2, b_M_isAsked_3, b_M_isAsked_4, b_M_isAsked_5, b_M_isAsked_6, b_M_isAsked_7, b_M_isAsked_8, b_M_isAsked_9, b_M_isAsked_10, b_M_isAsked_11, b_M_isAsked_12, qx, qe, qc, qil, reduceIte, Nat.reduceEqDiff, Nat.reduceLeDiff, Bool.false_eq_true, Nat.reduceAdd, Nat.reduceLT, List.length_cons, List.length_nil, or_self, or_false, false_or, or_true, true_or, and_self, and_true, true_and, and_false, false_and, not_true_eq_false, not_false_eq_true, Nat.zero_le, qz1, qz2, qz3, qz4, qz5, qz6, qz7, qz8, qz9, qz0, qz10, qz01, i32_13, lg_cmp_ge, lg_cmp_le, lg_cmp_gt, lg_cmp_lt, lg_cmp_eq]
  rcases fb_three a b with h | h | h
  · have g1 := Int64.not_le.mpr h
    have g2 : ¬ b < a := fun z => g1 (Int64.le_of_lt z)
    have g3 : ¬ a = b := fun z => by rw [z] at h; exact Int64.lt_irrefl h
    have g4 := Int64.le_of_lt h
    simp [h, g1, g2, g3, g4]
  · subst h
    simp
  · have g1 := Int64.not_le.mpr h
    have g2 : ¬ a < b := fun z => g1 (Int64.le_of_lt z)
    have g3 : ¬ a = b := fun z => by rw [z] at h; exact Int64.lt_irrefl h
    have g4 := Int64.le_of_lt h
    simp [h, g1, g2, g3, g4]
theorem m_ask_14 (d : Nat) (s : qm_Hp) (a b : Int64) : qm_evM d jM_isAsked [qI 14, qL a, qL b] s = some (some (qI (if a = b then 1 else 0)), s) := by
  simp only [e_M_isAsked, b_M_isAsked_0, b_M_isAsked_1, b_M_isAsked_2, b_M_isAsked_3, b_M_isAsked_4, b_M_isAsked_5, b_M_isAsked_6, b_M_isAsked_7, b_M_isAsked_8, b_M_isAsked_9, b_M_isAsked_10, b_M_isAsked_11, b_M_isAsked_12, qx, qe, qc, qil, reduceIte, Nat.reduceEqDiff, Nat.reduceLeDiff, Bool.false_eq_true, Nat.reduceAdd, Nat.reduceLT, List.length_cons, List.length_nil, or_self, or_false, false_or, or_true, true_or, and_self, and_true, true_and, and_false, false_and, not_true_eq_false, not_false_eq_true, Nat.zero_le, qz1, qz2, qz3, qz4, qz5, qz6, qz7, qz8, qz9, qz0, qz10, qz01, i32_14, lg_cmp_ge, lg_cmp_le, lg_cmp_gt, lg_cmp_lt, lg_cmp_eq]
  rcases fb_three a b with h | h | h
  · have g1 := Int64.not_le.mpr h
    have g2 : ¬ b < a := fun z => g1 (Int64.le_of_lt z)
    have g3 : ¬ a = b := fun z => by rw [z] at h; exact Int64.lt_irrefl h
    have g4 := Int64.le_of_lt h
    simp [h, g1, g2, g3, g4]
  · subst h
    simp
  · have g1 := Int64.not_le.mpr h
    have g2 : ¬ a < b := fun z => g1 (Int64.le_of_lt z)
    have g3 : ¬ a = b := fun z => by rw [z] at h; exact Int64.lt_irrefl h
    have g4 := Int64.le_of_lt h
    simp [h, g1, g2, g3, g4]
theorem m_ask_15 (d : Nat) (s : qm_Hp) (a b : Int64) : qm_evM d jM_isAsked [qI 15, qL a, qL b] s = some (some (qI (if ¬ a = b then 1 else 0)), s) := by
  simp only [e_M_isAsked, b_M_isAsked_0, b_M_isAsked_1, b_M_isAsked_2, b_M_isAsked_3, b_M_isAsked_4, b_M_isAsked_5, b_M_isAsked_6, b_M_isAsked_7, b_M_isAsked_8, b_M_isAsked_9, b_M_isAsked_10, b_M_isAsked_11, b_M_isAsked_12, qx, qe, qc, qil, reduceIte, Nat.reduceEqDiff, Nat.reduceLeDiff, Bool.false_eq_true, Nat.reduceAdd, Nat.reduceLT, List.length_cons, List.length_nil, or_self, or_false, false_or, or_true, true_or, and_self, and_true, true_and, and_false, false_and, not_true_eq_false, not_false_eq_true, Nat.zero_le, qz1, qz2, qz3, qz4, qz5, qz6, qz7, qz8, qz9, qz0, qz10, qz01, i32_15, lg_cmp_ge, lg_cmp_le, lg_cmp_gt, lg_cmp_lt, lg_cmp_eq]
  rcases fb_three a b with h | h | h
  · have g1 := Int64.not_le.mpr h
    have g2 : ¬ b < a := fun z => g1 (Int64.le_of_lt z)
    have g3 : ¬ a = b := fun z => by rw [z] at h; exact Int64.lt_irrefl h
    have g4 := Int64.le_of_lt h
    simp [h, g1, g2, g3, g4]
  · subst h
    simp
  · have g1 := Int64.not_le.mpr h
    have g2 : ¬ a < b := fun z => g1 (Int64.le_of_lt z)
    have g3 : ¬ a = b := fun z => by rw [z] at h; exact Int64.lt_irrefl h
    have g4 := Int64.le_of_lt h
    simp [h, g1, g2, g3, g4]
