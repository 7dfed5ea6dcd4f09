theorem qz10 : ((1 : Int32) = 0) = False := by simp
theorem qz01 : ((0 : Int32) = 1) = False := by simp
theorem s_within (d : Nat) (s : qm_Hp) (a b c : Int32) : qm_evM d jC_within [qI a, qI b, qI c] s = some (some (qI (if b ≤ a ∧ a ≤ c then 1 else 0)), s) := by
  simp only [e_C_within, b_C_within_0, b_C_within_1, b_C_within_2, qx, qe, qc, qil, reduceIte, Nat.reduceEqDiff, Nat.reduceLeDiff, Bool.false_eq_true, Nat.reduceAdd, Nat.reduceLT, List.length_cons, List.length_nil, or_self, or_false, false_or, or_true, true_or, and_self, and_true, true_and, and_false, false_and, not_true_eq_false, not_false_eq_true, Nat.zero_le, qz1, qz2, qz3, qz4, qz5, qz6, qz7, qz8, qz9, qz0, qz10, qz01]
  by_cases h1 : a < b
  · simp [h1, Int32.not_le.mpr h1]
  · by_cases h2 : c < a
    · simp [h1, h2, Int32.not_le.mpr h2]
    · simp [h1, h2, Int32.not_lt.mp h1, Int32.not_lt.mp h2]
theorem s_isIn (d : Nat) (s : qm_Hp) (a b c : Int32) : qm_evM d jM_isIn [qI a, qI b, qI c] s = some (some (qI (if b ≤ a ∧ a ≤ c then 1 else 0)), s) := by
  simp only [e_M_isIn, b_M_isIn_0, b_M_isIn_1, b_M_isIn_2, qx, qe, qc, qil, reduceIte, Nat.reduceEqDiff, Nat.reduceLeDiff, Bool.false_eq_true, Nat.reduceAdd, Nat.reduceLT, List.length_cons, List.length_nil, or_self, or_false, false_or, or_true, true_or, and_self, and_true, true_and, and_false, false_and, not_true_eq_false, not_false_eq_true, Nat.zero_le, qz1, qz2, qz3, qz4, qz5, qz6, qz7, qz8, qz9, qz0, qz10, qz01]
  by_cases h1 : a < b
  · simp [h1, Int32.not_le.mpr h1]
  · by_cases h2 : c < a
    · simp [h1, h2, Int32.not_le.mpr h2]
    · simp [h1, h2, Int32.not_lt.mp h1, Int32.not_lt.mp h2]
theorem s_placeOf (d : Nat) (s : qm_Hp) (a b : Int32) : qm_evM d jC_placeOf [qI a, qI b] s = some (some (qI (a * 8 + b)), s) := by
  simp only [e_C_placeOf, b_C_placeOf_0, qx, qe, qc, qil, reduceIte, Nat.reduceEqDiff, Nat.reduceLeDiff, Bool.false_eq_true, Nat.reduceAdd, Nat.reduceLT, List.length_cons, List.length_nil, or_self, or_false, false_or, or_true, true_or, and_self, and_true, true_and, and_false, false_and, not_true_eq_false, not_false_eq_true, Nat.zero_le, qz1, qz2, qz3, qz4, qz5, qz6, qz7, qz8, qz9, qz0, qz10, qz01]
theorem s_splits (d : Nat) (s : qm_Hp) (p w : Nat) (hw : zI s 3 p 0 = nI w) (hw6 : w ≤ 6) : qm_evM d jP_splits [qP 3 p] s = some (some (qI (bx_sum (fun c => zI s 17 p c) w)), s) := by
  simp only [e_P_splits, b_P_splits_0, qx, qe, qc, qil, reduceIte, Nat.reduceEqDiff, Nat.reduceLeDiff, Bool.false_eq_true, Nat.reduceAdd, Nat.reduceLT, List.length_cons, List.length_nil, or_self, or_false, false_or, or_true, true_or, and_self, and_true, true_and, and_false, false_and, not_true_eq_false, not_false_eq_true, Nat.zero_le, qz1, qz2, qz3, qz4, qz5, qz6, qz7, qz8, qz9, qz0, qz10, qz01]
  refine q_up (w := w) (fun k => qm_evB d jP_splits 1 [qP 3 p, qI (bx_sum (fun c => zI s 17 p c) k), qI (nI k)] [] s) ?_ ?_ 0 (Nat.zero_le _)
  · simp only [b_P_splits_1, b_P_splits_2, qx, qe, qc, qil, reduceIte, Nat.reduceEqDiff, Nat.reduceLeDiff, Bool.false_eq_true, Nat.reduceAdd, Nat.reduceLT, List.length_cons, List.length_nil, or_self, or_false, false_or, or_true, true_or, and_self, and_true, true_and, and_false, false_and, not_true_eq_false, not_false_eq_true, Nat.zero_le, qz1, qz2, qz3, qz4, qz5, qz6, qz7, qz8, qz9, qz0, qz10, qz01, hw, Int32.le_refl]
  · intro k hk
    have h1 : ¬ nI w ≤ nI k := nI_ge hk (by omega)
    have h2 : vp_in (nI k) 6 := vp_in_nI (by omega) (by decide)
    have h3 : (nI k).toNatClampNeg = k := nI_clamp (by omega)
    simp only [b_P_splits_1, qx, qe, qc, qil, reduceIte, Nat.reduceEqDiff, Nat.reduceLeDiff, Bool.false_eq_true, Nat.reduceAdd, Nat.reduceLT, List.length_cons, List.length_nil, or_self, or_false, false_or, or_true, true_or, and_self, and_true, true_and, and_false, false_and, not_true_eq_false, not_false_eq_true, Nat.zero_le, qz1, qz2, qz3, qz4, qz5, qz6, qz7, qz8, qz9, qz0, qz10, qz01, hw, h1, h2, h3, nI_1]
    rfl
