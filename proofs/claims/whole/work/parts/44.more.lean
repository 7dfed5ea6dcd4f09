theorem s_holds (d : Nat) (s : qm_Hp) (p w : Nat) (c z : Int32) (hw : zI s 3 p 0 = nI w) (hw6 : w ≤ 6) : qm_evM d jP_holds [qP 3 p, qI c, qI z] s = some (some (qI (if (0 ≤ c ∧ c < nI w) ∧ (0 ≤ z ∧ z < zI s 17 p c.toNatClampNeg) then 1 else 0)), s) := by
  by_cases h1 : c < 0
  · have g1 := Int32.not_le.mpr h1
    simp only [e_P_holds, b_P_holds_0, b_P_holds_1, b_P_holds_2, qx, qe, qc, qil, reduceIte, Nat.reduceEqDiff, Nat.reduceLeDiff, Bool.false_eq_true, Nat.reduceAdd, Nat.reduceLT, List.length_cons, List.length_nil, or_self, or_false, false_or, or_true, true_or, and_self, and_true, true_and, and_false, false_and, not_true_eq_false, not_false_eq_true, Nat.zero_le, qz1, qz2, qz3, qz4, qz5, qz6, qz7, qz8, qz9, qz0, qz10, qz01, h1, g1]
  · have g1 := Int32.not_lt.mp h1
    by_cases h2 : nI w ≤ c
    · have g2 := Int32.not_lt.mpr h2
      simp only [e_P_holds, b_P_holds_0, b_P_holds_1, b_P_holds_2, qx, qe, qc, qil, reduceIte, Nat.reduceEqDiff, Nat.reduceLeDiff, Bool.false_eq_true, Nat.reduceAdd, Nat.reduceLT, List.length_cons, List.length_nil, or_self, or_false, false_or, or_true, true_or, and_self, and_true, true_and, and_false, false_and, not_true_eq_false, not_false_eq_true, Nat.zero_le, qz1, qz2, qz3, qz4, qz5, qz6, qz7, qz8, qz9, qz0, qz10, qz01, h1, g1, hw, h2, g2]
    · have g2 := Int32.not_le.mp h2
      have hin : vp_in c 6 := by
        obtain ⟨j, hj, rfl⟩ := nI_of h1
        have : j < w := (nI_ltI hj (by omega)).mp g2
        exact vp_in_nI (by omega) (by decide)
      by_cases h3 : z < 0
      · have g3 := Int32.not_le.mpr h3
        simp only [e_P_holds, b_P_holds_0, b_P_holds_1, b_P_holds_2, qx, qe, qc, qil, reduceIte, Nat.reduceEqDiff, Nat.reduceLeDiff, Bool.false_eq_true, Nat.reduceAdd, Nat.reduceLT, List.length_cons, List.length_nil, or_self, or_false, false_or, or_true, true_or, and_self, and_true, true_and, and_false, false_and, not_true_eq_false, not_false_eq_true, Nat.zero_le, qz1, qz2, qz3, qz4, qz5, qz6, qz7, qz8, qz9, qz0, qz10, qz01, h1, g1, hw, h2, g2, h3, g3]
      · have g3 := Int32.not_lt.mp h3
        by_cases h4 : zI s 17 p c.toNatClampNeg ≤ z
        · have g4 := Int32.not_lt.mpr h4
          simp only [e_P_holds, b_P_holds_0, b_P_holds_1, b_P_holds_2, qx, qe, qc, qil, reduceIte, Nat.reduceEqDiff, Nat.reduceLeDiff, Bool.false_eq_true, Nat.reduceAdd, Nat.reduceLT, List.length_cons, List.length_nil, or_self, or_false, false_or, or_true, true_or, and_self, and_true, true_and, and_false, false_and, not_true_eq_false, not_false_eq_true, Nat.zero_le, qz1, qz2, qz3, qz4, qz5, qz6, qz7, qz8, qz9, qz0, qz10, qz01, h1, g1, hw, h2, g2, h3, g3, hin, h4, g4]
        · have g4 := Int32.not_le.mp h4
          simp only [e_P_holds, b_P_holds_0, b_P_holds_1, b_P_holds_2, qx, qe, qc, qil, reduceIte, Nat.reduceEqDiff, Nat.reduceLeDiff, Bool.false_eq_true, Nat.reduceAdd, Nat.reduceLT, List.length_cons, List.length_nil, or_self, or_false, false_or, or_true, true_or, and_self, and_true, true_and, and_false, false_and, not_true_eq_false, not_false_eq_true, Nat.zero_le, qz1, qz2, qz3, qz4, qz5, qz6, qz7, qz8, qz9, qz0, qz10, qz01, h1, g1, hw, h2, g2, h3, g3, hin, h4, g4]
theorem m_count (d : Nat) (s : qm_Hp) (b c : Nat) (hb : zI s 9 0 2 = nI b) (hc : b + 120 + c < 3360) : qm_evM d jM_count [qP 9 0, qI (nI c)] s = some (some (qI (zI s 61 0 (b + 120 + c))), s) := by
  have e : nI b + 120 + nI c = nI (b + 120 + c) := by rw [show (120 : Int32) = nI 120 from rfl, nI_add, nI_add]
  have h2 : vp_in (nI (b + 120 + c)) 3360 := vp_in_nI hc (by decide)
  have h3 : (nI (b + 120 + c)).toNatClampNeg = b + 120 + c := nI_clamp (by omega)
  simp only [e_M_count, b_M_count_0, qx, qe, qc, qil, reduceIte, Nat.reduceEqDiff, Nat.reduceLeDiff, Bool.false_eq_true, Nat.reduceAdd, Nat.reduceLT, List.length_cons, List.length_nil, or_self, or_false, false_or, or_true, true_or, and_self, and_true, true_and, and_false, false_and, not_true_eq_false, not_false_eq_true, Nat.zero_le, qz1, qz2, qz3, qz4, qz5, qz6, qz7, qz8, qz9, qz0, qz10, qz01, hb, e, h2, h3]
theorem m_at0 (d : Nat) (s : qm_Hp) (b c z : Nat) (hb : zI s 9 0 2 = nI b) : qm_evM d jM_at0 [qP 9 0, qI (nI c), qI (nI z)] s = some (some (qI (nI (b + 130 + 6 * (8 * c + z)))), s) := by
  have e : nI b + 130 + 6 * (8 * nI c + nI z) = nI (b + 130 + 6 * (8 * c + z)) := by
    rw [show (130 : Int32) = nI 130 from rfl, show (6 : Int32) = nI 6 from rfl, show (8 : Int32) = nI 8 from rfl]
    simp only [pk_mul, nI_add]
  simp only [e_M_at0, b_M_at0_0, qx, qe, qc, qil, reduceIte, Nat.reduceEqDiff, Nat.reduceLeDiff, Bool.false_eq_true, Nat.reduceAdd, Nat.reduceLT, List.length_cons, List.length_nil, or_self, or_false, false_or, or_true, true_or, and_self, and_true, true_and, and_false, false_and, not_true_eq_false, not_false_eq_true, Nat.zero_le, qz1, qz2, qz3, qz4, qz5, qz6, qz7, qz8, qz9, qz0, qz10, qz01, hb, e]
theorem m_isColumn (d : Nat) (s : qm_Hp) (c : Int32) : qm_evM (d + 1) jM_isColumn [qP 9 0, qI c] s = some (some (qI (if 0 ≤ c ∧ c ≤ zI s 9 0 1 - 1 then 1 else 0)), s) := by
  simp only [e_M_isColumn, b_M_isColumn_0, qx, qe, qc, qil, reduceIte, Nat.reduceEqDiff, Nat.reduceLeDiff, Bool.false_eq_true, Nat.reduceAdd, Nat.reduceLT, List.length_cons, List.length_nil, or_self, or_false, false_or, or_true, true_or, and_self, and_true, true_and, and_false, false_and, not_true_eq_false, not_false_eq_true, Nat.zero_le, qz1, qz2, qz3, qz4, qz5, qz6, qz7, qz8, qz9, qz0, qz10, qz01, s_isIn]
theorem m_splits (d : Nat) (s : qm_Hp) (b w : Nat) (hw : zI s 9 0 1 = nI w) (hw6 : w ≤ 6) (hb : zI s 9 0 2 = nI b) (hb2 : b ≤ 2940) : qm_evM (d + 1) jM_splits [qP 9 0] s = some (some (qI (bx_sum (fun c => zI s 61 0 (b + 120 + c)) w)), s) := by
  simp only [e_M_splits, b_M_splits_0, qx, qe, qc, qil, reduceIte, Nat.reduceEqDiff, Nat.reduceLeDiff, Bool.false_eq_true, Nat.reduceAdd, Nat.reduceLT, List.length_cons, List.length_nil, or_self, or_false, false_or, or_true, true_or, and_self, and_true, true_and, and_false, false_and, not_true_eq_false, not_false_eq_true, Nat.zero_le, qz1, qz2, qz3, qz4, qz5, qz6, qz7, qz8, qz9, qz0, qz10, qz01]
  refine q_up (w := w) (fun k => qm_evB (d + 1) jM_splits 1 [qP 9 0, qI (bx_sum (fun c => zI s 61 0 (b + 120 + c)) k), qI (nI k)] [] s) ?_ ?_ 0 (Nat.zero_le _)
  · simp only [b_M_splits_1, b_M_splits_2, qx, qe, qc, qil, reduceIte, Nat.reduceEqDiff, Nat.reduceLeDiff, Bool.false_eq_true, Nat.reduceAdd, Nat.reduceLT, List.length_cons, List.length_nil, or_self, or_false, false_or, or_true, true_or, and_self, and_true, true_and, and_false, false_and, not_true_eq_false, not_false_eq_true, Nat.zero_le, qz1, qz2, qz3, qz4, qz5, qz6, qz7, qz8, qz9, qz0, qz10, qz01, hw, Int32.le_refl]
  · intro k hk
    have h1 : ¬ nI w ≤ nI k := nI_ge hk (by omega)
    simp only [b_M_splits_1, qx, qe, qc, qil, reduceIte, Nat.reduceEqDiff, Nat.reduceLeDiff, Bool.false_eq_true, Nat.reduceAdd, Nat.reduceLT, List.length_cons, List.length_nil, or_self, or_false, false_or, or_true, true_or, and_self, and_true, true_and, and_false, false_and, not_true_eq_false, not_false_eq_true, Nat.zero_le, qz1, qz2, qz3, qz4, qz5, qz6, qz7, qz8, qz9, qz0, qz10, qz01, hw, h1, m_count d s b k hb (by omega), nI_1]
    rfl
theorem s_tallest (d : Nat) (s : qm_Hp) (p w : Nat) (hw : zI s 3 p 0 = nI w) (hw6 : w ≤ 6) : ∃ F : Nat → Int32, F 0 = 0 ∧ (∀ k, F (k + 1) = if F k < zI s 17 p k then zI s 17 p k else F k) ∧ qm_evM d jP_tallest [qP 3 p] s = some (some (qI (F w)), s) := by
  refine ⟨fun k => Nat.rec 0 (fun k y => if y < zI s 17 p k then zI s 17 p k else y) k, rfl, fun k => rfl, ?_⟩
  simp only [e_P_tallest, b_P_tallest_0, qx, qe, qc, qil, reduceIte, Nat.reduceEqDiff, Nat.reduceLeDiff, Bool.false_eq_true, Nat.reduceAdd, Nat.reduceLT, List.length_cons, List.length_nil, or_self, or_false, false_or, or_true, true_or, and_self, and_true, true_and, and_false, false_and, not_true_eq_false, not_false_eq_true, Nat.zero_le, qz1, qz2, qz3, qz4, qz5, qz6, qz7, qz8, qz9, qz0, qz10, qz01]
  refine q_up (w := w) (fun k => qm_evB d jP_tallest 1 [qP 3 p, qI (Nat.rec 0 (fun k y => if y < zI s 17 p k then zI s 17 p k else y) k), qI (nI k)] [] s) ?_ ?_ 0 (Nat.zero_le _)
  · simp only [b_P_tallest_1, b_P_tallest_2, qx, qe, qc, qil, reduceIte, Nat.reduceEqDiff, Nat.reduceLeDiff, Bool.false_eq_true, Nat.reduceAdd, Nat.reduceLT, List.length_cons, List.length_nil, or_self, or_false, false_or, or_true, true_or, and_self, and_true, true_and, and_false, false_and, not_true_eq_false, not_false_eq_true, Nat.zero_le, qz1, qz2, qz3, qz4, qz5, qz6, qz7, qz8, qz9, qz0, qz10, qz01, hw, Int32.le_refl]
  · intro k hk
    have h1 : ¬ nI w ≤ nI k := nI_ge hk (by omega)
    have h2 : vp_in (nI k) 6 := vp_in_nI (by omega) (by decide)
    have h3 : (nI k).toNatClampNeg = k := nI_clamp (by omega)
    simp only [b_P_tallest_1, qx, qe, qc, qil, reduceIte, Nat.reduceEqDiff, Nat.reduceLeDiff, Bool.false_eq_true, Nat.reduceAdd, Nat.reduceLT, List.length_cons, List.length_nil, or_self, or_false, false_or, or_true, true_or, and_self, and_true, true_and, and_false, false_and, not_true_eq_false, not_false_eq_true, Nat.zero_le, qz1, qz2, qz3, qz4, qz5, qz6, qz7, qz8, qz9, qz0, qz10, qz01, hw, h1, h2, h3, nI_1]
