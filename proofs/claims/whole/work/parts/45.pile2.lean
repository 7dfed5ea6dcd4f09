/-- a split laid on a column -/
def hp_add (s : qm_Hp) (p c n : Nat) (kd sz wt : Int32) : qm_Hp := uI (uI (uI (uI (uI (uI (uI s 11 p (8 * c + n) kd) 12 p (8 * c + n) sz) 13 p (8 * c + n) wt) 14 p (8 * c + n) 1) 15 p (8 * c + n) (-1)) 16 p (8 * c + n) (-1)) 17 p c (nI (n + 1))
theorem s_add_ok (d : Nat) (s : qm_Hp) (p w c n : Nat) (kd sz wt : Int32) (hw : zI s 3 p 0 = nI w) (hw6 : w ≤ 6) (hc : c < w) (hn : zI s 17 p c = nI n) (hn8 : n < 8) : qm_evM (d + 1) jP_add [qP 3 p, qI (nI c), qI kd, qI sz, qI wt] s = some (some (qI (nI n)), hp_add s p c n kd sz wt) := by
  have g1 : (0 : Int32) ≤ nI c := nI_pos' (by omega)
  have g2 : nI c ≤ nI w - 1 := by
    have : nI w - 1 = nI (w - 1) := by
      obtain ⟨v, rfl⟩ : ∃ v, w = v + 1 := ⟨w - 1, by omega⟩
      exact nI_pred v
    rw [this]
    exact nI_le (by omega) (by omega)
  have h2 : vp_in (nI c) 6 := vp_in_nI (by omega) (by decide)
  have h3 : (nI c).toNatClampNeg = c := nI_clamp (by omega)
  have h4 : nI n < 8 := nI_lt hn8 (by decide)
  have e : nI c * 8 + nI n = nI (8 * c + n) := by
    rw [show (8 : Int32) = nI 8 from rfl]
    simp only [pk_mul, nI_add]
    rw [Nat.mul_comm]
  have h5 : vp_in (nI (8 * c + n)) 48 := vp_in_nI (by omega) (by decide)
  have h6 : (nI (8 * c + n)).toNatClampNeg = 8 * c + n := nI_clamp (by omega)
  simp only [e_P_add, b_P_add_0, b_P_add_1, b_P_add_2, qx, qe, qc, qil, reduceIte, Nat.reduceEqDiff, Nat.reduceLeDiff, Bool.false_eq_true, Nat.reduceAdd, Nat.reduceLT, List.length_cons, List.length_nil, or_self, or_false, false_or, or_true, true_or, and_self, and_true, true_and, and_false, false_and, not_true_eq_false, not_false_eq_true, Nat.zero_le, qz1, qz2, qz3, qz4, qz5, qz6, qz7, qz8, qz9, qz0, qz10, qz01, s_within, s_placeOf, hw, g1, g2, h2, h3, hn, h4, e, h5, h6, nI_1]
  rfl
theorem s_add_no (d : Nat) (s : qm_Hp) (p w : Nat) (c kd sz wt : Int32) (hw : zI s 3 p 0 = nI w) (hw6 : w ≤ 6) (h : ¬ (0 ≤ c ∧ c ≤ nI w - 1) ∨ (vp_in c 6 ∧ ¬ zI s 17 p c.toNatClampNeg < 8)) : qm_evM (d + 1) jP_add [qP 3 p, qI c, qI kd, qI sz, qI wt] s = some (some (qI (-1)), s) := by
  by_cases g : 0 ≤ c ∧ c ≤ nI w - 1
  · obtain ⟨h2, h3⟩ := h.resolve_left (fun z => z g)
    simp only [e_P_add, b_P_add_0, b_P_add_1, qx, qe, qc, qil, reduceIte, Nat.reduceEqDiff, Nat.reduceLeDiff, Bool.false_eq_true, Nat.reduceAdd, Nat.reduceLT, List.length_cons, List.length_nil, or_self, or_false, false_or, or_true, true_or, and_self, and_true, true_and, and_false, false_and, not_true_eq_false, not_false_eq_true, Nat.zero_le, qz1, qz2, qz3, qz4, qz5, qz6, qz7, qz8, qz9, qz0, qz10, qz01, s_within, hw, g, h2, h3]
  · simp only [e_P_add, b_P_add_0, b_P_add_1, qx, qe, qc, qil, reduceIte, Nat.reduceEqDiff, Nat.reduceLeDiff, Bool.false_eq_true, Nat.reduceAdd, Nat.reduceLT, List.length_cons, List.length_nil, or_self, or_false, false_or, or_true, true_or, and_self, and_true, true_and, and_false, false_and, not_true_eq_false, not_false_eq_true, Nat.zero_le, qz1, qz2, qz3, qz4, qz5, qz6, qz7, qz8, qz9, qz0, qz10, qz01, s_within, hw, g]
theorem s_beside (d : Nat) (s : qm_Hp) (p w c z : Nat) (hw : zI s 3 p 0 = nI w) (hw6 : w ≤ 6) (hc : c < w) : qm_evM (d + 1) jP_besideOf [qP 3 p, qI (nI c), qI (nI z)] s = some (some (qI (if zI s 3 p 9 = -1 then (if nI z ≤ 0 then 0 else 1) + (if zI s 17 p c ≤ nI z + 1 then 0 else 1) + (if nI c ≤ 0 ∨ zI s 17 p (c - 1) ≤ nI z then 0 else 1) + (if nI w ≤ nI c + 1 ∨ zI s 17 p (c + 1) ≤ nI z then 0 else 1) else 4)), s) := by
  have h2 : vp_in (nI c) 6 := vp_in_nI (by omega) (by decide)
  have h3 : (nI c).toNatClampNeg = c := nI_clamp (by omega)
  by_cases hf : zI s 3 p 9 = -1
  · simp only [e_P_besideOf, b_P_besideOf_0, b_P_besideOf_1, b_P_besideOf_2, qx, qe, qc, qil, reduceIte, Nat.reduceEqDiff, Nat.reduceLeDiff, Bool.false_eq_true, Nat.reduceAdd, Nat.reduceLT, List.length_cons, List.length_nil, or_self, or_false, false_or, or_true, true_or, and_self, and_true, true_and, and_false, false_and, not_true_eq_false, not_false_eq_true, Nat.zero_le, qz1, qz2, qz3, qz4, qz5, qz6, qz7, qz8, qz9, qz0, qz10, qz01, s_isFallen, hf, qmg]
    simp only [b_P_besideOf_3, b_P_besideOf_4, qx, qe, qc, qil, reduceIte, Nat.reduceEqDiff, Nat.reduceLeDiff, Bool.false_eq_true, Nat.reduceAdd, Nat.reduceLT, List.length_cons, List.length_nil, or_self, or_false, false_or, or_true, true_or, and_self, and_true, true_and, and_false, false_and, not_true_eq_false, not_false_eq_true, Nat.zero_le, qz1, qz2, qz3, qz4, qz5, qz6, qz7, qz8, qz9, qz0, qz10, qz01, h2, h3, qmg]
    by_cases hc0 : nI c ≤ 0
    · simp only [b_P_besideOf_5, b_P_besideOf_6, qx, qe, qc, qil, reduceIte, Nat.reduceEqDiff, Nat.reduceLeDiff, Bool.false_eq_true, Nat.reduceAdd, Nat.reduceLT, List.length_cons, List.length_nil, or_self, or_false, false_or, or_true, true_or, and_self, and_true, true_and, and_false, false_and, not_true_eq_false, not_false_eq_true, Nat.zero_le, qz1, qz2, qz3, qz4, qz5, qz6, qz7, qz8, qz9, qz0, qz10, qz01, h2, h3, qmg, hc0]
      by_cases hcw : nI w ≤ nI c + 1
      · simp only [b_P_besideOf_7, b_P_besideOf_8, b_P_besideOf_9, qx, qe, qc, qil, reduceIte, Nat.reduceEqDiff, Nat.reduceLeDiff, Bool.false_eq_true, Nat.reduceAdd, Nat.reduceLT, List.length_cons, List.length_nil, or_self, or_false, false_or, or_true, true_or, and_self, and_true, true_and, and_false, false_and, not_true_eq_false, not_false_eq_true, Nat.zero_le, qz1, qz2, qz3, qz4, qz5, qz6, qz7, qz8, qz9, qz0, qz10, qz01, h2, h3, qmg, hcw, hw]
      · have h4 : c + 1 < w := by
          rcases Nat.lt_or_ge (c + 1) w with h | h
          · exact h
          · exact absurd (by rw [nI_1]; exact nI_le h (by omega)) hcw
        have h5 : vp_in (nI (c + 1)) 6 := vp_in_nI (by omega) (by decide)
        have h6 : (nI (c + 1)).toNatClampNeg = c + 1 := nI_clamp (by omega)
        rw [nI_1] at hcw
        simp only [b_P_besideOf_7, b_P_besideOf_8, qx, qe, qc, qil, reduceIte, Nat.reduceEqDiff, Nat.reduceLeDiff, Bool.false_eq_true, Nat.reduceAdd, Nat.reduceLT, List.length_cons, List.length_nil, or_self, or_false, false_or, or_true, true_or, and_self, and_true, true_and, and_false, false_and, not_true_eq_false, not_false_eq_true, Nat.zero_le, qz1, qz2, qz3, qz4, qz5, qz6, qz7, qz8, qz9, qz0, qz10, qz01, h5, h6, qmg, hcw, hw, nI_1]
        simp only [b_P_besideOf_9, qx, qe, qc, qil, reduceIte, Nat.reduceEqDiff, Nat.reduceLeDiff, Bool.false_eq_true, Nat.reduceAdd, Nat.reduceLT, List.length_cons, List.length_nil, or_self, or_false, false_or, or_true, true_or, and_self, and_true, true_and, and_false, false_and, not_true_eq_false, not_false_eq_true, Nat.zero_le, qz1, qz2, qz3, qz4, qz5, qz6, qz7, qz8, qz9, qz0, qz10, qz01]
    · have h7 : 0 < c := by
        rcases Nat.eq_zero_or_pos c with h | h
        · exact absurd (by rw [h]; exact Int32.le_refl _) hc0
        · exact h
      have e1 : nI c - 1 = nI (c - 1) := by
        obtain ⟨v, rfl⟩ : ∃ v, c = v + 1 := ⟨c - 1, by omega⟩
        exact nI_pred v
      have h8 : vp_in (nI (c - 1)) 6 := vp_in_nI (by omega) (by decide)
      have h9 : (nI (c - 1)).toNatClampNeg = c - 1 := nI_clamp (by omega)
      simp only [b_P_besideOf_5, b_P_besideOf_6, qx, qe, qc, qil, reduceIte, Nat.reduceEqDiff, Nat.reduceLeDiff, Bool.false_eq_true, Nat.reduceAdd, Nat.reduceLT, List.length_cons, List.length_nil, or_self, or_false, false_or, or_true, true_or, and_self, and_true, true_and, and_false, false_and, not_true_eq_false, not_false_eq_true, Nat.zero_le, qz1, qz2, qz3, qz4, qz5, qz6, qz7, qz8, qz9, qz0, qz10, qz01, h8, h9, qmg, hc0, e1]
      by_cases hcw : nI w ≤ nI c + 1
      · simp only [b_P_besideOf_7, b_P_besideOf_8, b_P_besideOf_9, qx, qe, qc, qil, reduceIte, Nat.reduceEqDiff, Nat.reduceLeDiff, Bool.false_eq_true, Nat.reduceAdd, Nat.reduceLT, List.length_cons, List.length_nil, or_self, or_false, false_or, or_true, true_or, and_self, and_true, true_and, and_false, false_and, not_true_eq_false, not_false_eq_true, Nat.zero_le, qz1, qz2, qz3, qz4, qz5, qz6, qz7, qz8, qz9, qz0, qz10, qz01, h2, h3, qmg, hcw, hw]
      · have h4 : c + 1 < w := by
          rcases Nat.lt_or_ge (c + 1) w with h | h
          · exact h
          · exact absurd (by rw [nI_1]; exact nI_le h (by omega)) hcw
        have h5 : vp_in (nI (c + 1)) 6 := vp_in_nI (by omega) (by decide)
        have h6 : (nI (c + 1)).toNatClampNeg = c + 1 := nI_clamp (by omega)
        rw [nI_1] at hcw
        simp only [b_P_besideOf_7, b_P_besideOf_8, qx, qe, qc, qil, reduceIte, Nat.reduceEqDiff, Nat.reduceLeDiff, Bool.false_eq_true, Nat.reduceAdd, Nat.reduceLT, List.length_cons, List.length_nil, or_self, or_false, false_or, or_true, true_or, and_self, and_true, true_and, and_false, false_and, not_true_eq_false, not_false_eq_true, Nat.zero_le, qz1, qz2, qz3, qz4, qz5, qz6, qz7, qz8, qz9, qz0, qz10, qz01, h5, h6, qmg, hcw, hw, nI_1]
        simp only [b_P_besideOf_9, qx, qe, qc, qil, reduceIte, Nat.reduceEqDiff, Nat.reduceLeDiff, Bool.false_eq_true, Nat.reduceAdd, Nat.reduceLT, List.length_cons, List.length_nil, or_self, or_false, false_or, or_true, true_or, and_self, and_true, true_and, and_false, false_and, not_true_eq_false, not_false_eq_true, Nat.zero_le, qz1, qz2, qz3, qz4, qz5, qz6, qz7, qz8, qz9, qz0, qz10, qz01]
  · simp only [e_P_besideOf, b_P_besideOf_0, qx, qe, qc, qil, reduceIte, Nat.reduceEqDiff, Nat.reduceLeDiff, Bool.false_eq_true, Nat.reduceAdd, Nat.reduceLT, List.length_cons, List.length_nil, or_self, or_false, false_or, or_true, true_or, and_self, and_true, true_and, and_false, false_and, not_true_eq_false, not_false_eq_true, Nat.zero_le, qz1, qz2, qz3, qz4, qz5, qz6, qz7, qz8, qz9, qz0, qz10, qz01, s_isFallen, hf]
