/-! calls: fault, about, week -/
theorem st_fault (d : Nat) (a : Int32) : STP (d + 40) jC_fault jM_fault [qI a] := by
  refine stp_rw fun s w y k tp fd fa pl T hC hM ok => ?_
  by_cases h0 : a = nI 0
  · subst h0
    refine nochg ok hC fa ?_ (fun s1 g1 => ?_)
    · rcases hC.2.2.2.2.1 with ⟨q1, q2, q3⟩ | ⟨q1, q2, q3⟩
      · subst q2
        simp (config := {maxSteps := 1000000}) (disch := first | omega | assumption | (simp only [qm_wid_n, qm_wid_I, qm_wid_L, qm_wid_P] <;> omega)) only [e_C_fault, b_C_fault_0, b_C_fault_1, qy0, qy1, qy2, qy3, qe, qcn, qin, ↓reduceIte, Nat.reduceEqDiff, Nat.reduceLeDiff, Bool.false_eq_true, Nat.reduceAdd, Nat.reduceSub, Nat.reduceMul, Nat.reduceLT, or_self, or_false, false_or, or_true, true_or, and_self, and_true, true_and, and_false, false_and, not_true_eq_false, not_false_eq_true, q1]
      · simp (config := {maxSteps := 1000000}) (disch := first | omega | assumption | (simp only [qm_wid_n, qm_wid_I, qm_wid_L, qm_wid_P] <;> omega)) only [e_C_fault, b_C_fault_0, b_C_fault_1, b_C_fault_2, b_C_fault_3, b_C_fault_4, qy0, qy1, qy2, qy3, qe, qcn, qin, ↓reduceIte, Nat.reduceEqDiff, Nat.reduceLeDiff, Bool.false_eq_true, Nat.reduceAdd, Nat.reduceSub, Nat.reduceMul, Nat.reduceLT, or_self, or_false, false_or, or_true, true_or, and_self, and_true, true_and, and_false, false_and, not_true_eq_false, not_false_eq_true, q1, q2, q3, t_within]
    · have m6 := g1.2.2.2.2.1.1
      simp (config := {maxSteps := 1000000}) (disch := first | omega | assumption | (simp only [qm_wid_n, qm_wid_I, qm_wid_L, qm_wid_P] <;> omega)) only [e_M_fault, b_M_fault_0, b_M_fault_1, b_M_fault_2, b_M_fault_3, qy0, qy1, qy2, qy3, qe, qcn, qin, ↓reduceIte, Nat.reduceEqDiff, Nat.reduceLeDiff, Bool.false_eq_true, Nat.reduceAdd, Nat.reduceSub, Nat.reduceMul, Nat.reduceLT, or_self, or_false, false_or, or_true, true_or, and_self, and_true, true_and, and_false, false_and, not_true_eq_false, not_false_eq_true, m6]
  · by_cases h1 : a = nI 1
    · subst h1
      refine nochg ok hC pl ?_ (fun s1 g1 => ?_)
      · rcases hC.2.2.2.2.1 with ⟨q1, q2, q3⟩ | ⟨q1, q2, q3⟩
        · subst q3
          simp (config := {maxSteps := 1000000}) (disch := first | omega | assumption | (simp only [qm_wid_n, qm_wid_I, qm_wid_L, qm_wid_P] <;> omega)) only [e_C_fault, b_C_fault_0, b_C_fault_1, qy0, qy1, qy2, qy3, qe, qcn, qin, ↓reduceIte, Nat.reduceEqDiff, Nat.reduceLeDiff, Bool.false_eq_true, Nat.reduceAdd, Nat.reduceSub, Nat.reduceMul, Nat.reduceLT, or_self, or_false, false_or, or_true, true_or, and_self, and_true, true_and, and_false, false_and, not_true_eq_false, not_false_eq_true, q1]
        · simp (config := {maxSteps := 1000000}) (disch := first | omega | assumption | (simp only [qm_wid_n, qm_wid_I, qm_wid_L, qm_wid_P] <;> omega)) only [e_C_fault, b_C_fault_0, b_C_fault_1, b_C_fault_2, b_C_fault_3, b_C_fault_4, qy0, qy1, qy2, qy3, qe, qcn, qin, ↓reduceIte, Nat.reduceEqDiff, Nat.reduceLeDiff, Bool.false_eq_true, Nat.reduceAdd, Nat.reduceSub, Nat.reduceMul, Nat.reduceLT, or_self, or_false, false_or, or_true, true_or, and_self, and_true, true_and, and_false, false_and, not_true_eq_false, not_false_eq_true, q1, q2, q3, t_within]
      · have m7 := g1.2.2.2.2.1.2
        simp (config := {maxSteps := 1000000}) (disch := first | omega | assumption | (simp only [qm_wid_n, qm_wid_I, qm_wid_L, qm_wid_P] <;> omega)) only [e_M_fault, b_M_fault_0, b_M_fault_1, b_M_fault_2, b_M_fault_3, qy0, qy1, qy2, qy3, qe, qcn, qin, ↓reduceIte, Nat.reduceEqDiff, Nat.reduceLeDiff, Bool.false_eq_true, Nat.reduceAdd, Nat.reduceSub, Nat.reduceMul, Nat.reduceLT, or_self, or_false, false_or, or_true, true_or, and_self, and_true, true_and, and_false, false_and, not_true_eq_false, not_false_eq_true, m7]
    · have hn : ¬ (nI 0 ≤ a ∧ a ≤ nI 1) := fun g => by
        obtain ⟨j, _, hj, e⟩ := inr_rg (by decide) g.1 g.2 (by decide)
        have : j = 0 ∨ j = 1 := by omega
        rcases this with q | q <;> subst q
        · exact h0 e
        · exact h1 e
      refine nochg ok hC N1 ?_ (fun s1 g1 => ?_)
      · rcases hC.2.2.2.2.1 with ⟨q1, q2, q3⟩ | ⟨q1, q2, q3⟩
        · simp (config := {maxSteps := 1000000}) (disch := first | omega | assumption | (simp only [qm_wid_n, qm_wid_I, qm_wid_L, qm_wid_P] <;> omega)) only [e_C_fault, b_C_fault_0, b_C_fault_1, qy0, qy1, qy2, qy3, qe, qcn, qin, ↓reduceIte, Nat.reduceEqDiff, Nat.reduceLeDiff, Bool.false_eq_true, Nat.reduceAdd, Nat.reduceSub, Nat.reduceMul, Nat.reduceLT, or_self, or_false, false_or, or_true, true_or, and_self, and_true, true_and, and_false, false_and, not_true_eq_false, not_false_eq_true, q1]
        · simp (config := {maxSteps := 1000000}) (disch := first | omega | assumption | (simp only [qm_wid_n, qm_wid_I, qm_wid_L, qm_wid_P] <;> omega)) only [e_C_fault, b_C_fault_0, b_C_fault_1, qy0, qy1, qy2, qy3, qe, qcn, qin, ↓reduceIte, Nat.reduceEqDiff, Nat.reduceLeDiff, Bool.false_eq_true, Nat.reduceAdd, Nat.reduceSub, Nat.reduceMul, Nat.reduceLT, or_self, or_false, false_or, or_true, true_or, and_self, and_true, true_and, and_false, false_and, not_true_eq_false, not_false_eq_true, q1, t_within, hn]
      · simp (config := {maxSteps := 1000000}) (disch := first | omega | assumption | (simp only [qm_wid_n, qm_wid_I, qm_wid_L, qm_wid_P] <;> omega)) only [e_M_fault, b_M_fault_0, b_M_fault_1, b_M_fault_2, b_M_fault_3, qy0, qy1, qy2, qy3, qe, qcn, qin, ↓reduceIte, Nat.reduceEqDiff, Nat.reduceLeDiff, Bool.false_eq_true, Nat.reduceAdd, Nat.reduceSub, Nat.reduceMul, Nat.reduceLT, or_self, or_false, false_or, or_true, true_or, and_self, and_true, true_and, and_false, false_and, not_true_eq_false, not_false_eq_true, h0, h1]
/-- a switch that finds nothing -/
theorem sw_df : ∀ (bs : List Nat) (lo : Int) (x : Int32) (df : Nat), (∀ i : Nat, i < bs.length → ¬ x = Int32.ofInt (lo + i)) → qm_sw bs lo x df = df
  | [], _, _, _, _ => rfl
  | b :: r, lo, x, df, h => by
    unfold qm_sw
    have h0 := h 0 (by simp)
    rw [show lo + ((0 : Nat) : Int) = lo from Int.add_zero lo] at h0
    rw [if_neg h0]
    refine sw_df r (lo + 1) x df (fun i hi => ?_)
    have := h (i + 1) (by simp; omega)
    rw [show lo + ((i + 1 : Nat) : Int) = lo + 1 + (i : Int) from by omega] at this
    exact this
theorem st_about (d : Nat) (a : Int32) : STP (d + 40) jC_about jM_about [qI a] := by
  refine stp_rw fun s w y k tp fd fa pl T hC hM ok => ?_
  obtain ⟨c1, ⟨c2, c3, c4, c5, c6⟩, _⟩ := hC.1.1
  obtain ⟨⟨y1, y2, y3, y4⟩, _, yp, _⟩ := hC.1.2
  have cf := hC.2.2.2.1.1
  by_cases hr : nI 10 ≤ a ∧ a ≤ nI 49
  · obtain ⟨j, hj1, hj2, rfl⟩ := inr_rg (by decide) hr.1 hr.2 (by decide)
    refine nochg ok hC (y 12 (j - 10)) ?_ (fun s1 g1 => ?_)
    · have h25 := yp (j - 10) (by omega)
      simp (config := {maxSteps := 1000000}) (disch := first | omega | assumption | (simp only [qm_wid_n, qm_wid_I, qm_wid_L, qm_wid_P] <;> omega)) only [e_C_about, b_C_about_0, qy0, qy1, qy2, qy3, qe, qcn, qin, ↓reduceIte, Nat.reduceEqDiff, Nat.reduceLeDiff, Bool.false_eq_true, Nat.reduceAdd, Nat.reduceSub, Nat.reduceMul, Nat.reduceLT, or_self, or_false, false_or, or_true, true_or, and_self, and_true, true_and, and_false, false_and, not_true_eq_false, not_false_eq_true, t_within, h25]
    · have h70 := g1.2.1.2.2.2.1 (j - 10) (by omega)
      have e1 : 70 + j - 10 = 0 + 70 + (j - 10) := by omega
      simp (config := {maxSteps := 1000000}) (disch := first | omega | assumption | (simp only [qm_wid_n, qm_wid_I, qm_wid_L, qm_wid_P] <;> omega)) only [e_M_about, b_M_about_0, qy0, qy1, qy2, qy3, qe, qcn, qin, ↓reduceIte, Nat.reduceEqDiff, Nat.reduceLeDiff, Bool.false_eq_true, Nat.reduceAdd, Nat.reduceSub, Nat.reduceMul, Nat.reduceLT, or_self, or_false, false_or, or_true, true_or, and_self, and_true, true_and, and_false, false_and, not_true_eq_false, not_false_eq_true, t_isIn, e1, h70]
  · by_cases hs : nI 0 ≤ a ∧ a ≤ nI 8
    · obtain ⟨j, _, hj2, rfl⟩ := inr_rg (by decide) hs.1 hs.2 (by decide)
      have hj : j = 0 ∨ j = 1 ∨ j = 2 ∨ j = 3 ∨ j = 4 ∨ j = 5 ∨ j = 6 ∨ j = 7 ∨ j = 8 := by omega
      have sw : ∀ i, i ≤ 8 → qm_sw [2, 3, 4, 5, 6, 7, 8, 9, 10] 0 (nI i) 11 = i + 2 := fun i hi => by
        have : i = 0 ∨ i = 1 ∨ i = 2 ∨ i = 3 ∨ i = 4 ∨ i = 5 ∨ i = 6 ∨ i = 7 ∨ i = 8 := by omega
        rcases this with h | h | h | h | h | h | h | h | h <;> subst h <;> rfl
      have m : ∀ s1, RM s1 w y k tp fd fa pl T → zI s1 9 0 1 = nI w ∧ zI s1 61 0 0 = y 0 0 ∧ zI s1 61 0 1 = y 0 5 ∧ zI s1 61 0 2 = y 0 6 ∧ zI s1 61 0 3 = y 0 7 ∧ zI s1 61 0 4 = y 0 2 ∧ zI s1 61 0 5 = y 0 3 ∧ zI s1 61 0 6 = y 0 4 ∧ zI s1 9 0 5 = nI fd := fun s1 g1 => ⟨g1.2.1.1.1, g1.2.1.1.2.1.1, g1.2.1.2.1.1, g1.2.1.2.1.2.1, g1.2.1.2.1.2.2.1, g1.2.1.1.2.1.2.2.1, g1.2.1.1.2.1.2.2.2.1, g1.2.1.1.2.1.2.2.2.2, g1.2.2.2.1.1⟩
      rcases hj with h | h | h | h | h | h | h | h | h <;> subst h
      · refine nochg ok hC (nI w) ?_ (fun s1 g1 => ?_)
        · simp (config := {maxSteps := 1000000}) (disch := first | omega | assumption | (simp only [qm_wid_n, qm_wid_I, qm_wid_L, qm_wid_P] <;> omega)) only [e_C_about, b_C_about_0, b_C_about_1, b_C_about_2, b_C_about_3, b_C_about_4, b_C_about_5, b_C_about_6, b_C_about_7, b_C_about_8, b_C_about_9, b_C_about_10, b_C_about_11, qy0, qy1, qy2, qy3, qe, qcn, qin, ↓reduceIte, Nat.reduceEqDiff, Nat.reduceLeDiff, Bool.false_eq_true, Nat.reduceAdd, Nat.reduceSub, Nat.reduceMul, Nat.reduceLT, or_self, or_false, false_or, or_true, true_or, and_self, and_true, true_and, and_false, false_and, not_true_eq_false, not_false_eq_true, t_within, sw, c1]
        · obtain ⟨m0, m1, m2, m3, m4, m5, m6, m7, m8⟩ := m s1 g1
          simp (config := {maxSteps := 1000000}) (disch := first | omega | assumption | (simp only [qm_wid_n, qm_wid_I, qm_wid_L, qm_wid_P] <;> omega)) only [e_M_about, b_M_about_0, b_M_about_1, b_M_about_2, b_M_about_3, b_M_about_4, b_M_about_5, b_M_about_6, b_M_about_7, b_M_about_8, b_M_about_9, b_M_about_10, b_M_about_11, qy0, qy1, qy2, qy3, qe, qcn, qin, ↓reduceIte, Nat.reduceEqDiff, Nat.reduceLeDiff, Bool.false_eq_true, Nat.reduceAdd, Nat.reduceSub, Nat.reduceMul, Nat.reduceLT, or_self, or_false, false_or, or_true, true_or, and_self, and_true, true_and, and_false, false_and, not_true_eq_false, not_false_eq_true, t_isIn, sw, m0]
      · refine nochg ok hC (y 0 0) ?_ (fun s1 g1 => ?_)
        · simp (config := {maxSteps := 1000000}) (disch := first | omega | assumption | (simp only [qm_wid_n, qm_wid_I, qm_wid_L, qm_wid_P] <;> omega)) only [e_C_about, b_C_about_0, b_C_about_1, b_C_about_2, b_C_about_3, b_C_about_4, b_C_about_5, b_C_about_6, b_C_about_7, b_C_about_8, b_C_about_9, b_C_about_10, b_C_about_11, qy0, qy1, qy2, qy3, qe, qcn, qin, ↓reduceIte, Nat.reduceEqDiff, Nat.reduceLeDiff, Bool.false_eq_true, Nat.reduceAdd, Nat.reduceSub, Nat.reduceMul, Nat.reduceLT, or_self, or_false, false_or, or_true, true_or, and_self, and_true, true_and, and_false, false_and, not_true_eq_false, not_false_eq_true, t_within, sw, c2]
        · obtain ⟨m0, m1, m2, m3, m4, m5, m6, m7, m8⟩ := m s1 g1
          simp (config := {maxSteps := 1000000}) (disch := first | omega | assumption | (simp only [qm_wid_n, qm_wid_I, qm_wid_L, qm_wid_P] <;> omega)) only [e_M_about, b_M_about_0, b_M_about_1, b_M_about_2, b_M_about_3, b_M_about_4, b_M_about_5, b_M_about_6, b_M_about_7, b_M_about_8, b_M_about_9, b_M_about_10, b_M_about_11, qy0, qy1, qy2, qy3, qe, qcn, qin, ↓reduceIte, Nat.reduceEqDiff, Nat.reduceLeDiff, Bool.false_eq_true, Nat.reduceAdd, Nat.reduceSub, Nat.reduceMul, Nat.reduceLT, or_self, or_false, false_or, or_true, true_or, and_self, and_true, true_and, and_false, false_and, not_true_eq_false, not_false_eq_true, t_isIn, sw, m1]
      · refine nochg ok hC (y 0 5) ?_ (fun s1 g1 => ?_)
        · simp (config := {maxSteps := 1000000}) (disch := first | omega | assumption | (simp only [qm_wid_n, qm_wid_I, qm_wid_L, qm_wid_P] <;> omega)) only [e_C_about, b_C_about_0, b_C_about_1, b_C_about_2, b_C_about_3, b_C_about_4, b_C_about_5, b_C_about_6, b_C_about_7, b_C_about_8, b_C_about_9, b_C_about_10, b_C_about_11, qy0, qy1, qy2, qy3, qe, qcn, qin, ↓reduceIte, Nat.reduceEqDiff, Nat.reduceLeDiff, Bool.false_eq_true, Nat.reduceAdd, Nat.reduceSub, Nat.reduceMul, Nat.reduceLT, or_self, or_false, false_or, or_true, true_or, and_self, and_true, true_and, and_false, false_and, not_true_eq_false, not_false_eq_true, t_within, sw, y1]
        · obtain ⟨m0, m1, m2, m3, m4, m5, m6, m7, m8⟩ := m s1 g1
          simp (config := {maxSteps := 1000000}) (disch := first | omega | assumption | (simp only [qm_wid_n, qm_wid_I, qm_wid_L, qm_wid_P] <;> omega)) only [e_M_about, b_M_about_0, b_M_about_1, b_M_about_2, b_M_about_3, b_M_about_4, b_M_about_5, b_M_about_6, b_M_about_7, b_M_about_8, b_M_about_9, b_M_about_10, b_M_about_11, qy0, qy1, qy2, qy3, qe, qcn, qin, ↓reduceIte, Nat.reduceEqDiff, Nat.reduceLeDiff, Bool.false_eq_true, Nat.reduceAdd, Nat.reduceSub, Nat.reduceMul, Nat.reduceLT, or_self, or_false, false_or, or_true, true_or, and_self, and_true, true_and, and_false, false_and, not_true_eq_false, not_false_eq_true, t_isIn, sw, m2]
      · refine nochg ok hC (y 0 6) ?_ (fun s1 g1 => ?_)
        · simp (config := {maxSteps := 1000000}) (disch := first | omega | assumption | (simp only [qm_wid_n, qm_wid_I, qm_wid_L, qm_wid_P] <;> omega)) only [e_C_about, b_C_about_0, b_C_about_1, b_C_about_2, b_C_about_3, b_C_about_4, b_C_about_5, b_C_about_6, b_C_about_7, b_C_about_8, b_C_about_9, b_C_about_10, b_C_about_11, qy0, qy1, qy2, qy3, qe, qcn, qin, ↓reduceIte, Nat.reduceEqDiff, Nat.reduceLeDiff, Bool.false_eq_true, Nat.reduceAdd, Nat.reduceSub, Nat.reduceMul, Nat.reduceLT, or_self, or_false, false_or, or_true, true_or, and_self, and_true, true_and, and_false, false_and, not_true_eq_false, not_false_eq_true, t_within, sw, y2]
        · obtain ⟨m0, m1, m2, m3, m4, m5, m6, m7, m8⟩ := m s1 g1
          simp (config := {maxSteps := 1000000}) (disch := first | omega | assumption | (simp only [qm_wid_n, qm_wid_I, qm_wid_L, qm_wid_P] <;> omega)) only [e_M_about, b_M_about_0, b_M_about_1, b_M_about_2, b_M_about_3, b_M_about_4, b_M_about_5, b_M_about_6, b_M_about_7, b_M_about_8, b_M_about_9, b_M_about_10, b_M_about_11, qy0, qy1, qy2, qy3, qe, qcn, qin, ↓reduceIte, Nat.reduceEqDiff, Nat.reduceLeDiff, Bool.false_eq_true, Nat.reduceAdd, Nat.reduceSub, Nat.reduceMul, Nat.reduceLT, or_self, or_false, false_or, or_true, true_or, and_self, and_true, true_and, and_false, false_and, not_true_eq_false, not_false_eq_true, t_isIn, sw, m3]
      · refine nochg ok hC (y 0 7) ?_ (fun s1 g1 => ?_)
        · simp (config := {maxSteps := 1000000}) (disch := first | omega | assumption | (simp only [qm_wid_n, qm_wid_I, qm_wid_L, qm_wid_P] <;> omega)) only [e_C_about, b_C_about_0, b_C_about_1, b_C_about_2, b_C_about_3, b_C_about_4, b_C_about_5, b_C_about_6, b_C_about_7, b_C_about_8, b_C_about_9, b_C_about_10, b_C_about_11, qy0, qy1, qy2, qy3, qe, qcn, qin, ↓reduceIte, Nat.reduceEqDiff, Nat.reduceLeDiff, Bool.false_eq_true, Nat.reduceAdd, Nat.reduceSub, Nat.reduceMul, Nat.reduceLT, or_self, or_false, false_or, or_true, true_or, and_self, and_true, true_and, and_false, false_and, not_true_eq_false, not_false_eq_true, t_within, sw, y3]
        · obtain ⟨m0, m1, m2, m3, m4, m5, m6, m7, m8⟩ := m s1 g1
          simp (config := {maxSteps := 1000000}) (disch := first | omega | assumption | (simp only [qm_wid_n, qm_wid_I, qm_wid_L, qm_wid_P] <;> omega)) only [e_M_about, b_M_about_0, b_M_about_1, b_M_about_2, b_M_about_3, b_M_about_4, b_M_about_5, b_M_about_6, b_M_about_7, b_M_about_8, b_M_about_9, b_M_about_10, b_M_about_11, qy0, qy1, qy2, qy3, qe, qcn, qin, ↓reduceIte, Nat.reduceEqDiff, Nat.reduceLeDiff, Bool.false_eq_true, Nat.reduceAdd, Nat.reduceSub, Nat.reduceMul, Nat.reduceLT, or_self, or_false, false_or, or_true, true_or, and_self, and_true, true_and, and_false, false_and, not_true_eq_false, not_false_eq_true, t_isIn, sw, m4]
      · refine nochg ok hC (y 0 2) ?_ (fun s1 g1 => ?_)
        · simp (config := {maxSteps := 1000000}) (disch := first | omega | assumption | (simp only [qm_wid_n, qm_wid_I, qm_wid_L, qm_wid_P] <;> omega)) only [e_C_about, b_C_about_0, b_C_about_1, b_C_about_2, b_C_about_3, b_C_about_4, b_C_about_5, b_C_about_6, b_C_about_7, b_C_about_8, b_C_about_9, b_C_about_10, b_C_about_11, qy0, qy1, qy2, qy3, qe, qcn, qin, ↓reduceIte, Nat.reduceEqDiff, Nat.reduceLeDiff, Bool.false_eq_true, Nat.reduceAdd, Nat.reduceSub, Nat.reduceMul, Nat.reduceLT, or_self, or_false, false_or, or_true, true_or, and_self, and_true, true_and, and_false, false_and, not_true_eq_false, not_false_eq_true, t_within, sw, c4]
        · obtain ⟨m0, m1, m2, m3, m4, m5, m6, m7, m8⟩ := m s1 g1
          simp (config := {maxSteps := 1000000}) (disch := first | omega | assumption | (simp only [qm_wid_n, qm_wid_I, qm_wid_L, qm_wid_P] <;> omega)) only [e_M_about, b_M_about_0, b_M_about_1, b_M_about_2, b_M_about_3, b_M_about_4, b_M_about_5, b_M_about_6, b_M_about_7, b_M_about_8, b_M_about_9, b_M_about_10, b_M_about_11, qy0, qy1, qy2, qy3, qe, qcn, qin, ↓reduceIte, Nat.reduceEqDiff, Nat.reduceLeDiff, Bool.false_eq_true, Nat.reduceAdd, Nat.reduceSub, Nat.reduceMul, Nat.reduceLT, or_self, or_false, false_or, or_true, true_or, and_self, and_true, true_and, and_false, false_and, not_true_eq_false, not_false_eq_true, t_isIn, sw, m5]
      · refine nochg ok hC (y 0 3) ?_ (fun s1 g1 => ?_)
        · simp (config := {maxSteps := 1000000}) (disch := first | omega | assumption | (simp only [qm_wid_n, qm_wid_I, qm_wid_L, qm_wid_P] <;> omega)) only [e_C_about, b_C_about_0, b_C_about_1, b_C_about_2, b_C_about_3, b_C_about_4, b_C_about_5, b_C_about_6, b_C_about_7, b_C_about_8, b_C_about_9, b_C_about_10, b_C_about_11, qy0, qy1, qy2, qy3, qe, qcn, qin, ↓reduceIte, Nat.reduceEqDiff, Nat.reduceLeDiff, Bool.false_eq_true, Nat.reduceAdd, Nat.reduceSub, Nat.reduceMul, Nat.reduceLT, or_self, or_false, false_or, or_true, true_or, and_self, and_true, true_and, and_false, false_and, not_true_eq_false, not_false_eq_true, t_within, sw, c5]
        · obtain ⟨m0, m1, m2, m3, m4, m5, m6, m7, m8⟩ := m s1 g1
          simp (config := {maxSteps := 1000000}) (disch := first | omega | assumption | (simp only [qm_wid_n, qm_wid_I, qm_wid_L, qm_wid_P] <;> omega)) only [e_M_about, b_M_about_0, b_M_about_1, b_M_about_2, b_M_about_3, b_M_about_4, b_M_about_5, b_M_about_6, b_M_about_7, b_M_about_8, b_M_about_9, b_M_about_10, b_M_about_11, qy0, qy1, qy2, qy3, qe, qcn, qin, ↓reduceIte, Nat.reduceEqDiff, Nat.reduceLeDiff, Bool.false_eq_true, Nat.reduceAdd, Nat.reduceSub, Nat.reduceMul, Nat.reduceLT, or_self, or_false, false_or, or_true, true_or, and_self, and_true, true_and, and_false, false_and, not_true_eq_false, not_false_eq_true, t_isIn, sw, m6]
      · refine nochg ok hC (y 0 4) ?_ (fun s1 g1 => ?_)
        · simp (config := {maxSteps := 1000000}) (disch := first | omega | assumption | (simp only [qm_wid_n, qm_wid_I, qm_wid_L, qm_wid_P] <;> omega)) only [e_C_about, b_C_about_0, b_C_about_1, b_C_about_2, b_C_about_3, b_C_about_4, b_C_about_5, b_C_about_6, b_C_about_7, b_C_about_8, b_C_about_9, b_C_about_10, b_C_about_11, qy0, qy1, qy2, qy3, qe, qcn, qin, ↓reduceIte, Nat.reduceEqDiff, Nat.reduceLeDiff, Bool.false_eq_true, Nat.reduceAdd, Nat.reduceSub, Nat.reduceMul, Nat.reduceLT, or_self, or_false, false_or, or_true, true_or, and_self, and_true, true_and, and_false, false_and, not_true_eq_false, not_false_eq_true, t_within, sw, c6]
        · obtain ⟨m0, m1, m2, m3, m4, m5, m6, m7, m8⟩ := m s1 g1
          simp (config := {maxSteps := 1000000}) (disch := first | omega | assumption | (simp only [qm_wid_n, qm_wid_I, qm_wid_L, qm_wid_P] <;> omega)) only [e_M_about, b_M_about_0, b_M_about_1, b_M_about_2, b_M_about_3, b_M_about_4, b_M_about_5, b_M_about_6, b_M_about_7, b_M_about_8, b_M_about_9, b_M_about_10, b_M_about_11, qy0, qy1, qy2, qy3, qe, qcn, qin, ↓reduceIte, Nat.reduceEqDiff, Nat.reduceLeDiff, Bool.false_eq_true, Nat.reduceAdd, Nat.reduceSub, Nat.reduceMul, Nat.reduceLT, or_self, or_false, false_or, or_true, true_or, and_self, and_true, true_and, and_false, false_and, not_true_eq_false, not_false_eq_true, t_isIn, sw, m7]
      · refine nochg ok hC (nI fd) ?_ (fun s1 g1 => ?_)
        · simp (config := {maxSteps := 1000000}) (disch := first | omega | assumption | (simp only [qm_wid_n, qm_wid_I, qm_wid_L, qm_wid_P] <;> omega)) only [e_C_about, b_C_about_0, b_C_about_1, b_C_about_2, b_C_about_3, b_C_about_4, b_C_about_5, b_C_about_6, b_C_about_7, b_C_about_8, b_C_about_9, b_C_about_10, b_C_about_11, qy0, qy1, qy2, qy3, qe, qcn, qin, ↓reduceIte, Nat.reduceEqDiff, Nat.reduceLeDiff, Bool.false_eq_true, Nat.reduceAdd, Nat.reduceSub, Nat.reduceMul, Nat.reduceLT, or_self, or_false, false_or, or_true, true_or, and_self, and_true, true_and, and_false, false_and, not_true_eq_false, not_false_eq_true, t_within, sw, cf]
        · obtain ⟨m0, m1, m2, m3, m4, m5, m6, m7, m8⟩ := m s1 g1
          simp (config := {maxSteps := 1000000}) (disch := first | omega | assumption | (simp only [qm_wid_n, qm_wid_I, qm_wid_L, qm_wid_P] <;> omega)) only [e_M_about, b_M_about_0, b_M_about_1, b_M_about_2, b_M_about_3, b_M_about_4, b_M_about_5, b_M_about_6, b_M_about_7, b_M_about_8, b_M_about_9, b_M_about_10, b_M_about_11, qy0, qy1, qy2, qy3, qe, qcn, qin, ↓reduceIte, Nat.reduceEqDiff, Nat.reduceLeDiff, Bool.false_eq_true, Nat.reduceAdd, Nat.reduceSub, Nat.reduceMul, Nat.reduceLT, or_self, or_false, false_or, or_true, true_or, and_self, and_true, true_and, and_false, false_and, not_true_eq_false, not_false_eq_true, t_isIn, sw, m8]
    · have hne : ∀ i, i ≤ 8 → ¬ a = nI i := fun i hi q => hs (by rw [q]; exact ⟨nI_le (Nat.zero_le _) (by omega), nI_le hi (by decide)⟩)
      have sw : qm_sw [2, 3, 4, 5, 6, 7, 8, 9, 10] 0 a 11 = 11 := sw_df _ _ _ _ (fun i hi => by
        have : i = 0 ∨ i = 1 ∨ i = 2 ∨ i = 3 ∨ i = 4 ∨ i = 5 ∨ i = 6 ∨ i = 7 ∨ i = 8 := by simp only [List.length_cons, List.length_nil] at hi; omega
        rcases this with h | h | h | h | h | h | h | h | h <;> subst h
        · exact hne 0 (by decide)
        · exact hne 1 (by decide)
        · exact hne 2 (by decide)
        · exact hne 3 (by decide)
        · exact hne 4 (by decide)
        · exact hne 5 (by decide)
        · exact hne 6 (by decide)
        · exact hne 7 (by decide)
        · exact hne 8 (by decide))
      refine nochg ok hC N1 ?_ (fun s1 g1 => ?_)
      · simp (config := {maxSteps := 1000000}) (disch := first | omega | assumption | (simp only [qm_wid_n, qm_wid_I, qm_wid_L, qm_wid_P] <;> omega)) only [e_C_about, b_C_about_0, b_C_about_1, b_C_about_11, qy0, qy1, qy2, qy3, qe, qcn, qin, ↓reduceIte, Nat.reduceEqDiff, Nat.reduceLeDiff, Bool.false_eq_true, Nat.reduceAdd, Nat.reduceSub, Nat.reduceMul, Nat.reduceLT, or_self, or_false, false_or, or_true, true_or, and_self, and_true, true_and, and_false, false_and, not_true_eq_false, not_false_eq_true, t_within, hr, sw]
      · simp (config := {maxSteps := 1000000}) (disch := first | omega | assumption | (simp only [qm_wid_n, qm_wid_I, qm_wid_L, qm_wid_P] <;> omega)) only [e_M_about, b_M_about_0, b_M_about_1, b_M_about_11, qy0, qy1, qy2, qy3, qe, qcn, qin, ↓reduceIte, Nat.reduceEqDiff, Nat.reduceLeDiff, Bool.false_eq_true, Nat.reduceAdd, Nat.reduceSub, Nat.reduceMul, Nat.reduceLT, or_self, or_false, false_or, or_true, true_or, and_self, and_true, true_and, and_false, false_and, not_true_eq_false, not_false_eq_true, t_isIn, hr, sw]
/-- the weather of a number, out of the yard -/
def Wy (y : VW) (k : Nat) : Nat → Int32 := fun i => y (8 + i) k
theorem Wy_C {s : qm_Hp} {w k : Nat} {y : VW} (h : YC s 0 w y) (hk : k < 12) : zI s 21 0 k = Wy y k 0 ∧ zI s 22 0 k = Wy y k 1 ∧ zI s 23 0 k = Wy y k 2 ∧ zI s 24 0 k = Wy y k 3 := h.2.1 k hk
theorem Wy_M {s : qm_Hp} {w k : Nat} {y : VW} (h : YM s 0 w y) (hk : k < 12) : ∀ i, i < 4 → zI s 61 0 (20 + 4 * k + i) = Wy y k i := fun i hi => by
  have := h.2.1 k hk i hi
  rw [Nat.zero_add] at this
  exact this
theorem Wy_r {w k : Nat} {y : VW} (h : OKY w y) (hk : k < 12) : ∀ i, i < 4 → rg (Wy y k i) 0 40 := fun i hi => h.2.2.2.2.1 k hk i hi
theorem vp_pass {τ : TX} {w : Nat} {W : Nat → Int32} {y : VW} : vp y (passv τ w W y) := fun a j h => by
  unfold passv
  by_cases q : dryv τ w W y 0 1 = N1 ∧ stand τ (dryv τ w W y) w < absI (lean τ (dryv τ w W y) w)
  · rw [fall_yes q, vset_ne (by omega)]
    unfold dryv
    rw [if_neg (by omega), if_neg (by omega)]
  · rw [fall_no q]
    unfold dryv
    rw [if_neg (by omega), if_neg (by omega)]
theorem RM_fm {s s' : qm_Hp} {w : Nat} {y y' k : VW} {tp : Nat → Int32} {fd : Nat} {fa pl : Int32} {T : Nat → TX} (hw : w ≤ 6) (hf : fm 0 s s') (hP : PM s' 0 w y') (hv : vp y y') (h : RM s w y k tp fd fa pl T) : RM s' w y' k tp fd fa pl T :=
  RM_pile hw (fun j _ => fm_9 hf j) (fun j hj => hf.2 j (by omega) (by omega) (by omega)) (fun j => hf.1.1 62 0 j (by decide)) (fun j => hf.1.1 63 0 j (by decide)) hP hv h
theorem fm_MP {b : Nat} {s s' : qm_Hp} (h : fm b s s') : fp MP s s' := fp_fr (fun k i hk => by
  simp only [List.mem_cons, List.not_mem_nil, or_false] at hk
  unfold MP
  omega) h.1
theorem pass_wk {τ : TX} {w : Nat} {W : Nat → Int32} {y : VW} : passv τ w W y 0 0 = y 0 0 + nI 1 := by
  unfold passv
  by_cases q : dryv τ w W y 0 1 = N1 ∧ stand τ (dryv τ w W y) w < absI (lean τ (dryv τ w W y) w)
  · rw [fall_yes q, vset_ne (by omega)]; rfl
  · rw [fall_no q]; rfl
theorem st_week (d : Nat) (a : Int32) : STP (d + 40) jC_week jM_week [qI a] := by
  refine stp_rw fun s w y k tp fd fa pl T hC hM ok => ?_
  have okp := ok.1.1
  have hw := okp.1
  obtain ⟨n, _, hn, en⟩ := ok.1.2.1
  obtain ⟨wk, _, hwk, ewk⟩ := okp.2.1.1
  have hcw : zI s 2 0 5 = nI n := hC.1.2.1.1.trans en
  have hc8 : zI s 3 0 8 = nI wk := hC.1.1.2.1.1.trans ewk
  rcases wth_or a n (by omega) with ⟨j, hj, rfl, hq⟩ | hq
  · have hit1 := t_isWeather (d + 38) hcw (nI j)
    rw [if_pos hq] at hit1
    have hmi : ∀ s1, RM s1 w y k tp fd fa pl T → _ := fun s1 g1 => r_isWeather (d + 38) (s := s1) (n := n) (g1.2.1.2.1.1.trans en) (nI j)
    by_cases h399 : wk < 399
    · have okt := ok_rul ok
      obtain ⟨s1, a1, a2, a3⟩ := c_pass (d + 33) (W := Wy y j) hC.1.1 okp (RC_LC hC ok) okt (by omega : j < 12) (Wy_C hC.1.2 (by omega)) ewk h399
      have hc8' : zI s1 3 0 8 = nI (wk + 1) := by rw [a2.2.1.1, pass_wk, ewk, nI_add]
      refine ⟨nI (wk + 1), passv (rul T y) w (Wy y j) y, k, tp, fd, fa, pl, T, OKG_pile (ok_fall (ok_dry okp ewk h399)) vp_pass ok, ⟨s1, ?_, PP_CP a3, RC_pile a3 a2 vp_pass hC⟩, fun s2 g2 => ?_⟩
      · simp (config := {maxSteps := 1000000}) (disch := first | omega | assumption | (simp only [qm_wid_n, qm_wid_I, qm_wid_L, qm_wid_P] <;> omega)) only [e_C_week, b_C_week_0, b_C_week_1, b_C_week_2, qy0, qy1, qy2, qy3, qe, qcn, qin, ↓reduceIte, Nat.reduceEqDiff, Nat.reduceLeDiff, Bool.false_eq_true, Nat.reduceAdd, Nat.reduceSub, Nat.reduceMul, Nat.reduceLT, or_self, or_false, false_or, or_true, true_or, and_self, and_true, true_and, and_false, false_and, not_true_eq_false, not_false_eq_true, hit1, hc8, a1, hc8']
      · obtain ⟨s3, b1, b2, b3⟩ := r_goBy (d + 32) (W := Wy y j) g2.2.1.1 okp g2.1.1 (by decide) (Or.inl rfl) (RM_LM g2 ok) okt (by omega : j < 12) (Wy_M g2.2.1.2 (by omega)) (Wy_r ok.1.2 (by omega)) g2.1.2 ewk h399
        have m1 := hmi s2 g2
        rw [if_pos hq] at m1
        have m0 : zI s2 61 0 0 = nI wk := g2.2.1.1.2.1.1.trans ewk
        have m0' : zI s3 61 0 0 = nI (wk + 1) := by rw [b2.2.1.1, pass_wk, ewk, nI_add]
        refine ⟨s3, ?_, fm_MP b3, RM_fm hw.2 b3 b2 vp_pass g2⟩
        simp (config := {maxSteps := 1000000}) (disch := first | omega | assumption | (simp only [qm_wid_n, qm_wid_I, qm_wid_L, qm_wid_P] <;> omega)) only [e_M_week, b_M_week_0, b_M_week_1, b_M_week_2, qy0, qy1, qy2, qy3, qe, qcn, qin, ↓reduceIte, Nat.reduceEqDiff, Nat.reduceLeDiff, Bool.false_eq_true, Nat.reduceAdd, Nat.reduceSub, Nat.reduceMul, Nat.reduceLT, or_self, or_false, false_or, or_true, true_or, and_self, and_true, true_and, and_false, false_and, not_true_eq_false, not_false_eq_true, m1, m0, b1, m0']
    · have h9 : wk = 399 := by omega
      subst h9
      refine nochg ok hC N1 ?_ (fun s1 g1 => ?_)
      · simp (config := {maxSteps := 1000000}) (disch := first | omega | assumption | (simp only [qm_wid_n, qm_wid_I, qm_wid_L, qm_wid_P] <;> omega)) only [e_C_week, b_C_week_0, b_C_week_1, qy0, qy1, qy2, qy3, qe, qcn, qin, ↓reduceIte, Nat.reduceEqDiff, Nat.reduceLeDiff, Bool.false_eq_true, Nat.reduceAdd, Nat.reduceSub, Nat.reduceMul, Nat.reduceLT, or_self, or_false, false_or, or_true, true_or, and_self, and_true, true_and, and_false, false_and, not_true_eq_false, not_false_eq_true, hit1, hc8]
      · have m1 := hmi s1 g1
        rw [if_pos hq] at m1
        have m0 : zI s1 61 0 0 = nI 399 := g1.2.1.1.2.1.1.trans ewk
        simp (config := {maxSteps := 1000000}) (disch := first | omega | assumption | (simp only [qm_wid_n, qm_wid_I, qm_wid_L, qm_wid_P] <;> omega)) only [e_M_week, b_M_week_0, b_M_week_1, qy0, qy1, qy2, qy3, qe, qcn, qin, ↓reduceIte, Nat.reduceEqDiff, Nat.reduceLeDiff, Bool.false_eq_true, Nat.reduceAdd, Nat.reduceSub, Nat.reduceMul, Nat.reduceLT, or_self, or_false, false_or, or_true, true_or, and_self, and_true, true_and, and_false, false_and, not_true_eq_false, not_false_eq_true, m1, m0]
  · have hit1 := t_isWeather (d + 38) hcw a
    rw [if_neg hq] at hit1
    refine nochg ok hC N1 ?_ (fun s1 g1 => ?_)
    · simp (config := {maxSteps := 1000000}) (disch := first | omega | assumption | (simp only [qm_wid_n, qm_wid_I, qm_wid_L, qm_wid_P] <;> omega)) only [e_C_week, b_C_week_0, b_C_week_1, qy0, qy1, qy2, qy3, qe, qcn, qin, ↓reduceIte, Nat.reduceEqDiff, Nat.reduceLeDiff, Bool.false_eq_true, Nat.reduceAdd, Nat.reduceSub, Nat.reduceMul, Nat.reduceLT, or_self, or_false, false_or, or_true, true_or, and_self, and_true, true_and, and_false, false_and, not_true_eq_false, not_false_eq_true, hit1]
    · have m1 := r_isWeather (d + 38) (s := s1) (n := n) (g1.2.1.2.1.1.trans en) a
      rw [if_neg hq] at m1
      simp (config := {maxSteps := 1000000}) (disch := first | omega | assumption | (simp only [qm_wid_n, qm_wid_I, qm_wid_L, qm_wid_P] <;> omega)) only [e_M_week, b_M_week_0, b_M_week_1, qy0, qy1, qy2, qy3, qe, qcn, qin, ↓reduceIte, Nat.reduceEqDiff, Nat.reduceLeDiff, Bool.false_eq_true, Nat.reduceAdd, Nat.reduceSub, Nat.reduceMul, Nat.reduceLT, or_self, or_false, false_or, or_true, true_or, and_self, and_true, true_and, and_false, false_and, not_true_eq_false, not_false_eq_true, m1]
