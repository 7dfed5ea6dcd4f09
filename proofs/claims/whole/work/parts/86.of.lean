/-! calls: of, stack -/
theorem PM_0 {s : qm_Hp} {w : Nat} {y : VW} (h : PM s 0 w y) {c z : Nat} (hc : c < w) (hz : z < cn y c) (f : Nat) (hf : f < 6) : zI s 61 0 (130 + 6 * (8 * c + z) + f) = y (2 + f) (8 * c + z) := by
  have := PM_s h hc hz f hf
  rw [Nat.zero_add] at this
  exact this
theorem r_at00 (d : Nat) {s : qm_Hp} (hb : zI s 9 0 2 = nI 0) (c z : Nat) : qm_evM d jM_at0 [qP 9 0, qI (nI c), qI (nI z)] s = some (some (qI (nI (130 + 6 * (8 * c + z)))), s) := by
  have := r_at0 d hb c z
  rw [Nat.zero_add] at this
  exact this
theorem st_of (d : Nat) (a b e : Int32) : STP (d + 40) jC_of jM_of [qI a, qI b, qI e] := by
  refine stp_rw fun s w y k tp fd fa pl T hC hM ok => ?_
  have okp := ok.1.1
  have hw := okp.1
  have hPC := hC.1.1
  have okt := ok_rul ok
  by_cases hsp : sp w y a b
  · obtain ⟨c, z, hc, hz, rfl, rfl⟩ := hsp
    have h8 := OK_n okp hc
    have hh := t_holds_y (d + 39) hPC okp hc hz
    have mis : ∀ s1, RM s1 w y k tp fd fa pl T → _ := fun s1 h1 => r_isSplit_y (d + 37) (s := s1) h1.2.1.1 okp h1.1.1 (by decide) hc hz
    have mat : ∀ s1, RM s1 w y k tp fd fa pl T → _ := fun s1 h1 => r_at00 (d + 39) (s := s1) h1.1.1 c z
    by_cases hs : nI 0 ≤ e ∧ e ≤ nI 8
    · obtain ⟨j, _, hj2, rfl⟩ := inr_rg (by decide) hs.1 hs.2 (by decide)
      have hj : j = 0 ∨ j = 1 ∨ j = 2 ∨ j = 3 ∨ j = 4 ∨ j = 5 ∨ j = 6 ∨ j = 7 ∨ j = 8 := by omega
      have sw : ∀ i, i ≤ 8 → qm_sw [2, 3, 4, 5, 6, 7, 8, 9, 10] 0 (nI i) 13 = i + 2 := fun i hi => by
        have : i = 0 ∨ i = 1 ∨ i = 2 ∨ i = 3 ∨ i = 4 ∨ i = 5 ∨ i = 6 ∨ i = 7 ∨ i = 8 := by omega
        rcases this with h | h | h | h | h | h | h | h | h <;> subst h <;> rfl
      rcases hj with h | h | h | h | h | h | h | h | h <;> subst h
      · refine nochg ok hC (y 2 (8 * c + z)) ?_ (fun s1 h1 => ?_)
        · have q := PC_kd hPC hc hz
          simp (config := {maxSteps := 1000000}) (disch := first | omega | assumption | (simp only [qm_wid_n, qm_wid_I, qm_wid_L, qm_wid_P] <;> omega)) only [e_C_of, b_C_of_0, b_C_of_1, b_C_of_2, qy0, qy1, qy2, qy3, qe, qcn, qin, ↓reduceIte, Nat.reduceEqDiff, Nat.reduceLeDiff, Bool.false_eq_true, Nat.reduceAdd, Nat.reduceSub, Nat.reduceMul, Nat.reduceLT, or_self, or_false, false_or, or_true, true_or, and_self, and_true, true_and, and_false, false_and, not_true_eq_false, not_false_eq_true, hh, t_place, sw, q]
        · have q := PM_0 h1.2.1.1 hc hz 0 (by decide)
          rw [Nat.add_zero] at q
          have m1 := mis s1 h1
          have m2 := mat s1 h1
          simp (config := {maxSteps := 1000000}) (disch := first | omega | assumption | (simp only [qm_wid_n, qm_wid_I, qm_wid_L, qm_wid_P] <;> omega)) only [e_M_of, b_M_of_0, b_M_of_1, qy0, qy1, qy2, qy3, qe, qcn, qin, ↓reduceIte, Nat.reduceEqDiff, Nat.reduceLeDiff, Bool.false_eq_true, Nat.reduceAdd, Nat.reduceSub, Nat.reduceMul, Nat.reduceLT, or_self, or_false, false_or, or_true, true_or, and_self, and_true, true_and, and_false, false_and, not_true_eq_false, not_false_eq_true, m1, m2, t_isIn, Nat.add_zero, q]
      · refine nochg ok hC (y 3 (8 * c + z)) ?_ (fun s1 h1 => ?_)
        · have q := PC_sz hPC hc hz
          simp (config := {maxSteps := 1000000}) (disch := first | omega | assumption | (simp only [qm_wid_n, qm_wid_I, qm_wid_L, qm_wid_P] <;> omega)) only [e_C_of, b_C_of_0, b_C_of_1, b_C_of_3, qy0, qy1, qy2, qy3, qe, qcn, qin, ↓reduceIte, Nat.reduceEqDiff, Nat.reduceLeDiff, Bool.false_eq_true, Nat.reduceAdd, Nat.reduceSub, Nat.reduceMul, Nat.reduceLT, or_self, or_false, false_or, or_true, true_or, and_self, and_true, true_and, and_false, false_and, not_true_eq_false, not_false_eq_true, hh, t_place, sw, q]
        · have q := PM_0 h1.2.1.1 hc hz 1 (by decide)
          have m1 := mis s1 h1
          have m2 := mat s1 h1
          simp (config := {maxSteps := 1000000}) (disch := first | omega | assumption | (simp only [qm_wid_n, qm_wid_I, qm_wid_L, qm_wid_P] <;> omega)) only [e_M_of, b_M_of_0, b_M_of_1, qy0, qy1, qy2, qy3, qe, qcn, qin, ↓reduceIte, Nat.reduceEqDiff, Nat.reduceLeDiff, Bool.false_eq_true, Nat.reduceAdd, Nat.reduceSub, Nat.reduceMul, Nat.reduceLT, or_self, or_false, false_or, or_true, true_or, and_self, and_true, true_and, and_false, false_and, not_true_eq_false, not_false_eq_true, m1, m2, t_isIn, q]
      · refine nochg ok hC (y 4 (8 * c + z)) ?_ (fun s1 h1 => ?_)
        · have q := PC_wt hPC hc hz
          simp (config := {maxSteps := 1000000}) (disch := first | omega | assumption | (simp only [qm_wid_n, qm_wid_I, qm_wid_L, qm_wid_P] <;> omega)) only [e_C_of, b_C_of_0, b_C_of_1, b_C_of_4, qy0, qy1, qy2, qy3, qe, qcn, qin, ↓reduceIte, Nat.reduceEqDiff, Nat.reduceLeDiff, Bool.false_eq_true, Nat.reduceAdd, Nat.reduceSub, Nat.reduceMul, Nat.reduceLT, or_self, or_false, false_or, or_true, true_or, and_self, and_true, true_and, and_false, false_and, not_true_eq_false, not_false_eq_true, hh, t_place, sw, q]
        · have q := PM_0 h1.2.1.1 hc hz 2 (by decide)
          have m1 := mis s1 h1
          have m2 := mat s1 h1
          simp (config := {maxSteps := 1000000}) (disch := first | omega | assumption | (simp only [qm_wid_n, qm_wid_I, qm_wid_L, qm_wid_P] <;> omega)) only [e_M_of, b_M_of_0, b_M_of_1, qy0, qy1, qy2, qy3, qe, qcn, qin, ↓reduceIte, Nat.reduceEqDiff, Nat.reduceLeDiff, Bool.false_eq_true, Nat.reduceAdd, Nat.reduceSub, Nat.reduceMul, Nat.reduceLT, or_self, or_false, false_or, or_true, true_or, and_self, and_true, true_and, and_false, false_and, not_true_eq_false, not_false_eq_true, m1, m2, t_isIn, q]
      · refine nochg ok hC (y 5 (8 * c + z)) ?_ (fun s1 h1 => ?_)
        · have q := PC_bk hPC hc hz
          simp (config := {maxSteps := 1000000}) (disch := first | omega | assumption | (simp only [qm_wid_n, qm_wid_I, qm_wid_L, qm_wid_P] <;> omega)) only [e_C_of, b_C_of_0, b_C_of_1, b_C_of_5, qy0, qy1, qy2, qy3, qe, qcn, qin, ↓reduceIte, Nat.reduceEqDiff, Nat.reduceLeDiff, Bool.false_eq_true, Nat.reduceAdd, Nat.reduceSub, Nat.reduceMul, Nat.reduceLT, or_self, or_false, false_or, or_true, true_or, and_self, and_true, true_and, and_false, false_and, not_true_eq_false, not_false_eq_true, hh, t_place, sw, q]
        · have q := PM_0 h1.2.1.1 hc hz 3 (by decide)
          have m1 := mis s1 h1
          have m2 := mat s1 h1
          simp (config := {maxSteps := 1000000}) (disch := first | omega | assumption | (simp only [qm_wid_n, qm_wid_I, qm_wid_L, qm_wid_P] <;> omega)) only [e_M_of, b_M_of_0, b_M_of_1, qy0, qy1, qy2, qy3, qe, qcn, qin, ↓reduceIte, Nat.reduceEqDiff, Nat.reduceLeDiff, Bool.false_eq_true, Nat.reduceAdd, Nat.reduceSub, Nat.reduceMul, Nat.reduceLT, or_self, or_false, false_or, or_true, true_or, and_self, and_true, true_and, and_false, false_and, not_true_eq_false, not_false_eq_true, m1, m2, t_isIn, q]
      · refine nochg ok hC (y 6 (8 * c + z)) ?_ (fun s1 h1 => ?_)
        · have q := PC_lo hPC hc hz
          simp (config := {maxSteps := 1000000}) (disch := first | omega | assumption | (simp only [qm_wid_n, qm_wid_I, qm_wid_L, qm_wid_P] <;> omega)) only [e_C_of, b_C_of_0, b_C_of_1, b_C_of_6, qy0, qy1, qy2, qy3, qe, qcn, qin, ↓reduceIte, Nat.reduceEqDiff, Nat.reduceLeDiff, Bool.false_eq_true, Nat.reduceAdd, Nat.reduceSub, Nat.reduceMul, Nat.reduceLT, or_self, or_false, false_or, or_true, true_or, and_self, and_true, true_and, and_false, false_and, not_true_eq_false, not_false_eq_true, hh, t_place, sw, q]
        · have q := PM_0 h1.2.1.1 hc hz 4 (by decide)
          have m1 := mis s1 h1
          have m2 := mat s1 h1
          simp (config := {maxSteps := 1000000}) (disch := first | omega | assumption | (simp only [qm_wid_n, qm_wid_I, qm_wid_L, qm_wid_P] <;> omega)) only [e_M_of, b_M_of_0, b_M_of_1, qy0, qy1, qy2, qy3, qe, qcn, qin, ↓reduceIte, Nat.reduceEqDiff, Nat.reduceLeDiff, Bool.false_eq_true, Nat.reduceAdd, Nat.reduceSub, Nat.reduceMul, Nat.reduceLT, or_self, or_false, false_or, or_true, true_or, and_self, and_true, true_and, and_false, false_and, not_true_eq_false, not_false_eq_true, m1, m2, t_isIn, q]
      · refine nochg ok hC (y 7 (8 * c + z)) ?_ (fun s1 h1 => ?_)
        · have q := PC_hi hPC hc hz
          simp (config := {maxSteps := 1000000}) (disch := first | omega | assumption | (simp only [qm_wid_n, qm_wid_I, qm_wid_L, qm_wid_P] <;> omega)) only [e_C_of, b_C_of_0, b_C_of_1, b_C_of_7, qy0, qy1, qy2, qy3, qe, qcn, qin, ↓reduceIte, Nat.reduceEqDiff, Nat.reduceLeDiff, Bool.false_eq_true, Nat.reduceAdd, Nat.reduceSub, Nat.reduceMul, Nat.reduceLT, or_self, or_false, false_or, or_true, true_or, and_self, and_true, true_and, and_false, false_and, not_true_eq_false, not_false_eq_true, hh, t_place, sw, q]
        · have q := PM_0 h1.2.1.1 hc hz 5 (by decide)
          have m1 := mis s1 h1
          have m2 := mat s1 h1
          simp (config := {maxSteps := 1000000}) (disch := first | omega | assumption | (simp only [qm_wid_n, qm_wid_I, qm_wid_L, qm_wid_P] <;> omega)) only [e_M_of, b_M_of_0, b_M_of_1, qy0, qy1, qy2, qy3, qe, qcn, qin, ↓reduceIte, Nat.reduceEqDiff, Nat.reduceLeDiff, Bool.false_eq_true, Nat.reduceAdd, Nat.reduceSub, Nat.reduceMul, Nat.reduceLT, or_self, or_false, false_or, or_true, true_or, and_self, and_true, true_and, and_false, false_and, not_true_eq_false, not_false_eq_true, m1, m2, t_isIn, q]
      · refine roscr ok hC (thick (rul T y) y w c z) ?_ (fun s1 h1 => ?_)
        · obtain ⟨s1, q1, q2, _⟩ := c_thick (d + 35) hPC okp (RC_LC hC ok) okt hc hz
          refine ⟨s1, ?_, q2⟩
          simp (config := {maxSteps := 1000000}) (disch := first | omega | assumption | (simp only [qm_wid_n, qm_wid_I, qm_wid_L, qm_wid_P] <;> omega)) only [e_C_of, b_C_of_0, b_C_of_1, b_C_of_8, qy0, qy1, qy2, qy3, qe, qcn, qin, ↓reduceIte, Nat.reduceEqDiff, Nat.reduceLeDiff, Bool.false_eq_true, Nat.reduceAdd, Nat.reduceSub, Nat.reduceMul, Nat.reduceLT, or_self, or_false, false_or, or_true, true_or, and_self, and_true, true_and, and_false, false_and, not_true_eq_false, not_false_eq_true, hh, t_place, sw, q1]
        · obtain ⟨s2, q1, q2⟩ := r_thick (d + 35) h1.2.1.1 okp h1.1.1 (by decide) (RM_LM h1 ok) okt hc hz
          refine ⟨s2, ?_, q2⟩
          have m1 := mis s1 h1
          simp (config := {maxSteps := 1000000}) (disch := first | omega | assumption | (simp only [qm_wid_n, qm_wid_I, qm_wid_L, qm_wid_P] <;> omega)) only [e_M_of, b_M_of_0, b_M_of_1, b_M_of_2, qy0, qy1, qy2, qy3, qe, qcn, qin, ↓reduceIte, Nat.reduceEqDiff, Nat.reduceLeDiff, Bool.false_eq_true, Nat.reduceAdd, Nat.reduceSub, Nat.reduceMul, Nat.reduceLT, or_self, or_false, false_or, or_true, true_or, and_self, and_true, true_and, and_false, false_and, not_true_eq_false, not_false_eq_true, m1, t_isIn, q1]
      · refine roscr ok hC (heat (rul T y) y w c z) ?_ (fun s1 h1 => ?_)
        · obtain ⟨s1, q1, q2⟩ := c_heat (d + 35) hPC okp (RC_LC hC ok) okt hc hz
          refine ⟨s1, ?_, q2⟩
          simp (config := {maxSteps := 1000000}) (disch := first | omega | assumption | (simp only [qm_wid_n, qm_wid_I, qm_wid_L, qm_wid_P] <;> omega)) only [e_C_of, b_C_of_0, b_C_of_1, b_C_of_9, qy0, qy1, qy2, qy3, qe, qcn, qin, ↓reduceIte, Nat.reduceEqDiff, Nat.reduceLeDiff, Bool.false_eq_true, Nat.reduceAdd, Nat.reduceSub, Nat.reduceMul, Nat.reduceLT, or_self, or_false, false_or, or_true, true_or, and_self, and_true, true_and, and_false, false_and, not_true_eq_false, not_false_eq_true, hh, t_place, sw, q1]
        · obtain ⟨s2, q1, q2⟩ := r_heat (d + 35) h1.2.1.1 okp h1.1.1 (by decide) (RM_LM h1 ok) okt hc hz
          refine ⟨s2, ?_, q2⟩
          have m1 := mis s1 h1
          simp (config := {maxSteps := 1000000}) (disch := first | omega | assumption | (simp only [qm_wid_n, qm_wid_I, qm_wid_L, qm_wid_P] <;> omega)) only [e_M_of, b_M_of_0, b_M_of_1, b_M_of_2, b_M_of_3, qy0, qy1, qy2, qy3, qe, qcn, qin, ↓reduceIte, Nat.reduceEqDiff, Nat.reduceLeDiff, Bool.false_eq_true, Nat.reduceAdd, Nat.reduceSub, Nat.reduceMul, Nat.reduceLT, or_self, or_false, false_or, or_true, true_or, and_self, and_true, true_and, and_false, false_and, not_true_eq_false, not_false_eq_true, m1, t_isIn, q1]
      · refine nochg ok hC (isd y c z) ?_ (fun s1 h1 => ?_)
        · have q := PC_wt hPC hc hz
          unfold isd
          by_cases q2 : y 4 (8 * c + z) ≤ nI 200
          · simp (config := {maxSteps := 1000000}) (disch := first | omega | assumption | (simp only [qm_wid_n, qm_wid_I, qm_wid_L, qm_wid_P] <;> omega)) only [e_C_of, b_C_of_0, b_C_of_1, b_C_of_10, b_C_of_11, b_C_of_12, qy0, qy1, qy2, qy3, qe, qcn, qin, ↓reduceIte, Nat.reduceEqDiff, Nat.reduceLeDiff, Bool.false_eq_true, Nat.reduceAdd, Nat.reduceSub, Nat.reduceMul, Nat.reduceLT, or_self, or_false, false_or, or_true, true_or, and_self, and_true, true_and, and_false, false_and, not_true_eq_false, not_false_eq_true, hh, t_place, sw, q, t_isDry, q2]
          · simp (config := {maxSteps := 1000000}) (disch := first | omega | assumption | (simp only [qm_wid_n, qm_wid_I, qm_wid_L, qm_wid_P] <;> omega)) only [e_C_of, b_C_of_0, b_C_of_1, b_C_of_10, b_C_of_11, b_C_of_12, qy0, qy1, qy2, qy3, qe, qcn, qin, ↓reduceIte, Nat.reduceEqDiff, Nat.reduceLeDiff, Bool.false_eq_true, Nat.reduceAdd, Nat.reduceSub, Nat.reduceMul, Nat.reduceLT, or_self, or_false, false_or, or_true, true_or, and_self, and_true, true_and, and_false, false_and, not_true_eq_false, not_false_eq_true, hh, t_place, sw, q, t_isDry, q2]
        · have q := r_isDry (d + 38) h1.2.1.1 okp h1.1.1 (by decide) hc hz
          have m1 := mis s1 h1
          unfold isd at q ⊢
          by_cases q2 : y 4 (8 * c + z) ≤ nI 200
          · simp (config := {maxSteps := 1000000}) (disch := first | omega | assumption | (simp only [qm_wid_n, qm_wid_I, qm_wid_L, qm_wid_P] <;> omega)) only [e_M_of, b_M_of_0, b_M_of_1, b_M_of_2, b_M_of_3, b_M_of_4, b_M_of_5, b_M_of_6, b_M_of_7, qy0, qy1, qy2, qy3, qe, qcn, qin, ↓reduceIte, Nat.reduceEqDiff, Nat.reduceLeDiff, Bool.false_eq_true, Nat.reduceAdd, Nat.reduceSub, Nat.reduceMul, Nat.reduceLT, or_self, or_false, false_or, or_true, true_or, and_self, and_true, true_and, and_false, false_and, not_true_eq_false, not_false_eq_true, m1, t_isIn, q, q2]
          · simp (config := {maxSteps := 1000000}) (disch := first | omega | assumption | (simp only [qm_wid_n, qm_wid_I, qm_wid_L, qm_wid_P] <;> omega)) only [e_M_of, b_M_of_0, b_M_of_1, b_M_of_2, b_M_of_3, b_M_of_4, b_M_of_5, b_M_of_6, b_M_of_7, qy0, qy1, qy2, qy3, qe, qcn, qin, ↓reduceIte, Nat.reduceEqDiff, Nat.reduceLeDiff, Bool.false_eq_true, Nat.reduceAdd, Nat.reduceSub, Nat.reduceMul, Nat.reduceLT, or_self, or_false, false_or, or_true, true_or, and_self, and_true, true_and, and_false, false_and, not_true_eq_false, not_false_eq_true, m1, t_isIn, q, q2]
    · have hne : ∀ i, i ≤ 8 → ¬ e = nI i := fun i hi q => hs (by rw [q]; exact ⟨nI_le (Nat.zero_le _) (by omega), nI_le hi (by decide)⟩)
      have sw : qm_sw [2, 3, 4, 5, 6, 7, 8, 9, 10] 0 e 13 = 13 := sw_df _ _ _ _ (fun i hi => by
        have : i = 0 ∨ i = 1 ∨ i = 2 ∨ i = 3 ∨ i = 4 ∨ i = 5 ∨ i = 6 ∨ i = 7 ∨ i = 8 := by simp only [List.length_cons, List.length_nil] at hi; omega
        rcases this with h | h | h | h | h | h | h | h | h <;> subst h
        · exact hne 0 (by decide)
        · exact hne 1 (by decide)
        · exact hne 2 (by decide)
        · exact hne 3 (by decide)
        · exact hne 4 (by decide)
        · exact hne 5 (by decide)
        · exact hne 6 (by decide)
        · exact hne 7 (by decide)
        · exact hne 8 (by decide))
      have h5 : ¬ (nI 0 ≤ e ∧ e ≤ nI 5) := fun g => by
        obtain ⟨j, _, hj, q⟩ := inr_rg (by decide) g.1 g.2 (by decide)
        exact hne j (by omega) q
      have h6 := hne 6 (by decide)
      have h7 := hne 7 (by decide)
      have h8' := hne 8 (by decide)
      refine nochg ok hC N1 ?_ (fun s1 h1 => ?_)
      · simp (config := {maxSteps := 1000000}) (disch := first | omega | assumption | (simp only [qm_wid_n, qm_wid_I, qm_wid_L, qm_wid_P] <;> omega)) only [e_C_of, b_C_of_0, b_C_of_1, b_C_of_13, qy0, qy1, qy2, qy3, qe, qcn, qin, ↓reduceIte, Nat.reduceEqDiff, Nat.reduceLeDiff, Bool.false_eq_true, Nat.reduceAdd, Nat.reduceSub, Nat.reduceMul, Nat.reduceLT, or_self, or_false, false_or, or_true, true_or, and_self, and_true, true_and, and_false, false_and, not_true_eq_false, not_false_eq_true, hh, t_place, sw]
      · have m1 := mis s1 h1
        simp (config := {maxSteps := 1000000}) (disch := first | omega | assumption | (simp only [qm_wid_n, qm_wid_I, qm_wid_L, qm_wid_P] <;> omega)) only [e_M_of, b_M_of_0, b_M_of_1, b_M_of_2, b_M_of_3, b_M_of_4, b_M_of_5, b_M_of_6, b_M_of_7, qy0, qy1, qy2, qy3, qe, qcn, qin, ↓reduceIte, Nat.reduceEqDiff, Nat.reduceLeDiff, Bool.false_eq_true, Nat.reduceAdd, Nat.reduceSub, Nat.reduceMul, Nat.reduceLT, or_self, or_false, false_or, or_true, true_or, and_self, and_true, true_and, and_false, false_and, not_true_eq_false, not_false_eq_true, m1, t_isIn, h5, h6, h7, h8']
  · have hh := t_holds_n (d + 39) hPC okp hsp
    refine nochg ok hC N1 ?_ (fun s1 h1 => ?_)
    · simp (config := {maxSteps := 1000000}) (disch := first | omega | assumption | (simp only [qm_wid_n, qm_wid_I, qm_wid_L, qm_wid_P] <;> omega)) only [e_C_of, b_C_of_0, qy0, qy1, qy2, qy3, qe, qcn, qin, ↓reduceIte, Nat.reduceEqDiff, Nat.reduceLeDiff, Bool.false_eq_true, Nat.reduceAdd, Nat.reduceSub, Nat.reduceMul, Nat.reduceLT, or_self, or_false, false_or, or_true, true_or, and_self, and_true, true_and, and_false, false_and, not_true_eq_false, not_false_eq_true, hh]
    · have his := r_isSplit_n (d + 37) h1.2.1.1 okp h1.1.1 (by decide) hsp
      simp (config := {maxSteps := 1000000}) (disch := first | omega | assumption | (simp only [qm_wid_n, qm_wid_I, qm_wid_L, qm_wid_P] <;> omega)) only [e_M_of, b_M_of_0, qy0, qy1, qy2, qy3, qe, qcn, qin, ↓reduceIte, Nat.reduceEqDiff, Nat.reduceLeDiff, Bool.false_eq_true, Nat.reduceAdd, Nat.reduceSub, Nat.reduceMul, Nat.reduceLT, or_self, or_false, false_or, or_true, true_or, and_self, and_true, true_and, and_false, false_and, not_true_eq_false, not_false_eq_true, his]
theorem st_stack (d : Nat) (a : Int32) : STP (d + 40) jC_stack jM_stack [qI a] := by
  refine stp_rw fun s w y k tp fd fa pl T hC hM ok => ?_
  have okp := ok.1.1
  have hw := okp.1
  have hPC := hC.1.1
  have hww := hPC.1
  have okt := ok_rul ok
  have hLC := RC_LC hC ok
  by_cases hr : nI 10 ≤ a ∧ a ≤ nI (9 + w)
  · obtain ⟨j, hj1, hj2, rfl⟩ := inr_rg (by omega) hr.1 hr.2 (by omega)
    refine roscr ok hC (height (rul T y) y w (j - 10)) ?_ (fun s1 h1 => ?_)
    · obtain ⟨s1, q1, q2⟩ := c_height (d + 34) hPC okp hLC okt (c := j - 10) (by omega)
      refine ⟨s1, ?_, q2⟩
      simp (config := {maxSteps := 1000000}) (disch := first | omega | assumption | (simp only [qm_wid_n, qm_wid_I, qm_wid_L, qm_wid_P] <;> omega)) only [e_C_stack, b_C_stack_0, qy0, qy1, qy2, qy3, qe, qcn, qin, ↓reduceIte, Nat.reduceEqDiff, Nat.reduceLeDiff, Bool.false_eq_true, Nat.reduceAdd, Nat.reduceSub, Nat.reduceMul, Nat.reduceLT, or_self, or_false, false_or, or_true, true_or, and_self, and_true, true_and, and_false, false_and, not_true_eq_false, not_false_eq_true, t_within, hww, q1]
    · obtain ⟨s2, q1, q2⟩ := r_height (d + 34) h1.2.1.1 okp h1.1.1 (by decide) (RM_LM h1 ok) okt (c := j - 10) (by omega)
      refine ⟨s2, ?_, q2⟩
      have hw9 := h1.2.1.1.1
      simp (config := {maxSteps := 1000000}) (disch := first | omega | assumption | (simp only [qm_wid_n, qm_wid_I, qm_wid_L, qm_wid_P] <;> omega)) only [e_M_stack, b_M_stack_0, qy0, qy1, qy2, qy3, qe, qcn, qin, ↓reduceIte, Nat.reduceEqDiff, Nat.reduceLeDiff, Bool.false_eq_true, Nat.reduceAdd, Nat.reduceSub, Nat.reduceMul, Nat.reduceLT, or_self, or_false, false_or, or_true, true_or, and_self, and_true, true_and, and_false, false_and, not_true_eq_false, not_false_eq_true, t_isIn, hw9, q1]
  · by_cases hr2 : nI 20 ≤ a ∧ a ≤ nI (19 + w)
    · obtain ⟨j, hj1, hj2, rfl⟩ := inr_rg (by omega) hr2.1 hr2.2 (by omega)
      refine nochg ok hC (nI (cn y (j - 20))) ?_ (fun s1 h1 => ?_)
      · have q := PC_c hPC (c := j - 20) (by omega)
        simp (config := {maxSteps := 1000000}) (disch := first | omega | assumption | (simp only [qm_wid_n, qm_wid_I, qm_wid_L, qm_wid_P] <;> omega)) only [e_C_stack, b_C_stack_0, b_C_stack_1, qy0, qy1, qy2, qy3, qe, qcn, qin, ↓reduceIte, Nat.reduceEqDiff, Nat.reduceLeDiff, Bool.false_eq_true, Nat.reduceAdd, Nat.reduceSub, Nat.reduceMul, Nat.reduceLT, or_self, or_false, false_or, or_true, true_or, and_self, and_true, true_and, and_false, false_and, not_true_eq_false, not_false_eq_true, t_within, hww, q]
      · have q := r_count (d + 39) h1.2.1.1 okp h1.1.1 (by decide) (c := j - 20) (by omega)
        have hw9 := h1.2.1.1.1
        simp (config := {maxSteps := 1000000}) (disch := first | omega | assumption | (simp only [qm_wid_n, qm_wid_I, qm_wid_L, qm_wid_P] <;> omega)) only [e_M_stack, b_M_stack_0, b_M_stack_1, qy0, qy1, qy2, qy3, qe, qcn, qin, ↓reduceIte, Nat.reduceEqDiff, Nat.reduceLeDiff, Bool.false_eq_true, Nat.reduceAdd, Nat.reduceSub, Nat.reduceMul, Nat.reduceLT, or_self, or_false, false_or, or_true, true_or, and_self, and_true, true_and, and_false, false_and, not_true_eq_false, not_false_eq_true, t_isIn, hw9, q]
    · by_cases hs : nI 0 ≤ a ∧ a ≤ nI 6
      · obtain ⟨j, _, hj2, rfl⟩ := inr_rg (by decide) hs.1 hs.2 (by decide)
        have hj : j = 0 ∨ j = 1 ∨ j = 2 ∨ j = 3 ∨ j = 4 ∨ j = 5 ∨ j = 6 := by omega
        have sw : ∀ i, i ≤ 6 → qm_sw [3, 4, 5, 6, 7, 8, 9] 0 (nI i) 10 = i + 3 := fun i hi => by
          have : i = 0 ∨ i = 1 ∨ i = 2 ∨ i = 3 ∨ i = 4 ∨ i = 5 ∨ i = 6 := by omega
          rcases this with h | h | h | h | h | h | h <;> subst h <;> rfl
        rcases hj with h | h | h | h | h | h | h <;> subst h
        · refine roscr ok hC (lean (rul T y) y w) ?_ (fun s1 h1 => ?_)
          · obtain ⟨s1, q1, q2⟩ := c_lean (d + 33) hPC okp hLC okt
            refine ⟨s1, ?_, q2⟩
            simp (config := {maxSteps := 1000000}) (disch := first | omega | assumption | (simp only [qm_wid_n, qm_wid_I, qm_wid_L, qm_wid_P] <;> omega)) only [e_C_stack, b_C_stack_0, b_C_stack_1, b_C_stack_2, b_C_stack_3, qy0, qy1, qy2, qy3, qe, qcn, qin, ↓reduceIte, Nat.reduceEqDiff, Nat.reduceLeDiff, Bool.false_eq_true, Nat.reduceAdd, Nat.reduceSub, Nat.reduceMul, Nat.reduceLT, or_self, or_false, false_or, or_true, true_or, and_self, and_true, true_and, and_false, false_and, not_true_eq_false, not_false_eq_true, t_within, hww, sw, q1]
          · obtain ⟨s2, q1, q2⟩ := r_lean (d + 33) h1.2.1.1 okp h1.1.1 (by decide) (RM_LM h1 ok) okt
            refine ⟨s2, ?_, q2⟩
            have hw9 := h1.2.1.1.1
            simp (config := {maxSteps := 1000000}) (disch := first | omega | assumption | (simp only [qm_wid_n, qm_wid_I, qm_wid_L, qm_wid_P] <;> omega)) only [e_M_stack, b_M_stack_0, b_M_stack_1, b_M_stack_2, b_M_stack_3, qy0, qy1, qy2, qy3, qe, qcn, qin, ↓reduceIte, Nat.reduceEqDiff, Nat.reduceLeDiff, Bool.false_eq_true, Nat.reduceAdd, Nat.reduceSub, Nat.reduceMul, Nat.reduceLT, or_self, or_false, false_or, or_true, true_or, and_self, and_true, true_and, and_false, false_and, not_true_eq_false, not_false_eq_true, t_isIn, hw9, sw, q1]
        · refine roscr ok hC (stand (rul T y) y w) ?_ (fun s1 h1 => ?_)
          · obtain ⟨s1, q1, q2⟩ := c_stand (d + 35) hPC okp hLC okt
            refine ⟨s1, ?_, q2⟩
            simp (config := {maxSteps := 1000000}) (disch := first | omega | assumption | (simp only [qm_wid_n, qm_wid_I, qm_wid_L, qm_wid_P] <;> omega)) only [e_C_stack, b_C_stack_0, b_C_stack_1, b_C_stack_2, b_C_stack_4, qy0, qy1, qy2, qy3, qe, qcn, qin, ↓reduceIte, Nat.reduceEqDiff, Nat.reduceLeDiff, Bool.false_eq_true, Nat.reduceAdd, Nat.reduceSub, Nat.reduceMul, Nat.reduceLT, or_self, or_false, false_or, or_true, true_or, and_self, and_true, true_and, and_false, false_and, not_true_eq_false, not_false_eq_true, t_within, hww, sw, q1]
          · obtain ⟨s2, q1, q2⟩ := r_stand (d + 35) h1.2.1.1 okp h1.1.1 (by decide) (RM_LM h1 ok) okt
            refine ⟨s2, ?_, q2⟩
            have hw9 := h1.2.1.1.1
            simp (config := {maxSteps := 1000000}) (disch := first | omega | assumption | (simp only [qm_wid_n, qm_wid_I, qm_wid_L, qm_wid_P] <;> omega)) only [e_M_stack, b_M_stack_0, b_M_stack_1, b_M_stack_2, b_M_stack_4, qy0, qy1, qy2, qy3, qe, qcn, qin, ↓reduceIte, Nat.reduceEqDiff, Nat.reduceLeDiff, Bool.false_eq_true, Nat.reduceAdd, Nat.reduceSub, Nat.reduceMul, Nat.reduceLT, or_self, or_false, false_or, or_true, true_or, and_self, and_true, true_and, and_false, false_and, not_true_eq_false, not_false_eq_true, t_isIn, hw9, sw, q1]
        · refine nochg ok hC (y 0 1) ?_ (fun s1 h1 => ?_)
          · have q := hPC.2.1.2.1
            simp (config := {maxSteps := 1000000}) (disch := first | omega | assumption | (simp only [qm_wid_n, qm_wid_I, qm_wid_L, qm_wid_P] <;> omega)) only [e_C_stack, b_C_stack_0, b_C_stack_1, b_C_stack_2, b_C_stack_5, qy0, qy1, qy2, qy3, qe, qcn, qin, ↓reduceIte, Nat.reduceEqDiff, Nat.reduceLeDiff, Bool.false_eq_true, Nat.reduceAdd, Nat.reduceSub, Nat.reduceMul, Nat.reduceLT, or_self, or_false, false_or, or_true, true_or, and_self, and_true, true_and, and_false, false_and, not_true_eq_false, not_false_eq_true, t_within, hww, sw, q]
          · have q : zI s1 61 0 7 = y 0 1 := h1.2.1.1.2.1.2.1
            have hw9 := h1.2.1.1.1
            simp (config := {maxSteps := 1000000}) (disch := first | omega | assumption | (simp only [qm_wid_n, qm_wid_I, qm_wid_L, qm_wid_P] <;> omega)) only [e_M_stack, b_M_stack_0, b_M_stack_1, b_M_stack_2, b_M_stack_5, qy0, qy1, qy2, qy3, qe, qcn, qin, ↓reduceIte, Nat.reduceEqDiff, Nat.reduceLeDiff, Bool.false_eq_true, Nat.reduceAdd, Nat.reduceSub, Nat.reduceMul, Nat.reduceLT, or_self, or_false, false_or, or_true, true_or, and_self, and_true, true_and, and_false, false_and, not_true_eq_false, not_false_eq_true, t_isIn, hw9, sw, q]
        · refine nochg ok hC (nI (spl y w)) ?_ (fun s1 h1 => ?_)
          · have q := c_splits (d + 39) hPC okp
            simp (config := {maxSteps := 1000000}) (disch := first | omega | assumption | (simp only [qm_wid_n, qm_wid_I, qm_wid_L, qm_wid_P] <;> omega)) only [e_C_stack, b_C_stack_0, b_C_stack_1, b_C_stack_2, b_C_stack_6, qy0, qy1, qy2, qy3, qe, qcn, qin, ↓reduceIte, Nat.reduceEqDiff, Nat.reduceLeDiff, Bool.false_eq_true, Nat.reduceAdd, Nat.reduceSub, Nat.reduceMul, Nat.reduceLT, or_self, or_false, false_or, or_true, true_or, and_self, and_true, true_and, and_false, false_and, not_true_eq_false, not_false_eq_true, t_within, hww, sw, q]
          · have q := r_splits (d + 38) h1.2.1.1 okp h1.1.1 (by decide)
            have hw9 := h1.2.1.1.1
            simp (config := {maxSteps := 1000000}) (disch := first | omega | assumption | (simp only [qm_wid_n, qm_wid_I, qm_wid_L, qm_wid_P] <;> omega)) only [e_M_stack, b_M_stack_0, b_M_stack_1, b_M_stack_2, b_M_stack_6, qy0, qy1, qy2, qy3, qe, qcn, qin, ↓reduceIte, Nat.reduceEqDiff, Nat.reduceLeDiff, Bool.false_eq_true, Nat.reduceAdd, Nat.reduceSub, Nat.reduceMul, Nat.reduceLT, or_self, or_false, false_or, or_true, true_or, and_self, and_true, true_and, and_false, false_and, not_true_eq_false, not_false_eq_true, t_isIn, hw9, sw, q]
        · refine nochg ok hC (cnt (isd y) y w) ?_ (fun s1 h1 => ?_)
          · have q := c_dry (d + 38) hPC okp
            simp (config := {maxSteps := 1000000}) (disch := first | omega | assumption | (simp only [qm_wid_n, qm_wid_I, qm_wid_L, qm_wid_P] <;> omega)) only [e_C_stack, b_C_stack_0, b_C_stack_1, b_C_stack_2, b_C_stack_7, qy0, qy1, qy2, qy3, qe, qcn, qin, ↓reduceIte, Nat.reduceEqDiff, Nat.reduceLeDiff, Bool.false_eq_true, Nat.reduceAdd, Nat.reduceSub, Nat.reduceMul, Nat.reduceLT, or_self, or_false, false_or, or_true, true_or, and_self, and_true, true_and, and_false, false_and, not_true_eq_false, not_false_eq_true, t_within, hww, sw, q]
          · have q := r_dry (d + 37) h1.2.1.1 okp h1.1.1 (by decide)
            have hw9 := h1.2.1.1.1
            simp (config := {maxSteps := 1000000}) (disch := first | omega | assumption | (simp only [qm_wid_n, qm_wid_I, qm_wid_L, qm_wid_P] <;> omega)) only [e_M_stack, b_M_stack_0, b_M_stack_1, b_M_stack_2, b_M_stack_7, qy0, qy1, qy2, qy3, qe, qcn, qin, ↓reduceIte, Nat.reduceEqDiff, Nat.reduceLeDiff, Bool.false_eq_true, Nat.reduceAdd, Nat.reduceSub, Nat.reduceMul, Nat.reduceLT, or_self, or_false, false_or, or_true, true_or, and_self, and_true, true_and, and_false, false_and, not_true_eq_false, not_false_eq_true, t_isIn, hw9, sw, q]
        · refine roscr ok hC (airv (rul T y) y w) ?_ (fun s1 h1 => ?_)
          · obtain ⟨s1, q1, q2⟩ := c_air (d + 34) hPC okp hLC okt
            refine ⟨s1, ?_, q2⟩
            simp (config := {maxSteps := 1000000}) (disch := first | omega | assumption | (simp only [qm_wid_n, qm_wid_I, qm_wid_L, qm_wid_P] <;> omega)) only [e_C_stack, b_C_stack_0, b_C_stack_1, b_C_stack_2, b_C_stack_8, qy0, qy1, qy2, qy3, qe, qcn, qin, ↓reduceIte, Nat.reduceEqDiff, Nat.reduceLeDiff, Bool.false_eq_true, Nat.reduceAdd, Nat.reduceSub, Nat.reduceMul, Nat.reduceLT, or_self, or_false, false_or, or_true, true_or, and_self, and_true, true_and, and_false, false_and, not_true_eq_false, not_false_eq_true, t_within, hww, sw, q1]
          · obtain ⟨s2, q1, q2⟩ := r_air (d + 33) h1.2.1.1 okp h1.1.1 (by decide) (RM_LM h1 ok) okt
            refine ⟨s2, ?_, q2⟩
            have hw9 := h1.2.1.1.1
            simp (config := {maxSteps := 1000000}) (disch := first | omega | assumption | (simp only [qm_wid_n, qm_wid_I, qm_wid_L, qm_wid_P] <;> omega)) only [e_M_stack, b_M_stack_0, b_M_stack_1, b_M_stack_2, b_M_stack_8, qy0, qy1, qy2, qy3, qe, qcn, qin, ↓reduceIte, Nat.reduceEqDiff, Nat.reduceLeDiff, Bool.false_eq_true, Nat.reduceAdd, Nat.reduceSub, Nat.reduceMul, Nat.reduceLT, or_self, or_false, false_or, or_true, true_or, and_self, and_true, true_and, and_false, false_and, not_true_eq_false, not_false_eq_true, t_isIn, hw9, sw, q1]
        · refine roscr ok hC (cnt (beet (rul T y) y w) y w) ?_ (fun s1 h1 => ?_)
          · obtain ⟨s1, q1, q2⟩ := c_beetles (d + 35) hPC okp hLC okt
            refine ⟨s1, ?_, q2⟩
            simp (config := {maxSteps := 1000000}) (disch := first | omega | assumption | (simp only [qm_wid_n, qm_wid_I, qm_wid_L, qm_wid_P] <;> omega)) only [e_C_stack, b_C_stack_0, b_C_stack_1, b_C_stack_2, b_C_stack_9, qy0, qy1, qy2, qy3, qe, qcn, qin, ↓reduceIte, Nat.reduceEqDiff, Nat.reduceLeDiff, Bool.false_eq_true, Nat.reduceAdd, Nat.reduceSub, Nat.reduceMul, Nat.reduceLT, or_self, or_false, false_or, or_true, true_or, and_self, and_true, true_and, and_false, false_and, not_true_eq_false, not_false_eq_true, t_within, hww, sw, q1]
          · obtain ⟨s2, q1, q2⟩ := r_beetles (d + 35) h1.2.1.1 okp h1.1.1 (by decide) (RM_LM h1 ok) okt
            refine ⟨s2, ?_, q2⟩
            have hw9 := h1.2.1.1.1
            simp (config := {maxSteps := 1000000}) (disch := first | omega | assumption | (simp only [qm_wid_n, qm_wid_I, qm_wid_L, qm_wid_P] <;> omega)) only [e_M_stack, b_M_stack_0, b_M_stack_1, b_M_stack_2, b_M_stack_9, qy0, qy1, qy2, qy3, qe, qcn, qin, ↓reduceIte, Nat.reduceEqDiff, Nat.reduceLeDiff, Bool.false_eq_true, Nat.reduceAdd, Nat.reduceSub, Nat.reduceMul, Nat.reduceLT, or_self, or_false, false_or, or_true, true_or, and_self, and_true, true_and, and_false, false_and, not_true_eq_false, not_false_eq_true, t_isIn, hw9, sw, q1]
      · have hne : ∀ i, i ≤ 6 → ¬ a = nI i := fun i hi q => hs (by rw [q]; exact ⟨nI_le (Nat.zero_le _) (by omega), nI_le hi (by decide)⟩)
        have sw : qm_sw [3, 4, 5, 6, 7, 8, 9] 0 a 10 = 10 := sw_df _ _ _ _ (fun i hi => by
          have : i = 0 ∨ i = 1 ∨ i = 2 ∨ i = 3 ∨ i = 4 ∨ i = 5 ∨ i = 6 := by simp only [List.length_cons, List.length_nil] at hi; omega
          rcases this with h | h | h | h | h | h | h <;> subst h
          · exact hne 0 (by decide)
          · exact hne 1 (by decide)
          · exact hne 2 (by decide)
          · exact hne 3 (by decide)
          · exact hne 4 (by decide)
          · exact hne 5 (by decide)
          · exact hne 6 (by decide))
        refine nochg ok hC NM100000 ?_ (fun s1 h1 => ?_)
        · simp (config := {maxSteps := 1000000}) (disch := first | omega | assumption | (simp only [qm_wid_n, qm_wid_I, qm_wid_L, qm_wid_P] <;> omega)) only [e_C_stack, b_C_stack_0, b_C_stack_1, b_C_stack_2, b_C_stack_10, qy0, qy1, qy2, qy3, qe, qcn, qin, ↓reduceIte, Nat.reduceEqDiff, Nat.reduceLeDiff, Bool.false_eq_true, Nat.reduceAdd, Nat.reduceSub, Nat.reduceMul, Nat.reduceLT, or_self, or_false, false_or, or_true, true_or, and_self, and_true, true_and, and_false, false_and, not_true_eq_false, not_false_eq_true, t_within, hww, hr, hr2, sw]
        · have hw9 := h1.2.1.1.1
          simp (config := {maxSteps := 1000000}) (disch := first | omega | assumption | (simp only [qm_wid_n, qm_wid_I, qm_wid_L, qm_wid_P] <;> omega)) only [e_M_stack, b_M_stack_0, b_M_stack_1, b_M_stack_2, b_M_stack_10, qy0, qy1, qy2, qy3, qe, qcn, qin, ↓reduceIte, Nat.reduceEqDiff, Nat.reduceLeDiff, Bool.false_eq_true, Nat.reduceAdd, Nat.reduceSub, Nat.reduceMul, Nat.reduceLT, or_self, or_false, false_or, or_true, true_or, and_self, and_true, true_and, and_false, false_and, not_true_eq_false, not_false_eq_true, t_isIn, hw9, hr, hr2, sw]
