/-! the call way -/
theorem c_allWays (d : Nat) {x : qm_Hp} {w n i : Nat} {y k : VW} {tp : Nat → Int32} {fd : Nat} {fa pl : Int32} {T : Nat → TX} (ok : OKG w y k tp fd T) (hR : RC x w y k tp fd fa pl T) (hi : y 0 0 = nI i) (h9 : i + n ≤ 399) (hn : n ≤ 40) (p2 p3 p4 : qm_AV) (p5 : Int32) (p7 : qm_AV) : ∃ x', qm_evB (d + 8) jC_way 11 [qP 1 0, qI (nI n), p2, p3, p4, qI p5, qI (nI 0), p7] [] x = qm_evB (d + 8) jC_way 11 [qP 1 0, qI (nI n), p2, p3, p4, qI p5, qI (nI 8), p7] [] x' ∧ RC x' w y k tp fd fa pl T ∧ fp CP x x' ∧ (∀ m, m < 8 → zI x' 54 0 m = wd (rul T y) w y n m ∧ zI x' 55 0 m = ws (rul T y) w y n m) := by
  obtain ⟨x', e, q1, q2, q3⟩ := q_lp 8 (fun m (x : qm_Hp) => qm_evB (d + 8) jC_way 11 [qP 1 0, qI (nI n), p2, p3, p4, qI p5, qI (nI m), p7] [] x) (fun m x' => RC x' w y k tp fd fa pl T ∧ fp CP x x' ∧ (∀ j, j < m → zI x' 54 0 j = wd (rul T y) w y n j ∧ zI x' 55 0 j = ws (rul T y) w y n j)) (fun m x' hm hx => by
    obtain ⟨i1, i2, i3⟩ := hx
    obtain ⟨x2, g1, g2, g3, g4, g5, g6⟩ := c_tryWay d ok i1 hi h9 hn hm
    refine ⟨x2, (b_C_way_11 ..).trans ?_, g2, fp_trans i2 g3, fun j hj => ?_⟩
    · simp (config := {maxSteps := 1000000}) (disch := first | omega | assumption | (simp only [qm_wid_n, qm_wid_I, qm_wid_L, qm_wid_P] <;> omega)) only [qy0, qy1, qy2, qy3, qe, qcn, qin, ↓reduceIte, Nat.reduceEqDiff, Nat.reduceLeDiff, Bool.false_eq_true, Nat.reduceAdd, Nat.reduceSub, Nat.reduceMul, Nat.reduceLT, or_self, or_false, false_or, or_true, true_or, and_self, and_true, true_and, and_false, false_and, not_true_eq_false, not_false_eq_true, g1]
    · by_cases q : j = m
      · subst q; exact ⟨g4, g5⟩
      · rw [(g6 j q).1, (g6 j q).2]; exact i3 j (by omega)) 0 x (Nat.zero_le _) ⟨hR, fp_refl _ _, fun j hj => by omega⟩
  exact ⟨x', e, q1, q2, q3⟩
theorem st_way (d : Nat) (a b c : Int32) : STP (d + 40) jC_way jM_way [qI a, qI b, qI c] := by
  refine stp_rw fun s w y k tp fd fa pl T hC hM ok => ?_
  have okp := ok.1.1
  obtain ⟨nw, _, hnw, enw⟩ := ok.1.2.1
  obtain ⟨wk, _, hwk, ewk⟩ := okp.2.1.1
  have h5 : zI s 2 0 5 = nI nw := hC.1.2.1.1.trans enw
  have h8 : zI s 3 0 8 = nI wk := hC.1.1.2.1.1.trans ewk
  have m1 : ∀ s1, RM s1 w y k tp fd fa pl T → zI s1 61 0 1 = nI nw := fun s1 g => g.2.1.2.1.1.trans enw
  have m0 : ∀ s1, RM s1 w y k tp fd fa pl T → zI s1 61 0 0 = nI wk := fun s1 g => g.2.1.1.2.1.1.trans ewk
  by_cases hn : nI 1 ≤ a ∧ a ≤ nI 40
  · obtain ⟨n, hn1, hn2, rfl⟩ := inr_rg (by decide) hn.1 hn.2 (by decide)
    have hcp := t_canPass (d + 39) h5 h8 hnw hwk n hn2
    by_cases hp : 0 < nw ∧ wk + n ≤ 399
    · rw [if_pos hp] at hcp
      have mt : ∀ s1, RM s1 w y k tp fd fa pl T → _ := fun s1 g => r_isTried_y (d + 38) (s := s1) (M := 40) (m1 s1 g) (m0 s1 g) hnw (by decide) hn2 (Or.inr hp.1) hp.2
      have mw : ∀ s1, RM s1 w y k tp fd fa pl T → _ := fun s1 g => r_tryWays (d + 30) (s := s1) ok g ewk hp.2 hn2
      by_cases hb : nI 0 ≤ b ∧ b ≤ nI 7
      · obtain ⟨m, _, hm, rfl⟩ := inr_rg (by decide) hb.1 hb.2 (by decide)
        by_cases hc : nI 0 ≤ c ∧ c ≤ nI 1
        · obtain ⟨q, _, hq, rfl⟩ := inr_rg (by decide) hc.1 hc.2 (by decide)
          obtain ⟨x, g1, g2, g3, g4, g5, _⟩ := c_tryWay (d + 32) ok hC ewk hp.2 hn2 (m := m) (by omega)
          have hq' : q = 0 ∨ q = 1 := by omega
          rcases hq' with rfl | rfl
          · refine ⟨wd (rul T y) w y n m, y, k, tp, fd, fa, pl, T, ok, ⟨x, ?_, g3, g2⟩, fun s1 h1 => ?_⟩
            · simp (config := {maxSteps := 1000000}) (disch := first | omega | assumption | (simp only [qm_wid_n, qm_wid_I, qm_wid_L, qm_wid_P] <;> omega)) only [e_C_way, b_C_way_0, b_C_way_1, b_C_way_2, b_C_way_3, b_C_way_4, b_C_way_5, b_C_way_7, b_C_way_8, b_C_way_9, qy0, qy1, qy2, qy3, qe, qcn, qin, ↓reduceIte, Nat.reduceEqDiff, Nat.reduceLeDiff, Bool.false_eq_true, Nat.reduceAdd, Nat.reduceSub, Nat.reduceMul, Nat.reduceLT, or_self, or_false, false_or, or_true, true_or, and_self, and_true, true_and, and_false, false_and, not_true_eq_false, not_false_eq_true, t_within, hcp, g1, g4]
            · obtain ⟨x', e1, e2, e3, e4⟩ := mw s1 h1
              obtain ⟨e5, e6⟩ := e4 m (by omega)
              have t1 := mt s1 h1
              refine ⟨x', ?_, e3, e2⟩
              simp (config := {maxSteps := 1000000}) (disch := first | omega | assumption | (simp only [qm_wid_n, qm_wid_I, qm_wid_L, qm_wid_P] <;> omega)) only [e_M_way, b_M_way_0, b_M_way_1, b_M_way_2, b_M_way_4, b_M_way_5, b_M_way_6, qy0, qy1, qy2, qy3, qe, qcn, qin, ↓reduceIte, Nat.reduceEqDiff, Nat.reduceLeDiff, Bool.false_eq_true, Nat.reduceAdd, Nat.reduceSub, Nat.reduceMul, Nat.reduceLT, or_self, or_false, false_or, or_true, true_or, and_self, and_true, true_and, and_false, false_and, not_true_eq_false, not_false_eq_true, t_isIn, t1, e1, e5]
          · refine ⟨ws (rul T y) w y n m, y, k, tp, fd, fa, pl, T, ok, ⟨x, ?_, g3, g2⟩, fun s1 h1 => ?_⟩
            · simp (config := {maxSteps := 1000000}) (disch := first | omega | assumption | (simp only [qm_wid_n, qm_wid_I, qm_wid_L, qm_wid_P] <;> omega)) only [e_C_way, b_C_way_0, b_C_way_1, b_C_way_2, b_C_way_3, b_C_way_4, b_C_way_5, b_C_way_7, b_C_way_8, b_C_way_9, qy0, qy1, qy2, qy3, qe, qcn, qin, ↓reduceIte, Nat.reduceEqDiff, Nat.reduceLeDiff, Bool.false_eq_true, Nat.reduceAdd, Nat.reduceSub, Nat.reduceMul, Nat.reduceLT, or_self, or_false, false_or, or_true, true_or, and_self, and_true, true_and, and_false, false_and, not_true_eq_false, not_false_eq_true, t_within, hcp, g1, g5]
            · obtain ⟨x', e1, e2, e3, e4⟩ := mw s1 h1
              obtain ⟨e5, e6⟩ := e4 m (by omega)
              have t1 := mt s1 h1
              refine ⟨x', ?_, e3, e2⟩
              simp (config := {maxSteps := 1000000}) (disch := first | omega | assumption | (simp only [qm_wid_n, qm_wid_I, qm_wid_L, qm_wid_P] <;> omega)) only [e_M_way, b_M_way_0, b_M_way_1, b_M_way_2, b_M_way_4, b_M_way_5, b_M_way_6, qy0, qy1, qy2, qy3, qe, qcn, qin, ↓reduceIte, Nat.reduceEqDiff, Nat.reduceLeDiff, Bool.false_eq_true, Nat.reduceAdd, Nat.reduceSub, Nat.reduceMul, Nat.reduceLT, or_self, or_false, false_or, or_true, true_or, and_self, and_true, true_and, and_false, false_and, not_true_eq_false, not_false_eq_true, t_isIn, t1, e1, e6]
        · refine nochg ok hC N1 ?_ (fun s1 h1 => ?_)
          · simp (config := {maxSteps := 1000000}) (disch := first | omega | assumption | (simp only [qm_wid_n, qm_wid_I, qm_wid_L, qm_wid_P] <;> omega)) only [e_C_way, b_C_way_0, b_C_way_1, b_C_way_2, b_C_way_3, b_C_way_4, b_C_way_6, qy0, qy1, qy2, qy3, qe, qcn, qin, ↓reduceIte, Nat.reduceEqDiff, Nat.reduceLeDiff, Bool.false_eq_true, Nat.reduceAdd, Nat.reduceSub, Nat.reduceMul, Nat.reduceLT, or_self, or_false, false_or, or_true, true_or, and_self, and_true, true_and, and_false, false_and, not_true_eq_false, not_false_eq_true, t_within, hc]
          · have t1 := mt s1 h1
            simp (config := {maxSteps := 1000000}) (disch := first | omega | assumption | (simp only [qm_wid_n, qm_wid_I, qm_wid_L, qm_wid_P] <;> omega)) only [e_M_way, b_M_way_0, b_M_way_1, b_M_way_2, b_M_way_3, qy0, qy1, qy2, qy3, qe, qcn, qin, ↓reduceIte, Nat.reduceEqDiff, Nat.reduceLeDiff, Bool.false_eq_true, Nat.reduceAdd, Nat.reduceSub, Nat.reduceMul, Nat.reduceLT, or_self, or_false, false_or, or_true, true_or, and_self, and_true, true_and, and_false, false_and, not_true_eq_false, not_false_eq_true, t_isIn, t1, hc]
      · by_cases hN : b = N1
        · subst hN
          have hbn : (nI 0 ≤ N1) = False := eq_false (by decide)
          have hlt : (N1 < nI 0) = True := eq_true (by decide)
          by_cases hc : nI 0 ≤ c ∧ c ≤ nI 2
          · obtain ⟨q, _, hq, rfl⟩ := inr_rg (by decide) hc.1 hc.2 (by decide)
            obtain ⟨x, g1, g2, g3, g4⟩ := c_allWays (d + 32) ok hC ewk hp.2 hn2 (qI N1) (qI (nI q)) (qI (nI 0)) (nI 1) qU
            have gd := c_bestOf (d + 39) x 54 (Or.inl rfl) (wd (rul T y) w y n) (fun j hj => (g4 j hj).1)
            have gs := c_bestOf (d + 39) x 55 (Or.inr rfl) (ws (rul T y) w y n) (fun j hj => (g4 j hj).2)
            have l1 := bo_le (wd (rul T y) w y n) 8 (by decide)
            have l2 := bo_le (ws (rul T y) w y n) 8 (by decide)
            have gb := c_both (d + 39) x (wd (rul T y) w y n) (ws (rul T y) w y n) (wd (rul T y) w y n (bo (wd (rul T y) w y n) 8)) (ws (rul T y) w y n (bo (ws (rul T y) w y n) 8)) g4
            have gd1 := (g4 _ l1).1
            have gs1 := (g4 _ l2).2
            have hq' : q = 0 ∨ q = 1 ∨ q = 2 := by omega
            have start : qm_evM (d + 40) jC_way [qP 1 0, qI (nI n), qI N1, qI (nI q)] s = qm_evB (d + 40) jC_way 11 [qP 1 0, qI (nI n), qI N1, qI (nI q), qI (nI 0), qI (nI 1), qI (nI 0), qU] [] s := by
              simp (config := {maxSteps := 1000000}) (disch := first | omega | assumption | (simp only [qm_wid_n, qm_wid_I, qm_wid_L, qm_wid_P] <;> omega)) only [e_C_way, b_C_way_0, b_C_way_1, b_C_way_2, b_C_way_3, b_C_way_4, b_C_way_5, b_C_way_7, b_C_way_10, qy0, qy1, qy2, qy3, qe, qcn, qin, ↓reduceIte, Nat.reduceEqDiff, Nat.reduceLeDiff, Bool.false_eq_true, Nat.reduceAdd, Nat.reduceSub, Nat.reduceMul, Nat.reduceLT, or_self, or_false, false_or, or_true, true_or, and_self, and_true, true_and, and_false, false_and, not_true_eq_false, not_false_eq_true, t_within, hcp, hbn]
            rcases hq' with rfl | rfl | rfl
            · refine ⟨nI (bo (wd (rul T y) w y n) 8), y, k, tp, fd, fa, pl, T, ok, ⟨x, ?_, g3, g2⟩, fun s1 h1 => ?_⟩
              · rw [start]
                refine g1.trans ?_
                simp (config := {maxSteps := 1000000}) (disch := first | omega | assumption | (simp only [qm_wid_n, qm_wid_I, qm_wid_L, qm_wid_P] <;> omega)) only [b_C_way_11, b_C_way_12, b_C_way_13, b_C_way_14, b_C_way_15, qy0, qy1, qy2, qy3, qe, qcn, qin, ↓reduceIte, Nat.reduceEqDiff, Nat.reduceLeDiff, Bool.false_eq_true, Nat.reduceAdd, Nat.reduceSub, Nat.reduceMul, Nat.reduceLT, or_self, or_false, false_or, or_true, true_or, and_self, and_true, true_and, and_false, false_and, not_true_eq_false, not_false_eq_true, gd, gs]
              · obtain ⟨x', e1, e2, e3, e4⟩ := mw s1 h1
                have md := r_bestOf (d + 39) x' 72 (Or.inl rfl) (wd (rul T y) w y n) (fun j hj => (e4 j hj).1)
                have ms := r_bestOf (d + 39) x' 73 (Or.inr rfl) (ws (rul T y) w y n) (fun j hj => (e4 j hj).2)
                have t1 := mt s1 h1
                refine ⟨x', ?_, e3, e2⟩
                simp (config := {maxSteps := 1000000}) (disch := first | omega | assumption | (simp only [qm_wid_n, qm_wid_I, qm_wid_L, qm_wid_P] <;> omega)) only [e_M_way, b_M_way_0, b_M_way_1, b_M_way_2, b_M_way_4, b_M_way_7, b_M_way_8, b_M_way_9, qy0, qy1, qy2, qy3, qe, qcn, qin, ↓reduceIte, Nat.reduceEqDiff, Nat.reduceLeDiff, Bool.false_eq_true, Nat.reduceAdd, Nat.reduceSub, Nat.reduceMul, Nat.reduceLT, or_self, or_false, false_or, or_true, true_or, and_self, and_true, true_and, and_false, false_and, not_true_eq_false, not_false_eq_true, t_isIn, t1, e1, md, ms, hbn, hlt]
            · refine ⟨nI (bo (ws (rul T y) w y n) 8), y, k, tp, fd, fa, pl, T, ok, ⟨x, ?_, g3, g2⟩, fun s1 h1 => ?_⟩
              · rw [start]
                refine g1.trans ?_
                simp (config := {maxSteps := 1000000}) (disch := first | omega | assumption | (simp only [qm_wid_n, qm_wid_I, qm_wid_L, qm_wid_P] <;> omega)) only [b_C_way_11, b_C_way_12, b_C_way_13, b_C_way_14, b_C_way_15, qy0, qy1, qy2, qy3, qe, qcn, qin, ↓reduceIte, Nat.reduceEqDiff, Nat.reduceLeDiff, Bool.false_eq_true, Nat.reduceAdd, Nat.reduceSub, Nat.reduceMul, Nat.reduceLT, or_self, or_false, false_or, or_true, true_or, and_self, and_true, true_and, and_false, false_and, not_true_eq_false, not_false_eq_true, gd, gs]
              · obtain ⟨x', e1, e2, e3, e4⟩ := mw s1 h1
                have md := r_bestOf (d + 39) x' 72 (Or.inl rfl) (wd (rul T y) w y n) (fun j hj => (e4 j hj).1)
                have ms := r_bestOf (d + 39) x' 73 (Or.inr rfl) (ws (rul T y) w y n) (fun j hj => (e4 j hj).2)
                have t1 := mt s1 h1
                refine ⟨x', ?_, e3, e2⟩
                simp (config := {maxSteps := 1000000}) (disch := first | omega | assumption | (simp only [qm_wid_n, qm_wid_I, qm_wid_L, qm_wid_P] <;> omega)) only [e_M_way, b_M_way_0, b_M_way_1, b_M_way_2, b_M_way_4, b_M_way_7, b_M_way_8, b_M_way_9, qy0, qy1, qy2, qy3, qe, qcn, qin, ↓reduceIte, Nat.reduceEqDiff, Nat.reduceLeDiff, Bool.false_eq_true, Nat.reduceAdd, Nat.reduceSub, Nat.reduceMul, Nat.reduceLT, or_self, or_false, false_or, or_true, true_or, and_self, and_true, true_and, and_false, false_and, not_true_eq_false, not_false_eq_true, t_isIn, t1, e1, md, ms, hbn, hlt]
            · refine ⟨fb8 (wd (rul T y) w y n) (ws (rul T y) w y n) (wd (rul T y) w y n (bo (wd (rul T y) w y n) 8)) (ws (rul T y) w y n (bo (ws (rul T y) w y n) 8)) 8 0, y, k, tp, fd, fa, pl, T, ok, ⟨x, ?_, g3, g2⟩, fun s1 h1 => ?_⟩
              · rw [start]
                refine g1.trans ?_
                simp (config := {maxSteps := 1000000}) (disch := first | omega | assumption | (simp only [qm_wid_n, qm_wid_I, qm_wid_L, qm_wid_P] <;> omega)) only [b_C_way_11, b_C_way_12, qy0, qy1, qy2, qy3, qe, qcn, qin, ↓reduceIte, Nat.reduceEqDiff, Nat.reduceLeDiff, Bool.false_eq_true, Nat.reduceAdd, Nat.reduceSub, Nat.reduceMul, Nat.reduceLT, or_self, or_false, false_or, or_true, true_or, and_self, and_true, true_and, and_false, false_and, not_true_eq_false, not_false_eq_true, gd, gs, gd1, gs1, gb]
              · obtain ⟨x', e1, e2, e3, e4⟩ := mw s1 h1
                have md := r_bestOf (d + 39) x' 72 (Or.inl rfl) (wd (rul T y) w y n) (fun j hj => (e4 j hj).1)
                have ms := r_bestOf (d + 39) x' 73 (Or.inr rfl) (ws (rul T y) w y n) (fun j hj => (e4 j hj).2)
                have mb := r_both (d + 40) x' (wd (rul T y) w y n) (ws (rul T y) w y n) (qI (nI n)) (qI N1) (qI (nI 2)) qU _ _ l1 l2 e4
                have t1 := mt s1 h1
                refine ⟨x', ?_, e3, e2⟩
                simp (config := {maxSteps := 1000000}) (disch := first | omega | assumption | (simp only [qm_wid_n, qm_wid_I, qm_wid_L, qm_wid_P] <;> omega)) only [e_M_way, b_M_way_0, b_M_way_1, b_M_way_2, b_M_way_4, b_M_way_7, b_M_way_10, qy0, qy1, qy2, qy3, qe, qcn, qin, ↓reduceIte, Nat.reduceEqDiff, Nat.reduceLeDiff, Bool.false_eq_true, Nat.reduceAdd, Nat.reduceSub, Nat.reduceMul, Nat.reduceLT, or_self, or_false, false_or, or_true, true_or, and_self, and_true, true_and, and_false, false_and, not_true_eq_false, not_false_eq_true, t_isIn, t1, e1, md, ms, hbn, hlt]
                exact mb
          · refine nochg ok hC N1 ?_ (fun s1 h1 => ?_)
            · simp (config := {maxSteps := 1000000}) (disch := first | omega | assumption | (simp only [qm_wid_n, qm_wid_I, qm_wid_L, qm_wid_P] <;> omega)) only [e_C_way, b_C_way_0, b_C_way_1, b_C_way_2, b_C_way_3, b_C_way_4, b_C_way_6, qy0, qy1, qy2, qy3, qe, qcn, qin, ↓reduceIte, Nat.reduceEqDiff, Nat.reduceLeDiff, Bool.false_eq_true, Nat.reduceAdd, Nat.reduceSub, Nat.reduceMul, Nat.reduceLT, or_self, or_false, false_or, or_true, true_or, and_self, and_true, true_and, and_false, false_and, not_true_eq_false, not_false_eq_true, t_within, hc, hbn]
            · have t1 := mt s1 h1
              simp (config := {maxSteps := 1000000}) (disch := first | omega | assumption | (simp only [qm_wid_n, qm_wid_I, qm_wid_L, qm_wid_P] <;> omega)) only [e_M_way, b_M_way_0, b_M_way_1, b_M_way_2, b_M_way_3, qy0, qy1, qy2, qy3, qe, qcn, qin, ↓reduceIte, Nat.reduceEqDiff, Nat.reduceLeDiff, Bool.false_eq_true, Nat.reduceAdd, Nat.reduceSub, Nat.reduceMul, Nat.reduceLT, or_self, or_false, false_or, or_true, true_or, and_self, and_true, true_and, and_false, false_and, not_true_eq_false, not_false_eq_true, t_isIn, t1, hc, hbn]
        · have hb2 : ¬ (N1 ≤ b ∧ b ≤ nI 7) := fun g => hb ⟨by
            have g1 := g.1
            rw [fa_le, N1_i] at g1
            have hne : b.toInt ≠ -1 := fun z => hN (by rw [fa_eq, z, N1_i])
            rw [fa_le, nI_toInt (by decide)]
            omega, g.2⟩
          refine nochg ok hC N1 ?_ (fun s1 h1 => ?_)
          · simp (config := {maxSteps := 1000000}) (disch := first | omega | assumption | (simp only [qm_wid_n, qm_wid_I, qm_wid_L, qm_wid_P] <;> omega)) only [e_C_way, b_C_way_0, b_C_way_1, b_C_way_2, b_C_way_3, b_C_way_4, b_C_way_6, qy0, qy1, qy2, qy3, qe, qcn, qin, ↓reduceIte, Nat.reduceEqDiff, Nat.reduceLeDiff, Bool.false_eq_true, Nat.reduceAdd, Nat.reduceSub, Nat.reduceMul, Nat.reduceLT, or_self, or_false, false_or, or_true, true_or, and_self, and_true, true_and, and_false, false_and, not_true_eq_false, not_false_eq_true, t_within, hb, hN]
          · have t1 := mt s1 h1
            simp (config := {maxSteps := 1000000}) (disch := first | omega | assumption | (simp only [qm_wid_n, qm_wid_I, qm_wid_L, qm_wid_P] <;> omega)) only [e_M_way, b_M_way_0, b_M_way_3, qy0, qy1, qy2, qy3, qe, qcn, qin, ↓reduceIte, Nat.reduceEqDiff, Nat.reduceLeDiff, Bool.false_eq_true, Nat.reduceAdd, Nat.reduceSub, Nat.reduceMul, Nat.reduceLT, or_self, or_false, false_or, or_true, true_or, and_self, and_true, true_and, and_false, false_and, not_true_eq_false, not_false_eq_true, t_isIn, t1, hb2]
    · rw [if_neg hp] at hcp
      have mt : ∀ s1, RM s1 w y k tp fd fa pl T → _ := fun s1 g => r_isTried_n (d + 38) (s := s1) (x := nI n) (M := 40) (m1 s1 g) (m0 s1 g) hnw hwk (by decide) (fun ⟨m', z1, z2, z3, z4⟩ => by
        have e : n = m' := (nI_eq (by omega) (by omega)).mp z1
        exact hp ⟨by omega, by omega⟩)
      refine nochg ok hC N1 ?_ (fun s1 h1 => ?_)
      · by_cases hb : nI 0 ≤ b ∧ b ≤ nI 7
        · have hN : ¬ b = N1 := fun z => absurd (z ▸ hb.1) (by decide)
          by_cases hc : nI 0 ≤ c ∧ c ≤ nI 1
          · simp (config := {maxSteps := 1000000}) (disch := first | omega | assumption | (simp only [qm_wid_n, qm_wid_I, qm_wid_L, qm_wid_P] <;> omega)) only [e_C_way, b_C_way_0, b_C_way_1, b_C_way_2, b_C_way_3, b_C_way_4, b_C_way_5, b_C_way_6, qy0, qy1, qy2, qy3, qe, qcn, qin, ↓reduceIte, Nat.reduceEqDiff, Nat.reduceLeDiff, Bool.false_eq_true, Nat.reduceAdd, Nat.reduceSub, Nat.reduceMul, Nat.reduceLT, or_self, or_false, false_or, or_true, true_or, and_self, and_true, true_and, and_false, false_and, not_true_eq_false, not_false_eq_true, t_within, hcp, hb, hc, hN]
          · simp (config := {maxSteps := 1000000}) (disch := first | omega | assumption | (simp only [qm_wid_n, qm_wid_I, qm_wid_L, qm_wid_P] <;> omega)) only [e_C_way, b_C_way_0, b_C_way_1, b_C_way_2, b_C_way_3, b_C_way_4, b_C_way_5, b_C_way_6, qy0, qy1, qy2, qy3, qe, qcn, qin, ↓reduceIte, Nat.reduceEqDiff, Nat.reduceLeDiff, Bool.false_eq_true, Nat.reduceAdd, Nat.reduceSub, Nat.reduceMul, Nat.reduceLT, or_self, or_false, false_or, or_true, true_or, and_self, and_true, true_and, and_false, false_and, not_true_eq_false, not_false_eq_true, t_within, hcp, hb, hc, hN]
        · by_cases hN : b = N1
          · by_cases hc : nI 0 ≤ c ∧ c ≤ nI 2
            · simp (config := {maxSteps := 1000000}) (disch := first | omega | assumption | (simp only [qm_wid_n, qm_wid_I, qm_wid_L, qm_wid_P] <;> omega)) only [e_C_way, b_C_way_0, b_C_way_1, b_C_way_2, b_C_way_3, b_C_way_4, b_C_way_5, b_C_way_6, qy0, qy1, qy2, qy3, qe, qcn, qin, ↓reduceIte, Nat.reduceEqDiff, Nat.reduceLeDiff, Bool.false_eq_true, Nat.reduceAdd, Nat.reduceSub, Nat.reduceMul, Nat.reduceLT, or_self, or_false, false_or, or_true, true_or, and_self, and_true, true_and, and_false, false_and, not_true_eq_false, not_false_eq_true, t_within, hcp, hb, hc, hN]
            · simp (config := {maxSteps := 1000000}) (disch := first | omega | assumption | (simp only [qm_wid_n, qm_wid_I, qm_wid_L, qm_wid_P] <;> omega)) only [e_C_way, b_C_way_0, b_C_way_1, b_C_way_2, b_C_way_3, b_C_way_4, b_C_way_5, b_C_way_6, qy0, qy1, qy2, qy3, qe, qcn, qin, ↓reduceIte, Nat.reduceEqDiff, Nat.reduceLeDiff, Bool.false_eq_true, Nat.reduceAdd, Nat.reduceSub, Nat.reduceMul, Nat.reduceLT, or_self, or_false, false_or, or_true, true_or, and_self, and_true, true_and, and_false, false_and, not_true_eq_false, not_false_eq_true, t_within, hcp, hb, hc, hN]
          · simp (config := {maxSteps := 1000000}) (disch := first | omega | assumption | (simp only [qm_wid_n, qm_wid_I, qm_wid_L, qm_wid_P] <;> omega)) only [e_C_way, b_C_way_0, b_C_way_1, b_C_way_2, b_C_way_3, b_C_way_4, b_C_way_5, b_C_way_6, qy0, qy1, qy2, qy3, qe, qcn, qin, ↓reduceIte, Nat.reduceEqDiff, Nat.reduceLeDiff, Bool.false_eq_true, Nat.reduceAdd, Nat.reduceSub, Nat.reduceMul, Nat.reduceLT, or_self, or_false, false_or, or_true, true_or, and_self, and_true, true_and, and_false, false_and, not_true_eq_false, not_false_eq_true, t_within, hcp, hb, hN]
      · have t1 := mt s1 h1
        simp (config := {maxSteps := 1000000}) (disch := first | omega | assumption | (simp only [qm_wid_n, qm_wid_I, qm_wid_L, qm_wid_P] <;> omega)) only [e_M_way, b_M_way_0, b_M_way_3, qy0, qy1, qy2, qy3, qe, qcn, qin, ↓reduceIte, Nat.reduceEqDiff, Nat.reduceLeDiff, Bool.false_eq_true, Nat.reduceAdd, Nat.reduceSub, Nat.reduceMul, Nat.reduceLT, or_self, or_false, false_or, or_true, true_or, and_self, and_true, true_and, and_false, false_and, not_true_eq_false, not_false_eq_true, t_isIn, t1]
  · refine nochg ok hC N1 ?_ (fun s1 h1 => ?_)
    · by_cases hb : nI 0 ≤ b ∧ b ≤ nI 7
      · have hN : ¬ b = N1 := fun z => absurd (z ▸ hb.1) (by decide)
        by_cases hc : nI 0 ≤ c ∧ c ≤ nI 1
        · simp (config := {maxSteps := 1000000}) (disch := first | omega | assumption | (simp only [qm_wid_n, qm_wid_I, qm_wid_L, qm_wid_P] <;> omega)) only [e_C_way, b_C_way_0, b_C_way_1, b_C_way_2, b_C_way_3, b_C_way_4, b_C_way_5, b_C_way_6, qy0, qy1, qy2, qy3, qe, qcn, qin, ↓reduceIte, Nat.reduceEqDiff, Nat.reduceLeDiff, Bool.false_eq_true, Nat.reduceAdd, Nat.reduceSub, Nat.reduceMul, Nat.reduceLT, or_self, or_false, false_or, or_true, true_or, and_self, and_true, true_and, and_false, false_and, not_true_eq_false, not_false_eq_true, t_within, hn, hb, hc, hN]
        · simp (config := {maxSteps := 1000000}) (disch := first | omega | assumption | (simp only [qm_wid_n, qm_wid_I, qm_wid_L, qm_wid_P] <;> omega)) only [e_C_way, b_C_way_0, b_C_way_1, b_C_way_2, b_C_way_3, b_C_way_4, b_C_way_5, b_C_way_6, qy0, qy1, qy2, qy3, qe, qcn, qin, ↓reduceIte, Nat.reduceEqDiff, Nat.reduceLeDiff, Bool.false_eq_true, Nat.reduceAdd, Nat.reduceSub, Nat.reduceMul, Nat.reduceLT, or_self, or_false, false_or, or_true, true_or, and_self, and_true, true_and, and_false, false_and, not_true_eq_false, not_false_eq_true, t_within, hn, hb, hc, hN]
      · by_cases hN : b = N1
        · by_cases hc : nI 0 ≤ c ∧ c ≤ nI 2
          · simp (config := {maxSteps := 1000000}) (disch := first | omega | assumption | (simp only [qm_wid_n, qm_wid_I, qm_wid_L, qm_wid_P] <;> omega)) only [e_C_way, b_C_way_0, b_C_way_1, b_C_way_2, b_C_way_3, b_C_way_4, b_C_way_5, b_C_way_6, qy0, qy1, qy2, qy3, qe, qcn, qin, ↓reduceIte, Nat.reduceEqDiff, Nat.reduceLeDiff, Bool.false_eq_true, Nat.reduceAdd, Nat.reduceSub, Nat.reduceMul, Nat.reduceLT, or_self, or_false, false_or, or_true, true_or, and_self, and_true, true_and, and_false, false_and, not_true_eq_false, not_false_eq_true, t_within, hn, hb, hc, hN]
          · simp (config := {maxSteps := 1000000}) (disch := first | omega | assumption | (simp only [qm_wid_n, qm_wid_I, qm_wid_L, qm_wid_P] <;> omega)) only [e_C_way, b_C_way_0, b_C_way_1, b_C_way_2, b_C_way_3, b_C_way_4, b_C_way_5, b_C_way_6, qy0, qy1, qy2, qy3, qe, qcn, qin, ↓reduceIte, Nat.reduceEqDiff, Nat.reduceLeDiff, Bool.false_eq_true, Nat.reduceAdd, Nat.reduceSub, Nat.reduceMul, Nat.reduceLT, or_self, or_false, false_or, or_true, true_or, and_self, and_true, true_and, and_false, false_and, not_true_eq_false, not_false_eq_true, t_within, hn, hb, hc, hN]
        · simp (config := {maxSteps := 1000000}) (disch := first | omega | assumption | (simp only [qm_wid_n, qm_wid_I, qm_wid_L, qm_wid_P] <;> omega)) only [e_C_way, b_C_way_0, b_C_way_1, b_C_way_2, b_C_way_3, b_C_way_4, b_C_way_5, b_C_way_6, qy0, qy1, qy2, qy3, qe, qcn, qin, ↓reduceIte, Nat.reduceEqDiff, Nat.reduceLeDiff, Bool.false_eq_true, Nat.reduceAdd, Nat.reduceSub, Nat.reduceMul, Nat.reduceLT, or_self, or_false, false_or, or_true, true_or, and_self, and_true, true_and, and_false, false_and, not_true_eq_false, not_false_eq_true, t_within, hn, hb, hN]
    · simp (config := {maxSteps := 1000000}) (disch := first | omega | assumption | (simp only [qm_wid_n, qm_wid_I, qm_wid_L, qm_wid_P] <;> omega)) only [e_M_way, b_M_way_0, b_M_way_3, qy0, qy1, qy2, qy3, qe, qcn, qin, ↓reduceIte, Nat.reduceEqDiff, Nat.reduceLeDiff, Bool.false_eq_true, Nat.reduceAdd, Nat.reduceSub, Nat.reduceMul, Nat.reduceLT, or_self, or_false, false_or, or_true, true_or, and_self, and_true, true_and, and_false, false_and, not_true_eq_false, not_false_eq_true, t_isIn, hn]
