/-! calls: weather, ends, end, by, about, fault -/
theorem st_weather (d : Nat) (a b c e : Int32) : STP (d + 40) jC_weather jM_weather [qI a, qI b, qI c, qI e] := by
  refine stp_rw fun s w y k tp fd fa pl T hC hM ok => ?_
  have okp := ok.1.1
  have hw := okp.1
  obtain ⟨n, _, hn, en⟩ := ok.1.2.1
  have hcw : zI s 2 0 5 = nI n := hC.1.2.1.1.trans en
  by_cases h1 : nI 0 ≤ a ∧ a ≤ nI 9
  · by_cases h2 : nI 0 ≤ b ∧ b ≤ nI 9
    · by_cases h3 : nI 0 ≤ c ∧ c ≤ nI 9
      · by_cases h4 : nI 0 ≤ e ∧ e ≤ nI 40
        · by_cases hn2 : n < 12
          · have up : ∀ {x : Int32} {m : Nat}, m ≤ 40 → nI 0 ≤ x → x ≤ nI m → rg x 0 40 := fun {x m} hm p1 p2 => by
              obtain ⟨j, _, hj, ej⟩ := inr_rg (by omega) p1 p2 (Nat.zero_le _)
              exact ⟨j, by omega, by omega, ej⟩
            have r1 := up (by decide) h1.1 h1.2
            have r2 := up (by decide) h2.1 h2.2
            have r3 := up (by decide) h3.1 h3.2
            have r4 := up (by decide) h4.1 h4.2
            have hv : vq y (vset (vset (vset (vset (vset y 8 n a) 9 n b) 10 n c) 11 n e) 0 5 (nI (n + 1))) := vq_trans (vq_trans (vq_trans (vq_trans (vq_set (by omega)) (vq_set (by omega))) (vq_set (by omega))) (vq_set (by omega))) (vq_set (by omega))
            have oky : OKY w (vset (vset (vset (vset (vset y 8 n a) 9 n b) 10 n c) 11 n e) 0 5 (nI (n + 1))) := by
              refine OKY_set (OKY_set (OKY_set (OKY_set (OKY_set ok.1.2 8 n a ?_ ?_ ?_ ?_ ?_ ?_ ?_) 9 n b ?_ ?_ ?_ ?_ ?_ ?_ ?_) 10 n c ?_ ?_ ?_ ?_ ?_ ?_ ?_) 11 n e ?_ ?_ ?_ ?_ ?_ ?_ ?_) 0 5 (nI (n + 1)) ?_ ?_ ?_ ?_ ?_ ?_ ?_ <;> first | omega | (intros; assumption) | (intros; omega) | (intros; exact ⟨n + 1, by omega, by omega, rfl⟩)
            have hfp : fp YP s (uI (uI (uI (uI (uI s 21 0 n a) 22 0 n b) 23 0 n c) 24 0 n e) 2 0 5 (nI (n + 1))) := yp_u _ _ (yp_u _ _ (yp_u _ _ (yp_u _ _ (yp_u _ _ (fp_refl _ _) _ _ _ (by omega)) _ _ _ (by omega)) _ _ _ (by omega)) _ _ _ (by omega)) _ _ _ (by omega)
            refine ⟨nI n, _, k, tp, fd, fa, pl, T, OKG_yard oky hv ok, ⟨_, ?_, YP_CP hfp, RC_yard hfp (YC_s (YC_u (YC_u (YC_u (YC_u hC.1.2 0 n (by decide) a) 1 n (by decide) b) 2 n (by decide) c) 3 n (by decide) e) 5 (by decide) (nI (n + 1))) hv hC⟩, fun s1 g1 => ⟨uI (uI (uI (uI (uI s1 61 0 (20 + 4 * n) a) 61 0 (20 + 4 * n + 1) b) 61 0 (20 + 4 * n + 2) c) 61 0 (20 + 4 * n + 3) e) 61 0 1 (nI (n + 1)), ?_, mp_uu (mp_uu (mp_uu (mp_uu (mp_u61 _ _ _) _ _) _ _) _ _) _ _, RM_yu hw.2 (RM_yu hw.2 (RM_yu hw.2 (RM_yu hw.2 (RM_yu hw.2 g1 8 n (20 + 4 * n) (by unfold ymn; omega) (by omega) a) 9 n (20 + 4 * n + 1) (by unfold ymn; omega) (by omega) b) 10 n (20 + 4 * n + 2) (by unfold ymn; omega) (by omega) c) 11 n (20 + 4 * n + 3) (by unfold ymn; omega) (by omega) e) 0 5 1 (by unfold ymn; omega) (by omega) (nI (n + 1))⟩⟩
            · simp (config := {maxSteps := 1000000}) (disch := first | omega | assumption | (simp only [qm_wid_n, qm_wid_I, qm_wid_L, qm_wid_P] <;> omega)) only [e_C_weather, b_C_weather_0, b_C_weather_1, b_C_weather_2, b_C_weather_3, b_C_weather_4, qy0, qy1, qy2, qy3, qe, qcn, qin, ↓reduceIte, Nat.reduceEqDiff, Nat.reduceLeDiff, Bool.false_eq_true, Nat.reduceAdd, Nat.reduceSub, Nat.reduceMul, Nat.reduceLT, or_self, or_false, false_or, or_true, true_or, and_self, and_true, true_and, and_false, false_and, not_true_eq_false, not_false_eq_true, t_within, h1, h2, h3, h4, hcw]
            · have hmw : zI s1 61 0 1 = nI n := g1.2.1.2.1.1.trans en
              have e1 : n + 1 - 1 = n := rfl
              simp (config := {maxSteps := 1000000}) (disch := first | omega | assumption | (simp only [qm_wid_n, qm_wid_I, qm_wid_L, qm_wid_P] <;> omega)) only [e_M_weather, b_M_weather_0, b_M_weather_1, b_M_weather_2, qy0, qy1, qy2, qy3, qe, qcn, qin, ↓reduceIte, Nat.reduceEqDiff, Nat.reduceLeDiff, Bool.false_eq_true, Nat.reduceAdd, Nat.reduceSub, Nat.reduceMul, Nat.reduceLT, or_self, or_false, false_or, or_true, true_or, and_self, and_true, true_and, and_false, false_and, not_true_eq_false, not_false_eq_true, t_isIn, h1, h2, h3, h4, hmw, zI_uI, e1]
          · have hn3 : n = 12 := by omega
            subst hn3
            refine nochg ok hC N1 ?_ (fun s1 g1 => ?_)
            · simp (config := {maxSteps := 1000000}) (disch := first | omega | assumption | (simp only [qm_wid_n, qm_wid_I, qm_wid_L, qm_wid_P] <;> omega)) only [e_C_weather, b_C_weather_0, b_C_weather_1, b_C_weather_2, b_C_weather_3, qy0, qy1, qy2, qy3, qe, qcn, qin, ↓reduceIte, Nat.reduceEqDiff, Nat.reduceLeDiff, Bool.false_eq_true, Nat.reduceAdd, Nat.reduceSub, Nat.reduceMul, Nat.reduceLT, or_self, or_false, false_or, or_true, true_or, and_self, and_true, true_and, and_false, false_and, not_true_eq_false, not_false_eq_true, t_within, h1, h2, h3, h4, hcw]
            · have hmw : zI s1 61 0 1 = nI 12 := g1.2.1.2.1.1.trans en
              simp (config := {maxSteps := 1000000}) (disch := first | omega | assumption | (simp only [qm_wid_n, qm_wid_I, qm_wid_L, qm_wid_P] <;> omega)) only [e_M_weather, b_M_weather_0, b_M_weather_1, qy0, qy1, qy2, qy3, qe, qcn, qin, ↓reduceIte, Nat.reduceEqDiff, Nat.reduceLeDiff, Bool.false_eq_true, Nat.reduceAdd, Nat.reduceSub, Nat.reduceMul, Nat.reduceLT, or_self, or_false, false_or, or_true, true_or, and_self, and_true, true_and, and_false, false_and, not_true_eq_false, not_false_eq_true, t_isIn, h1, h2, h3, h4, hmw]
        · refine nochg ok hC N1 ?_ (fun s1 g1 => ?_)
          · simp (config := {maxSteps := 1000000}) (disch := first | omega | assumption | (simp only [qm_wid_n, qm_wid_I, qm_wid_L, qm_wid_P] <;> omega)) only [e_C_weather, b_C_weather_0, b_C_weather_1, b_C_weather_2, b_C_weather_3, qy0, qy1, qy2, qy3, qe, qcn, qin, ↓reduceIte, Nat.reduceEqDiff, Nat.reduceLeDiff, Bool.false_eq_true, Nat.reduceAdd, Nat.reduceSub, Nat.reduceMul, Nat.reduceLT, or_self, or_false, false_or, or_true, true_or, and_self, and_true, true_and, and_false, false_and, not_true_eq_false, not_false_eq_true, t_within, h1, h2, h3, h4]
          · simp (config := {maxSteps := 1000000}) (disch := first | omega | assumption | (simp only [qm_wid_n, qm_wid_I, qm_wid_L, qm_wid_P] <;> omega)) only [e_M_weather, b_M_weather_0, b_M_weather_1, qy0, qy1, qy2, qy3, qe, qcn, qin, ↓reduceIte, Nat.reduceEqDiff, Nat.reduceLeDiff, Bool.false_eq_true, Nat.reduceAdd, Nat.reduceSub, Nat.reduceMul, Nat.reduceLT, or_self, or_false, false_or, or_true, true_or, and_self, and_true, true_and, and_false, false_and, not_true_eq_false, not_false_eq_true, t_isIn, h1, h2, h3, h4]
      · refine nochg ok hC N1 ?_ (fun s1 g1 => ?_)
        · simp (config := {maxSteps := 1000000}) (disch := first | omega | assumption | (simp only [qm_wid_n, qm_wid_I, qm_wid_L, qm_wid_P] <;> omega)) only [e_C_weather, b_C_weather_0, b_C_weather_1, b_C_weather_2, b_C_weather_3, qy0, qy1, qy2, qy3, qe, qcn, qin, ↓reduceIte, Nat.reduceEqDiff, Nat.reduceLeDiff, Bool.false_eq_true, Nat.reduceAdd, Nat.reduceSub, Nat.reduceMul, Nat.reduceLT, or_self, or_false, false_or, or_true, true_or, and_self, and_true, true_and, and_false, false_and, not_true_eq_false, not_false_eq_true, t_within, h1, h2, h3]
        · simp (config := {maxSteps := 1000000}) (disch := first | omega | assumption | (simp only [qm_wid_n, qm_wid_I, qm_wid_L, qm_wid_P] <;> omega)) only [e_M_weather, b_M_weather_0, b_M_weather_1, qy0, qy1, qy2, qy3, qe, qcn, qin, ↓reduceIte, Nat.reduceEqDiff, Nat.reduceLeDiff, Bool.false_eq_true, Nat.reduceAdd, Nat.reduceSub, Nat.reduceMul, Nat.reduceLT, or_self, or_false, false_or, or_true, true_or, and_self, and_true, true_and, and_false, false_and, not_true_eq_false, not_false_eq_true, t_isIn, h1, h2, h3]
    · refine nochg ok hC N1 ?_ (fun s1 g1 => ?_)
      · simp (config := {maxSteps := 1000000}) (disch := first | omega | assumption | (simp only [qm_wid_n, qm_wid_I, qm_wid_L, qm_wid_P] <;> omega)) only [e_C_weather, b_C_weather_0, b_C_weather_1, b_C_weather_2, b_C_weather_3, qy0, qy1, qy2, qy3, qe, qcn, qin, ↓reduceIte, Nat.reduceEqDiff, Nat.reduceLeDiff, Bool.false_eq_true, Nat.reduceAdd, Nat.reduceSub, Nat.reduceMul, Nat.reduceLT, or_self, or_false, false_or, or_true, true_or, and_self, and_true, true_and, and_false, false_and, not_true_eq_false, not_false_eq_true, t_within, h1, h2]
      · simp (config := {maxSteps := 1000000}) (disch := first | omega | assumption | (simp only [qm_wid_n, qm_wid_I, qm_wid_L, qm_wid_P] <;> omega)) only [e_M_weather, b_M_weather_0, b_M_weather_1, qy0, qy1, qy2, qy3, qe, qcn, qin, ↓reduceIte, Nat.reduceEqDiff, Nat.reduceLeDiff, Bool.false_eq_true, Nat.reduceAdd, Nat.reduceSub, Nat.reduceMul, Nat.reduceLT, or_self, or_false, false_or, or_true, true_or, and_self, and_true, true_and, and_false, false_and, not_true_eq_false, not_false_eq_true, t_isIn, h1, h2]
  · refine nochg ok hC N1 ?_ (fun s1 g1 => ?_)
    · simp (config := {maxSteps := 1000000}) (disch := first | omega | assumption | (simp only [qm_wid_n, qm_wid_I, qm_wid_L, qm_wid_P] <;> omega)) only [e_C_weather, b_C_weather_0, b_C_weather_1, b_C_weather_2, b_C_weather_3, qy0, qy1, qy2, qy3, qe, qcn, qin, ↓reduceIte, Nat.reduceEqDiff, Nat.reduceLeDiff, Bool.false_eq_true, Nat.reduceAdd, Nat.reduceSub, Nat.reduceMul, Nat.reduceLT, or_self, or_false, false_or, or_true, true_or, and_self, and_true, true_and, and_false, false_and, not_true_eq_false, not_false_eq_true, t_within, h1]
    · simp (config := {maxSteps := 1000000}) (disch := first | omega | assumption | (simp only [qm_wid_n, qm_wid_I, qm_wid_L, qm_wid_P] <;> omega)) only [e_M_weather, b_M_weather_0, b_M_weather_1, qy0, qy1, qy2, qy3, qe, qcn, qin, ↓reduceIte, Nat.reduceEqDiff, Nat.reduceLeDiff, Bool.false_eq_true, Nat.reduceAdd, Nat.reduceSub, Nat.reduceMul, Nat.reduceLT, or_self, or_false, false_or, or_true, true_or, and_self, and_true, true_and, and_false, false_and, not_true_eq_false, not_false_eq_true, t_isIn, h1]
theorem OKP_sc {w : Nat} {y : VW} (ok : OKP w y) (i : Nat) (v : Int32) (h0 : i = 0 → rg v 0 399) (h1 : i = 1 → (v = N1 ∨ rg v 0 399)) (h2 : i = 2 → rg v 0 9) (h3 : i = 3 → rg v 0 1) (h4 : i = 4 → rg v 0 1) : OKP w (vset y 0 i v) := by
  refine ⟨ok.1, ⟨?_, ?_, ?_, ?_, ?_⟩, fun c hc => ?_, fun c z hc hz => ?_⟩
  · by_cases q : i = 0
    · rw [q, vset_eq]; exact h0 q
    · rw [vset_ne (by omega)]; exact ok.2.1.1
  · by_cases q : i = 1
    · rw [q, vset_eq]; exact h1 q
    · rw [vset_ne (by omega)]; exact ok.2.1.2.1
  · by_cases q : i = 2
    · rw [q, vset_eq]; exact h2 q
    · rw [vset_ne (by omega)]; exact ok.2.1.2.2.1
  · by_cases q : i = 3
    · rw [q, vset_eq]; exact h3 q
    · rw [vset_ne (by omega)]; exact ok.2.1.2.2.2.1
  · by_cases q : i = 4
    · rw [q, vset_eq]; exact h4 q
    · rw [vset_ne (by omega)]; exact ok.2.1.2.2.2.2
  · rw [cn_vset (by decide), vset_ne (by omega)]; exact ok.2.2.1 c hc
  · rw [cn_vset (by decide)] at hz
    exact OKs_like (fun f hf => vset_ne (by omega)) (ok.2.2.2 c z hc hz)
theorem st_ends (d : Nat) (a c : Int32) (u : Nat) (hu : u = 0 ∨ u = 1) : STP (d + 40) jC_ends jM_ends [qI a, qI (nI u), qI c] := by
  refine stp_rw fun s w y k tp fd fa pl T hC hM ok => ?_
  have okp := ok.1.1
  have hw := okp.1
  by_cases h1 : nI 0 ≤ a ∧ a ≤ nI 9
  · by_cases h2 : nI 0 ≤ c ∧ c ≤ nI 1
    · have r1 := inr_rg (by decide) h1.1 h1.2 (by decide)
      have r2 := inr_rg (by decide) h2.1 h2.2 (by decide)
      have ru : rg (nI u) 0 1 := ⟨u, by omega, by omega, rfl⟩
      have hv : vp y (vset (vset (vset y 0 2 a) 0 3 (nI u)) 0 4 c) := vp_trans (vp_trans (vp_set (by omega)) (vp_set (by omega))) (vp_set (by omega))
      have okn : OKP w (vset (vset (vset y 0 2 a) 0 3 (nI u)) 0 4 c) := by
        refine OKP_sc (OKP_sc (OKP_sc okp 2 a ?_ ?_ ?_ ?_ ?_) 3 (nI u) ?_ ?_ ?_ ?_ ?_) 4 c ?_ ?_ ?_ ?_ ?_ <;> intro q <;> first | assumption | omega
      have hfp : fp (PP 0) s (uI (uI (uI s 3 0 10 a) 3 0 11 (nI u)) 3 0 12 c) := fp_uI (by unfold PP; omega) (fp_uI (by unfold PP; omega) (fp_u1 _ _ (by omega)) _ _) _ _
      refine ⟨nI 1, _, k, tp, fd, fa, pl, T, OKG_pile okn hv ok, ⟨_, ?_, PP_CP hfp, RC_pile hfp (PC_sc (PC_sc (PC_sc hC.1.1 2 (by decide) a) 3 (by decide) (nI u)) 4 (by decide) c) hv hC⟩, fun s1 g1 => ⟨uI (uI (uI s1 61 0 4 a) 61 0 5 (nI u)) 61 0 6 c, ?_, mp_uu (mp_uu (mp_u61 _ _ _) _ _) _ _, ?_⟩⟩
      · rcases hu with rfl | rfl
        · simp (config := {maxSteps := 1000000}) (disch := first | omega | assumption | (simp only [qm_wid_n, qm_wid_I, qm_wid_L, qm_wid_P] <;> omega)) only [e_C_ends, b_C_ends_0, b_C_ends_1, b_C_ends_2, b_C_ends_3, b_C_ends_4, qy0, qy1, qy2, qy3, qe, qcn, qin, ↓reduceIte, Nat.reduceEqDiff, Nat.reduceLeDiff, Bool.false_eq_true, Nat.reduceAdd, Nat.reduceSub, Nat.reduceMul, Nat.reduceLT, or_self, or_false, false_or, or_true, true_or, and_self, and_true, true_and, and_false, false_and, not_true_eq_false, not_false_eq_true, t_within, h1, h2]
        · simp (config := {maxSteps := 1000000}) (disch := first | omega | assumption | (simp only [qm_wid_n, qm_wid_I, qm_wid_L, qm_wid_P] <;> omega)) only [e_C_ends, b_C_ends_0, b_C_ends_1, b_C_ends_2, b_C_ends_3, b_C_ends_4, qy0, qy1, qy2, qy3, qe, qcn, qin, ↓reduceIte, Nat.reduceEqDiff, Nat.reduceLeDiff, Bool.false_eq_true, Nat.reduceAdd, Nat.reduceSub, Nat.reduceMul, Nat.reduceLT, or_self, or_false, false_or, or_true, true_or, and_self, and_true, true_and, and_false, false_and, not_true_eq_false, not_false_eq_true, t_within, h1, h2]
      · rcases hu with rfl | rfl
        · simp (config := {maxSteps := 1000000}) (disch := first | omega | assumption | (simp only [qm_wid_n, qm_wid_I, qm_wid_L, qm_wid_P] <;> omega)) only [e_M_ends, b_M_ends_0, b_M_ends_1, b_M_ends_2, b_M_ends_3, b_M_ends_4, qy0, qy1, qy2, qy3, qe, qcn, qin, ↓reduceIte, Nat.reduceEqDiff, Nat.reduceLeDiff, Bool.false_eq_true, Nat.reduceAdd, Nat.reduceSub, Nat.reduceMul, Nat.reduceLT, or_self, or_false, false_or, or_true, true_or, and_self, and_true, true_and, and_false, false_and, not_true_eq_false, not_false_eq_true, t_isIn, h1, h2]
        · simp (config := {maxSteps := 1000000}) (disch := first | omega | assumption | (simp only [qm_wid_n, qm_wid_I, qm_wid_L, qm_wid_P] <;> omega)) only [e_M_ends, b_M_ends_0, b_M_ends_1, b_M_ends_2, b_M_ends_3, b_M_ends_4, qy0, qy1, qy2, qy3, qe, qcn, qin, ↓reduceIte, Nat.reduceEqDiff, Nat.reduceLeDiff, Bool.false_eq_true, Nat.reduceAdd, Nat.reduceSub, Nat.reduceMul, Nat.reduceLT, or_self, or_false, false_or, or_true, true_or, and_self, and_true, true_and, and_false, false_and, not_true_eq_false, not_false_eq_true, t_isIn, h1, h2]
      · have p1 := PM_sc g1.2.1.1 2 (by decide) a
        have m1 := RM_u61 hw.2 a (by decide) p1 (vp_set (by omega)) g1
        have p2 := PM_sc p1 3 (by decide) (nI u)
        have m2 := RM_u61 hw.2 (nI u) (by decide) p2 (vp_set (by omega)) m1
        have p3 := PM_sc p2 4 (by decide) c
        exact RM_u61 hw.2 c (by decide) p3 (vp_set (by omega)) m2
    · refine nochg ok hC (nI 0) ?_ (fun s1 g1 => ?_)
      · simp (config := {maxSteps := 1000000}) (disch := first | omega | assumption | (simp only [qm_wid_n, qm_wid_I, qm_wid_L, qm_wid_P] <;> omega)) only [e_C_ends, b_C_ends_0, b_C_ends_1, qy0, qy1, qy2, qy3, qe, qcn, qin, ↓reduceIte, Nat.reduceEqDiff, Nat.reduceLeDiff, Bool.false_eq_true, Nat.reduceAdd, Nat.reduceSub, Nat.reduceMul, Nat.reduceLT, or_self, or_false, false_or, or_true, true_or, and_self, and_true, true_and, and_false, false_and, not_true_eq_false, not_false_eq_true, t_within, h1, h2]
      · simp (config := {maxSteps := 1000000}) (disch := first | omega | assumption | (simp only [qm_wid_n, qm_wid_I, qm_wid_L, qm_wid_P] <;> omega)) only [e_M_ends, b_M_ends_0, b_M_ends_1, qy0, qy1, qy2, qy3, qe, qcn, qin, ↓reduceIte, Nat.reduceEqDiff, Nat.reduceLeDiff, Bool.false_eq_true, Nat.reduceAdd, Nat.reduceSub, Nat.reduceMul, Nat.reduceLT, or_self, or_false, false_or, or_true, true_or, and_self, and_true, true_and, and_false, false_and, not_true_eq_false, not_false_eq_true, t_isIn, h1, h2]
  · refine nochg ok hC (nI 0) ?_ (fun s1 g1 => ?_)
    · simp (config := {maxSteps := 1000000}) (disch := first | omega | assumption | (simp only [qm_wid_n, qm_wid_I, qm_wid_L, qm_wid_P] <;> omega)) only [e_C_ends, b_C_ends_0, b_C_ends_1, qy0, qy1, qy2, qy3, qe, qcn, qin, ↓reduceIte, Nat.reduceEqDiff, Nat.reduceLeDiff, Bool.false_eq_true, Nat.reduceAdd, Nat.reduceSub, Nat.reduceMul, Nat.reduceLT, or_self, or_false, false_or, or_true, true_or, and_self, and_true, true_and, and_false, false_and, not_true_eq_false, not_false_eq_true, t_within, h1]
    · simp (config := {maxSteps := 1000000}) (disch := first | omega | assumption | (simp only [qm_wid_n, qm_wid_I, qm_wid_L, qm_wid_P] <;> omega)) only [e_M_ends, b_M_ends_0, b_M_ends_1, qy0, qy1, qy2, qy3, qe, qcn, qin, ↓reduceIte, Nat.reduceEqDiff, Nat.reduceLeDiff, Bool.false_eq_true, Nat.reduceAdd, Nat.reduceSub, Nat.reduceMul, Nat.reduceLT, or_self, or_false, false_or, or_true, true_or, and_self, and_true, true_and, and_false, false_and, not_true_eq_false, not_false_eq_true, t_isIn, h1]
