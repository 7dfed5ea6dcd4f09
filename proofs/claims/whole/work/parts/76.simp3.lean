/-! calls: measure, span, weather, plan, ends -/
theorem OKP_meas {w j : Nat} {y : VW} {v1 v2 : Int32} (hv : (v1 = N1 ∧ v2 = N1) ∨ (rg v1 0 2000 ∧ rg v2 0 2000)) (ok : OKP w y) : OKP w (vset (vset y 6 j v1) 7 j v2) := by
  have e : ∀ a j', a ≠ 6 → a ≠ 7 → vset (vset y 6 j v1) 7 j v2 a j' = y a j' := fun a j' h1 h2 => by rw [vset_ne (by omega), vset_ne (by omega)]
  refine ⟨ok.1, ?_, fun c hc => ?_, fun c z hc hz => ?_⟩
  · simp only [e 0 _ (by decide : (0 : Nat) ≠ 6) (by decide)]; exact ok.2.1
  · rw [cn_vset (by decide), cn_vset (by decide), e 1 c (by decide) (by decide)]; exact ok.2.2.1 c hc
  · rw [cn_vset (by decide), cn_vset (by decide)] at hz
    have q := ok.2.2.2 c z hc hz
    unfold OKs at *
    rw [e 2 _ (by decide) (by decide), e 3 _ (by decide) (by decide), e 4 _ (by decide) (by decide), e 5 _ (by decide) (by decide)]
    refine ⟨q.1, q.2.1, q.2.2.1, q.2.2.2.1, ?_⟩
    by_cases h : 8 * c + z = j
    · rw [h, vset_ne (a' := 6) (by omega), vset_eq, vset_eq]; exact hv
    · rw [vset_ne (by omega), vset_ne (a' := 6) (by omega), vset_ne (by omega), vset_ne (by omega)]; exact q.2.2.2.2
theorem st_measure (d : Nat) (a b l h : Int32) : STP (d + 40) jC_measure jM_measure [qI a, qI b, qI l, qI h] := by
  refine stp_rw fun s w y k tp fd fa pl T hC hM ok => ?_
  have okp := ok.1.1
  have hw := okp.1
  have hPC := hC.1.1
  by_cases hsp : sp w y a b
  · obtain ⟨c, z, hc, hz, rfl, rfl⟩ := hsp
    have h8 := OK_n okp hc
    have hh := t_holds_y (d + 39) hPC okp hc hz
    have good : ∀ v2 : Int32, (l = N1 → v2 = N1) → (¬ l = N1 → v2 = h) → (¬ l = N1 → (nI 0 ≤ l ∧ l ≤ nI 2000) ∧ (nI 0 ≤ h ∧ h ≤ nI 2000) ∧ l ≤ h) → ∃ r y' k' tp' fd' fa' pl' T', OKG w y' k' tp' fd' T' ∧ (∃ s1, qm_evM (d + 40) jC_measure [qP 1 0, qI (nI c), qI (nI z), qI l, qI h] s = some (some (qI r), s1) ∧ fp CP s s1 ∧ RC s1 w y' k' tp' fd' fa' pl' T') ∧ (∀ s1, RM s1 w y k tp fd fa pl T → ∃ s2, qm_evM (d + 40) jM_measure [qP 9 0, qI (nI c), qI (nI z), qI l, qI h] s1 = some (some (qI r), s2) ∧ fp MP s1 s2 ∧ RM s2 w y' k' tp' fd' fa' pl' T') := fun v2 g1 g2 g3 => by
      have hv : (l = N1 ∧ v2 = N1) ∨ (rg l 0 2000 ∧ rg v2 0 2000) := by
        by_cases q : l = N1
        · exact Or.inl ⟨q, g1 q⟩
        · obtain ⟨p1, p2, p3⟩ := g3 q
          rw [g2 q]
          exact Or.inr ⟨inr_rg (by decide) p1.1 p1.2 (by decide), inr_rg (by decide) p2.1 p2.2 (by decide)⟩
      refine ⟨nI 1, vset (vset y 6 (8 * c + z) l) 7 (8 * c + z) v2, k, tp, fd, fa, pl, T, OKG_pile (OKP_meas hv okp) (vp_trans (vp_set (by omega)) (vp_set (by omega))) ok, ⟨uI (uI s 15 0 (8 * c + z) l) 16 0 (8 * c + z) v2, ?_, ?_, RC_pile ?_ (PC_put (PC_put hPC 4 (8 * c + z) (by decide) l) 5 (8 * c + z) (by decide) v2) (vp_trans (vp_set (by omega)) (vp_set (by omega))) hC⟩, fun s1 h1 => ?_⟩
      · by_cases q : l = N1
        · have q2 := g1 q
          subst q q2
          simp (config := {maxSteps := 1000000}) (disch := first | omega | assumption | (simp only [qm_wid_n, qm_wid_I, qm_wid_L, qm_wid_P] <;> omega)) only [e_C_measure, b_C_measure_0, b_C_measure_1, b_C_measure_2, b_C_measure_3, b_C_measure_4, qy0, qy1, qy2, qy3, qe, qcn, qin, ↓reduceIte, Nat.reduceEqDiff, Nat.reduceLeDiff, Bool.false_eq_true, Nat.reduceAdd, Nat.reduceSub, Nat.reduceMul, Nat.reduceLT, or_self, or_false, false_or, or_true, true_or, and_self, and_true, true_and, and_false, false_and, not_true_eq_false, not_false_eq_true, hh, t_place]
        · have q2 := g2 q
          subst q2
          have q3 := g3 q
          simp (config := {maxSteps := 1000000}) (disch := first | omega | assumption | (simp only [qm_wid_n, qm_wid_I, qm_wid_L, qm_wid_P] <;> omega)) only [e_C_measure, b_C_measure_0, b_C_measure_1, b_C_measure_2, b_C_measure_3, b_C_measure_4, qy0, qy1, qy2, qy3, qe, qcn, qin, ↓reduceIte, Nat.reduceEqDiff, Nat.reduceLeDiff, Bool.false_eq_true, Nat.reduceAdd, Nat.reduceSub, Nat.reduceMul, Nat.reduceLT, or_self, or_false, false_or, or_true, true_or, and_self, and_true, true_and, and_false, false_and, not_true_eq_false, not_false_eq_true, hh, t_place, q, t_isSpan, q3]
      · exact PP_CP (p := 0) (fp_uI (by unfold PP; omega) (fp_u1 _ _ (by omega)) _ _)
      · exact fp_uI (by unfold PP; omega) (fp_u1 _ _ (by omega)) _ _
      · have his := r_isSplit_y (d + 37) h1.2.1.1 okp h1.1.1 (by decide) hc hz
        have hat : ∀ s', zI s' 9 0 2 = nI 0 → _ := fun s' q => r_at0 (d + 39) q c z
        have hat1 := hat s1 h1.1.1
        have hat2 := hat (uI s1 61 0 (0 + 130 + 6 * (8 * c + z) + 4) l) h1.1.1
        have m1 := RM_u61 (k := k) (tp := tp) (fd := fd) (fa := fa) (pl := pl) (T := T) hw.2 l (by omega) (PM_put h1.2.1.1 okp 4 (8 * c + z) (by decide) l) (vp_set (by omega)) h1
        have okm : OKP w (vset y 6 (8 * c + z) l) ∨ True := Or.inr trivial
        have hPM2 : PM (uI (uI s1 61 0 (0 + 130 + 6 * (8 * c + z) + 4) l) 61 0 (0 + 130 + 6 * (8 * c + z) + 5) v2) 0 w (vset (vset y 6 (8 * c + z) l) 7 (8 * c + z) v2) := by
          have hm := PM_put h1.2.1.1 okp 4 (8 * c + z) (by decide) l
          -- bounds are needed for the width alone
          have hm5 : ∀ (s' : qm_Hp) (y' : VW), PM s' 0 w y' → PM (uI s' 61 0 (0 + 130 + 6 * (8 * c + z) + 5) v2) 0 w (vset y' 7 (8 * c + z) v2) := fun s' y' q => by
            have hvv : ∀ i, vset y' 7 (8 * c + z) v2 0 i = y' 0 i := fun i => if_neg (fun z => by omega)
            refine ⟨q.1, ⟨?_, ?_, ?_, ?_, ?_⟩, fun c' hc' => ?_, fun f' c' z' hf' hc' hz' => ?_⟩
            · rw [zI_uI, if_neg (fun g => by omega), hvv]; exact q.2.1.1
            · rw [zI_uI, if_neg (fun g => by omega), hvv]; exact q.2.1.2.1
            · rw [zI_uI, if_neg (fun g => by omega), hvv]; exact q.2.1.2.2.1
            · rw [zI_uI, if_neg (fun g => by omega), hvv]; exact q.2.1.2.2.2.1
            · rw [zI_uI, if_neg (fun g => by omega), hvv]; exact q.2.1.2.2.2.2
            · rw [zI_uI, if_neg (fun g => by omega), cn_vset (by omega)]; exact q.2.2.1 c' hc'
            · rw [cn_vset (by omega)] at hz'
              rw [zI_uI]
              unfold vset
              by_cases q2 : f' = 5 ∧ 8 * c' + z' = 8 * c + z
              · rw [if_pos ⟨rfl, rfl, by rw [q2.1, q2.2]⟩, if_pos ⟨by omega, q2.2⟩]
              · rw [if_neg (fun g => q2 (by omega)), if_neg (fun g => q2 ⟨by omega, g.2⟩)]
                exact q.2.2.2 f' c' z' hf' hc' hz'
          exact hm5 _ _ hm
        refine ⟨uI (uI s1 61 0 (0 + 130 + 6 * (8 * c + z) + 4) l) 61 0 (0 + 130 + 6 * (8 * c + z) + 5) v2, ?_, mp_uu (mp_u61 _ _ _) _ _, RM_u61 hw.2 v2 (by omega) hPM2 (vp_set (by omega)) m1⟩
        by_cases q : l = N1
        · have q2 := g1 q
          subst q q2
          simp (config := {maxSteps := 1000000}) (disch := first | omega | assumption | (simp only [qm_wid_n, qm_wid_I, qm_wid_L, qm_wid_P] <;> omega)) only [e_M_measure, b_M_measure_0, b_M_measure_1, b_M_measure_2, b_M_measure_3, b_M_measure_4, qy0, qy1, qy2, qy3, qe, qcn, qin, ↓reduceIte, Nat.reduceEqDiff, Nat.reduceLeDiff, Bool.false_eq_true, Nat.reduceAdd, Nat.reduceSub, Nat.reduceMul, Nat.reduceLT, or_self, or_false, false_or, or_true, true_or, and_self, and_true, true_and, and_false, false_and, not_true_eq_false, not_false_eq_true, his, hat1, hat2]
        · have q2 := g2 q
          subst q2
          have q3 := g3 q
          simp (config := {maxSteps := 1000000}) (disch := first | omega | assumption | (simp only [qm_wid_n, qm_wid_I, qm_wid_L, qm_wid_P] <;> omega)) only [e_M_measure, b_M_measure_0, b_M_measure_1, b_M_measure_2, b_M_measure_3, b_M_measure_4, qy0, qy1, qy2, qy3, qe, qcn, qin, ↓reduceIte, Nat.reduceEqDiff, Nat.reduceLeDiff, Bool.false_eq_true, Nat.reduceAdd, Nat.reduceSub, Nat.reduceMul, Nat.reduceLT, or_self, or_false, false_or, or_true, true_or, and_self, and_true, true_and, and_false, false_and, not_true_eq_false, not_false_eq_true, his, hat1, hat2, q, r_isSpan, q3]
    by_cases hl : l = N1
    · exact good N1 (fun _ => rfl) (fun q => absurd hl q) (fun q => absurd hl q)
    · by_cases hq : (nI 0 ≤ l ∧ l ≤ nI 2000) ∧ (nI 0 ≤ h ∧ h ≤ nI 2000) ∧ l ≤ h
      · exact good h (fun q => absurd q hl) (fun _ => rfl) (fun _ => hq)
      · refine nochg ok hC (nI 0) ?_ (fun s1 h1 => ?_)
        · simp (config := {maxSteps := 1000000}) (disch := first | omega | assumption | (simp only [qm_wid_n, qm_wid_I, qm_wid_L, qm_wid_P] <;> omega)) only [e_C_measure, b_C_measure_0, b_C_measure_1, qy0, qy1, qy2, qy3, qe, qcn, qin, ↓reduceIte, Nat.reduceEqDiff, Nat.reduceLeDiff, Bool.false_eq_true, Nat.reduceAdd, Nat.reduceSub, Nat.reduceMul, Nat.reduceLT, or_self, or_false, false_or, or_true, true_or, and_self, and_true, true_and, and_false, false_and, not_true_eq_false, not_false_eq_true, hh, hl, t_isSpan, hq]
        · have his := r_isSplit_y (d + 37) h1.2.1.1 okp h1.1.1 (by decide) hc hz
          simp (config := {maxSteps := 1000000}) (disch := first | omega | assumption | (simp only [qm_wid_n, qm_wid_I, qm_wid_L, qm_wid_P] <;> omega)) only [e_M_measure, b_M_measure_0, b_M_measure_1, qy0, qy1, qy2, qy3, qe, qcn, qin, ↓reduceIte, Nat.reduceEqDiff, Nat.reduceLeDiff, Bool.false_eq_true, Nat.reduceAdd, Nat.reduceSub, Nat.reduceMul, Nat.reduceLT, or_self, or_false, false_or, or_true, true_or, and_self, and_true, true_and, and_false, false_and, not_true_eq_false, not_false_eq_true, his, hl, r_isSpan, hq]
  · have hh := t_holds_n (d + 39) hPC okp hsp
    refine nochg ok hC (nI 0) ?_ (fun s1 h1 => ?_)
    · simp (config := {maxSteps := 1000000}) (disch := first | omega | assumption | (simp only [qm_wid_n, qm_wid_I, qm_wid_L, qm_wid_P] <;> omega)) only [e_C_measure, b_C_measure_0, b_C_measure_1, qy0, qy1, qy2, qy3, qe, qcn, qin, ↓reduceIte, Nat.reduceEqDiff, Nat.reduceLeDiff, Bool.false_eq_true, Nat.reduceAdd, Nat.reduceSub, Nat.reduceMul, Nat.reduceLT, or_self, or_false, false_or, or_true, true_or, and_self, and_true, true_and, and_false, false_and, not_true_eq_false, not_false_eq_true, hh]
    · have his := r_isSplit_n (d + 37) h1.2.1.1 okp h1.1.1 (by decide) hsp
      simp (config := {maxSteps := 1000000}) (disch := first | omega | assumption | (simp only [qm_wid_n, qm_wid_I, qm_wid_L, qm_wid_P] <;> omega)) only [e_M_measure, b_M_measure_0, b_M_measure_1, qy0, qy1, qy2, qy3, qe, qcn, qin, ↓reduceIte, Nat.reduceEqDiff, Nat.reduceLeDiff, Bool.false_eq_true, Nat.reduceAdd, Nat.reduceSub, Nat.reduceMul, Nat.reduceLT, or_self, or_false, false_or, or_true, true_or, and_self, and_true, true_and, and_false, false_and, not_true_eq_false, not_false_eq_true, his]
theorem st_span (d : Nat) (a l h : Int32) : STP (d + 40) jC_span jM_span [qI a, qI l, qI h] := by
  refine stp_rw fun s w y k tp fd fa pl T hC hM ok => ?_
  have okp := ok.1.1
  have hw := okp.1
  by_cases ha : nI 0 ≤ a ∧ a ≤ nI 3
  · by_cases hq : (nI 0 ≤ l ∧ l ≤ nI 2000) ∧ (nI 0 ≤ h ∧ h ≤ nI 2000) ∧ l ≤ h
    · have hrg := inr_rg (by decide) ha.1 ha.2 (by decide)
      obtain ⟨j, _, hj, rfl⟩ := hrg
      have r1 := inr_rg (by decide) hq.1.1 hq.1.2 (by decide)
      have r2 := inr_rg (by decide) hq.2.1.1 hq.2.1.2 (by decide)
      have hv : vq y (vset (vset y 13 j l) 14 j h) := vq_trans (vq_set (by omega)) (vq_set (by omega))
      refine ⟨nI 1, vset (vset y 13 j l) 14 j h, k, tp, fd, fa, pl, T, OKG_yard (OKY_set (OKY_set ok.1.2 13 j l (by omega) (fun g => by omega) (fun g => by omega) (fun g1 g2 => by omega) (fun g => by omega) (fun _ => r1) (fun g => by omega)) 14 j h (by omega) (fun g => by omega) (fun g => by omega) (fun g1 g2 => by omega) (fun g => by omega) (fun _ => r2) (fun g => by omega)) hv ok, ⟨uI (uI s 26 0 j l) 27 0 j h, ?_, YP_CP (yp_u _ _ (yp_u _ _ (fp_refl _ _) _ _ _ (by omega)) _ _ _ (by omega)), RC_yard (yp_u _ _ (yp_u _ _ (fp_refl _ _) _ _ _ (by omega)) _ _ _ (by omega)) (YC_u (YC_u hC.1.2 5 j (by decide) l) 6 j (by decide) h) hv hC⟩, fun s1 h1 => ⟨uI (uI s1 61 0 (10 + 2 * j) l) 61 0 (10 + 2 * j + 1) h, ?_, mp_uu (mp_u61 _ _ _) _ _, RM_yu hw.2 (RM_yu hw.2 h1 13 j (10 + 2 * j) (by unfold ymn; omega) (by omega) l) 14 j (10 + 2 * j + 1) (by unfold ymn; omega) (by omega) h⟩⟩
      · simp (config := {maxSteps := 1000000}) (disch := first | omega | assumption | (simp only [qm_wid_n, qm_wid_I, qm_wid_L, qm_wid_P] <;> omega)) only [e_C_span, b_C_span_0, b_C_span_1, b_C_span_2, qy0, qy1, qy2, qy3, qe, qcn, qin, ↓reduceIte, Nat.reduceEqDiff, Nat.reduceLeDiff, Bool.false_eq_true, Nat.reduceAdd, Nat.reduceSub, Nat.reduceMul, Nat.reduceLT, or_self, or_false, false_or, or_true, true_or, and_self, and_true, true_and, and_false, false_and, not_true_eq_false, not_false_eq_true, t_isKind, t_isSpan, hq]
      · simp (config := {maxSteps := 1000000}) (disch := first | omega | assumption | (simp only [qm_wid_n, qm_wid_I, qm_wid_L, qm_wid_P] <;> omega)) only [e_M_span, b_M_span_0, b_M_span_1, b_M_span_2, qy0, qy1, qy2, qy3, qe, qcn, qin, ↓reduceIte, Nat.reduceEqDiff, Nat.reduceLeDiff, Bool.false_eq_true, Nat.reduceAdd, Nat.reduceSub, Nat.reduceMul, Nat.reduceLT, or_self, or_false, false_or, or_true, true_or, and_self, and_true, true_and, and_false, false_and, not_true_eq_false, not_false_eq_true, t_isIn, r_isSpan, hq]
    · refine nochg ok hC (nI 0) ?_ (fun s1 h1 => ?_)
      · simp (config := {maxSteps := 1000000}) (disch := first | omega | assumption | (simp only [qm_wid_n, qm_wid_I, qm_wid_L, qm_wid_P] <;> omega)) only [e_C_span, b_C_span_0, b_C_span_1, qy0, qy1, qy2, qy3, qe, qcn, qin, ↓reduceIte, Nat.reduceEqDiff, Nat.reduceLeDiff, Bool.false_eq_true, Nat.reduceAdd, Nat.reduceSub, Nat.reduceMul, Nat.reduceLT, or_self, or_false, false_or, or_true, true_or, and_self, and_true, true_and, and_false, false_and, not_true_eq_false, not_false_eq_true, t_isKind, t_isSpan, ha, hq]
      · simp (config := {maxSteps := 1000000}) (disch := first | omega | assumption | (simp only [qm_wid_n, qm_wid_I, qm_wid_L, qm_wid_P] <;> omega)) only [e_M_span, b_M_span_0, b_M_span_1, qy0, qy1, qy2, qy3, qe, qcn, qin, ↓reduceIte, Nat.reduceEqDiff, Nat.reduceLeDiff, Bool.false_eq_true, Nat.reduceAdd, Nat.reduceSub, Nat.reduceMul, Nat.reduceLT, or_self, or_false, false_or, or_true, true_or, and_self, and_true, true_and, and_false, false_and, not_true_eq_false, not_false_eq_true, t_isIn, r_isSpan, ha, hq]
  · refine nochg ok hC (nI 0) ?_ (fun s1 h1 => ?_)
    · simp (config := {maxSteps := 1000000}) (disch := first | omega | assumption | (simp only [qm_wid_n, qm_wid_I, qm_wid_L, qm_wid_P] <;> omega)) only [e_C_span, b_C_span_0, b_C_span_1, qy0, qy1, qy2, qy3, qe, qcn, qin, ↓reduceIte, Nat.reduceEqDiff, Nat.reduceLeDiff, Bool.false_eq_true, Nat.reduceAdd, Nat.reduceSub, Nat.reduceMul, Nat.reduceLT, or_self, or_false, false_or, or_true, true_or, and_self, and_true, true_and, and_false, false_and, not_true_eq_false, not_false_eq_true, t_isKind, ha]
    · simp (config := {maxSteps := 1000000}) (disch := first | omega | assumption | (simp only [qm_wid_n, qm_wid_I, qm_wid_L, qm_wid_P] <;> omega)) only [e_M_span, b_M_span_0, b_M_span_1, qy0, qy1, qy2, qy3, qe, qcn, qin, ↓reduceIte, Nat.reduceEqDiff, Nat.reduceLeDiff, Bool.false_eq_true, Nat.reduceAdd, Nat.reduceSub, Nat.reduceMul, Nat.reduceLT, or_self, or_false, false_or, or_true, true_or, and_self, and_true, true_and, and_false, false_and, not_true_eq_false, not_false_eq_true, t_isIn, ha]
theorem t_isWeather (d : Nat) {s : qm_Hp} {n : Nat} (h : zI s 2 0 5 = nI n) (x : Int32) : qm_evM (d + 1) jC_isWeather [qP 1 0, qI x] s = some (some (qI (if nI 0 ≤ x ∧ x ≤ nI n - nI 1 then nI 1 else nI 0)), s) := by
  by_cases h1 : 1 ≤ n
  · rw [pk_sub h1]
    simp (config := {maxSteps := 1000000}) (disch := first | omega | assumption | (simp only [qm_wid_n, qm_wid_I, qm_wid_L, qm_wid_P] <;> omega)) only [e_C_isWeather, b_C_isWeather_0, qy0, qy1, qy2, qy3, qe, qcn, qin, ↓reduceIte, Nat.reduceEqDiff, Nat.reduceLeDiff, Bool.false_eq_true, Nat.reduceAdd, Nat.reduceSub, Nat.reduceMul, Nat.reduceLT, or_self, or_false, false_or, or_true, true_or, and_self, and_true, true_and, and_false, false_and, not_true_eq_false, not_false_eq_true, t_within, h]
  · have : n = 0 := by omega
    subst this
    simp (config := {maxSteps := 1000000}) (disch := first | omega | assumption | (simp only [qm_wid_n, qm_wid_I, qm_wid_L, qm_wid_P] <;> omega)) only [e_C_isWeather, b_C_isWeather_0, qy0, qy1, qy2, qy3, qe, qcn, qin, ↓reduceIte, Nat.reduceEqDiff, Nat.reduceLeDiff, Bool.false_eq_true, Nat.reduceAdd, Nat.reduceSub, Nat.reduceMul, Nat.reduceLT, or_self, or_false, false_or, or_true, true_or, and_self, and_true, true_and, and_false, false_and, not_true_eq_false, not_false_eq_true, t_within, h]
theorem r_isWeather (d : Nat) {s : qm_Hp} {n : Nat} (h : zI s 61 0 1 = nI n) (x : Int32) : qm_evM (d + 1) jM_isWeather [qP 9 0, qI x] s = some (some (qI (if nI 0 ≤ x ∧ x ≤ nI n - nI 1 then nI 1 else nI 0)), s) := by
  by_cases h1 : 1 ≤ n
  · rw [pk_sub h1]
    simp (config := {maxSteps := 1000000}) (disch := first | omega | assumption | (simp only [qm_wid_n, qm_wid_I, qm_wid_L, qm_wid_P] <;> omega)) only [e_M_isWeather, b_M_isWeather_0, qy0, qy1, qy2, qy3, qe, qcn, qin, ↓reduceIte, Nat.reduceEqDiff, Nat.reduceLeDiff, Bool.false_eq_true, Nat.reduceAdd, Nat.reduceSub, Nat.reduceMul, Nat.reduceLT, or_self, or_false, false_or, or_true, true_or, and_self, and_true, true_and, and_false, false_and, not_true_eq_false, not_false_eq_true, t_isIn, h]
  · have : n = 0 := by omega
    subst this
    simp (config := {maxSteps := 1000000}) (disch := first | omega | assumption | (simp only [qm_wid_n, qm_wid_I, qm_wid_L, qm_wid_P] <;> omega)) only [e_M_isWeather, b_M_isWeather_0, qy0, qy1, qy2, qy3, qe, qcn, qin, ↓reduceIte, Nat.reduceEqDiff, Nat.reduceLeDiff, Bool.false_eq_true, Nat.reduceAdd, Nat.reduceSub, Nat.reduceMul, Nat.reduceLT, or_self, or_false, false_or, or_true, true_or, and_self, and_true, true_and, and_false, false_and, not_true_eq_false, not_false_eq_true, t_isIn, h]
theorem wth_or (x : Int32) (n : Nat) (hn : n ≤ 4000) : (∃ j, j < n ∧ x = nI j ∧ (nI 0 ≤ x ∧ x ≤ nI n - nI 1)) ∨ ¬ (nI 0 ≤ x ∧ x ≤ nI n - nI 1) := by
  by_cases h : nI 0 ≤ x ∧ x ≤ nI n - nI 1
  · refine Or.inl ?_
    obtain ⟨h1, h2⟩ := id h
    have e := pk_sub_toInt (a := n) (b := 1) (by omega) (by decide)
    rw [fa_le, nI_toInt (by decide)] at h1
    rw [fa_le, e] at h2
    refine ⟨x.toInt.toNat, by omega, ?_, h⟩
    rw [fa_eq, nI_toInt (by omega)]
    omega
  · exact Or.inr h
theorem st_plan (d : Nat) (a b : Int32) : STP (d + 40) jC_plan jM_plan [qI a, qI b] := by
  refine stp_rw fun s w y k tp fd fa pl T hC hM ok => ?_
  have okp := ok.1.1
  have hw := okp.1
  obtain ⟨n, _, hn, en⟩ := ok.1.2.1
  have hcw : zI s 2 0 5 = nI n := hC.1.2.1.1.trans en
  by_cases ha : nI 0 ≤ a ∧ a ≤ nI 39
  · rcases wth_or b n (by omega) with ⟨i, hi, rfl, hq⟩ | hq
    · have hrg := inr_rg (by decide) ha.1 ha.2 (by decide)
      obtain ⟨j, _, hj, rfl⟩ := hrg
      refine ⟨nI 1, vset y 12 j (nI i), k, tp, fd, fa, pl, T, OKG_yard (OKY_set ok.1.2 12 j (nI i) (by omega) (fun g => by omega) (fun g => by omega) (fun g1 g2 => by omega) (fun _ => ⟨i, by omega, by omega, rfl⟩) (fun g => by omega) (fun g => by omega)) (vq_set (by omega)) ok, ⟨uI s 25 0 j (nI i), ?_, YP_CP (yp_u _ _ (fp_refl _ _) _ _ _ (by omega)), RC_yard (yp_u _ _ (fp_refl _ _) _ _ _ (by omega)) (YC_u hC.1.2 4 j (by decide) (nI i)) (vq_set (by omega)) hC⟩, fun s1 h1 => ⟨uI s1 61 0 (70 + j) (nI i), ?_, mp_u61 _ _ _, RM_yu hw.2 h1 12 j (70 + j) (by unfold ymn; omega) (by omega) (nI i)⟩⟩
      · have hc1 := t_isWeather (d + 38) hcw (nI i)
        rw [if_pos hq] at hc1
        simp (config := {maxSteps := 1000000}) (disch := first | omega | assumption | (simp only [qm_wid_n, qm_wid_I, qm_wid_L, qm_wid_P] <;> omega)) only [e_C_plan, b_C_plan_0, b_C_plan_1, b_C_plan_2, qy0, qy1, qy2, qy3, qe, qcn, qin, ↓reduceIte, Nat.reduceEqDiff, Nat.reduceLeDiff, Bool.false_eq_true, Nat.reduceAdd, Nat.reduceSub, Nat.reduceMul, Nat.reduceLT, or_self, or_false, false_or, or_true, true_or, and_self, and_true, true_and, and_false, false_and, not_true_eq_false, not_false_eq_true, t_within, hc1]
      · have hr1 := r_isWeather (d + 38) (h1.2.1.2.1.1.trans en) (nI i)
        rw [if_pos hq] at hr1
        simp (config := {maxSteps := 1000000}) (disch := first | omega | assumption | (simp only [qm_wid_n, qm_wid_I, qm_wid_L, qm_wid_P] <;> omega)) only [e_M_plan, b_M_plan_0, b_M_plan_1, b_M_plan_2, qy0, qy1, qy2, qy3, qe, qcn, qin, ↓reduceIte, Nat.reduceEqDiff, Nat.reduceLeDiff, Bool.false_eq_true, Nat.reduceAdd, Nat.reduceSub, Nat.reduceMul, Nat.reduceLT, or_self, or_false, false_or, or_true, true_or, and_self, and_true, true_and, and_false, false_and, not_true_eq_false, not_false_eq_true, t_isIn, hr1]
    · refine nochg ok hC (nI 0) ?_ (fun s1 h1 => ?_)
      · have hc1 := t_isWeather (d + 38) hcw b
        rw [if_neg hq] at hc1
        simp (config := {maxSteps := 1000000}) (disch := first | omega | assumption | (simp only [qm_wid_n, qm_wid_I, qm_wid_L, qm_wid_P] <;> omega)) only [e_C_plan, b_C_plan_0, b_C_plan_1, qy0, qy1, qy2, qy3, qe, qcn, qin, ↓reduceIte, Nat.reduceEqDiff, Nat.reduceLeDiff, Bool.false_eq_true, Nat.reduceAdd, Nat.reduceSub, Nat.reduceMul, Nat.reduceLT, or_self, or_false, false_or, or_true, true_or, and_self, and_true, true_and, and_false, false_and, not_true_eq_false, not_false_eq_true, t_within, ha, hc1]
      · have hr1 := r_isWeather (d + 38) (h1.2.1.2.1.1.trans en) b
        rw [if_neg hq] at hr1
        simp (config := {maxSteps := 1000000}) (disch := first | omega | assumption | (simp only [qm_wid_n, qm_wid_I, qm_wid_L, qm_wid_P] <;> omega)) only [e_M_plan, b_M_plan_0, b_M_plan_1, qy0, qy1, qy2, qy3, qe, qcn, qin, ↓reduceIte, Nat.reduceEqDiff, Nat.reduceLeDiff, Bool.false_eq_true, Nat.reduceAdd, Nat.reduceSub, Nat.reduceMul, Nat.reduceLT, or_self, or_false, false_or, or_true, true_or, and_self, and_true, true_and, and_false, false_and, not_true_eq_false, not_false_eq_true, t_isIn, ha, hr1]
  · refine nochg ok hC (nI 0) ?_ (fun s1 h1 => ?_)
    · simp (config := {maxSteps := 1000000}) (disch := first | omega | assumption | (simp only [qm_wid_n, qm_wid_I, qm_wid_L, qm_wid_P] <;> omega)) only [e_C_plan, b_C_plan_0, b_C_plan_1, qy0, qy1, qy2, qy3, qe, qcn, qin, ↓reduceIte, Nat.reduceEqDiff, Nat.reduceLeDiff, Bool.false_eq_true, Nat.reduceAdd, Nat.reduceSub, Nat.reduceMul, Nat.reduceLT, or_self, or_false, false_or, or_true, true_or, and_self, and_true, true_and, and_false, false_and, not_true_eq_false, not_false_eq_true, t_within, ha]
    · simp (config := {maxSteps := 1000000}) (disch := first | omega | assumption | (simp only [qm_wid_n, qm_wid_I, qm_wid_L, qm_wid_P] <;> omega)) only [e_M_plan, b_M_plan_0, b_M_plan_1, qy0, qy1, qy2, qy3, qe, qcn, qin, ↓reduceIte, Nat.reduceEqDiff, Nat.reduceLeDiff, Bool.false_eq_true, Nat.reduceAdd, Nat.reduceSub, Nat.reduceMul, Nat.reduceLT, or_self, or_false, false_or, or_true, true_or, and_self, and_true, true_and, and_false, false_and, not_true_eq_false, not_false_eq_true, t_isIn, ha]
