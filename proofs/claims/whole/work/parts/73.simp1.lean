/-! calls: lay, bark, measure -/
theorem t_add_ok (d : Nat) {s : qm_Hp} {p w c : Nat} {y : VW} (hP : PC s p w y) (ok : OKP w y) (hc : c < w) (hn : cn y c < 8) (kd sz wt : Int32) : qm_evM (d + 1) jP_add [qP 3 p, qI (nI c), qI kd, qI sz, qI wt] s = some (some (qI (nI (cn y c))), hp_add s p c (cn y c) kd sz wt) :=
  s_add_ok d s p w c (cn y c) kd sz wt hP.1 ok.1.2 hc (PC_c hP hc) hn
theorem wm1 (w : Nat) (h : 1 ≤ w) : nI w - 1 = nI (w - 1) := by
  obtain ⟨v, rfl⟩ : ∃ v, w = v + 1 := ⟨w - 1, by omega⟩
  exact nI_pred v
theorem t_add_col (d : Nat) {s : qm_Hp} {p w : Nat} {y : VW} (hP : PC s p w y) (ok : OKP w y) (x kd sz wt : Int32) (h : ¬ (nI 0 ≤ x ∧ x ≤ nI (w - 1))) : qm_evM (d + 1) jP_add [qP 3 p, qI x, qI kd, qI sz, qI wt] s = some (some (qI N1), s) := by
  have hw := ok.1
  refine s_add_no d s p w x kd sz wt hP.1 hw.2 (Or.inl ?_)
  rw [wm1 w (by omega)]
  exact h
theorem t_add_full (d : Nat) {s : qm_Hp} {p w c : Nat} {y : VW} (hP : PC s p w y) (ok : OKP w y) (hc : c < w) (hn : cn y c = 8) (kd sz wt : Int32) : qm_evM (d + 1) jP_add [qP 3 p, qI (nI c), qI kd, qI sz, qI wt] s = some (some (qI N1), s) := by
  have hw := ok.1
  refine s_add_no d s p w (nI c) kd sz wt hP.1 hw.2 (Or.inr ⟨vp_in_nI (by omega) (by decide), ?_⟩)
  rw [nI_clamp (by omega), PC_c hP hc, hn]
  decide
theorem r_isCol (d : Nat) {s : qm_Hp} {w : Nat} (hw : zI s 9 0 1 = nI w) (h1 : 1 ≤ w) (x : Int32) : qm_evM (d + 1) jM_isColumn [qP 9 0, qI x] s = some (some (qI (if nI 0 ≤ x ∧ x ≤ nI (w - 1) then nI 1 else nI 0)), s) := by
  have := m_isColumn d s x
  rw [hw, wm1 w h1] at this
  exact this
theorem r_put (d : Nat) {s : qm_Hp} {b w c : Nat} {y : VW} (hP : PM s b w y) (ok : OKP w y) (hb : zI s 9 0 2 = nI b) (hb2 : b ≤ 2940) (hc : c < w) (hn : cn y c < 8) (kd sz wt : Int32) : qm_evM (d + 1) jM_put [qP 9 0, qI (nI c), qI kd, qI sz, qI wt] s = some (none, hm_add s b c (cn y c) kd sz wt) := by
  have hw := ok.1
  have hct := r_count d hP ok hb hb2 hc
  have hat := r_at0 d hb c (cn y c)
  have hcn := PM_c hP hc
  unfold hm_add
  simp (config := {maxSteps := 1000000}) (disch := first | omega | assumption | (simp only [qm_wid_n, qm_wid_I, qm_wid_L, qm_wid_P] <;> omega)) only [e_M_put, b_M_put_0, qy0, qy1, qy2, qy3, qe, qcn, qin, ↓reduceIte, Nat.reduceEqDiff, Nat.reduceLeDiff, Bool.false_eq_true, Nat.reduceAdd, Nat.reduceSub, Nat.reduceMul, Nat.reduceLT, or_self, or_false, false_or, or_true, true_or, and_self, and_true, true_and, and_false, false_and, not_true_eq_false, not_false_eq_true, hct, hat, zI_uI, hb, hcn]
theorem fp_add (s : qm_Hp) (c n : Nat) (kd sz wt : Int32) (p : Nat) : fp (PP p) s (hp_add s p c n kd sz wt) := by
  unfold hp_add
  repeat' (first | exact fp_refl _ _ | refine fp_uI (by unfold PP; omega) ?_ _ _)
theorem PP_CP {p : Nat} {s s' : qm_Hp} (h : fp (PP p) s s') : fp CP s s' := fp_mono (fun k i hk => by unfold PP at hk; unfold CP; omega) h
theorem mp_add (s : qm_Hp) (b c n : Nat) (kd sz wt : Int32) : fp MP s (hm_add s b c n kd sz wt) := by
  unfold hm_add
  repeat' (first | exact fp_refl _ _ | refine fp_uI (by unfold MP; omega) ?_ _ _)
/-- the reference's lay, where it may be laid and where not -/
theorem r_lay_ok (d : Nat) {s : qm_Hp} {w c : Nat} {y : VW} {kd sz wt : Int32} (hP : PM s 0 w y) (ok : OKP w y) (hb : zI s 9 0 2 = nI 0) (hc : c < w) (hn : cn y c < 8) (h1 : nI 0 ≤ kd ∧ kd ≤ nI 3) (h2 : nI 1 ≤ sz ∧ sz ≤ nI 20) (h3 : nI 0 ≤ wt ∧ wt ≤ nI 2000) (hf : y 0 1 = N1) : qm_evM (d + 3) jM_lay [qP 9 0, qI (nI c), qI kd, qI sz, qI wt] s = some (some (qI (nI (cn y c))), hm_add s 0 c (cn y c) kd sz wt) := by
  have hw := ok.1
  have hct := r_count (d + 2) hP ok hb (by decide) hc
  have hput := r_put (d + 1) hP ok hb (by decide) hc hn kd sz wt
  have hic := r_isCol (d + 1) hP.1 (by omega) (nI c)
  have h7 : zI s 61 0 7 = N1 := by have := hP.2.1.2.1; rw [Nat.zero_add] at this; rw [this, hf]
  have hm := PM_add hP ok hc hn kd sz wt
  have hct2 : qm_evM (d + 2) jM_count [qP 9 0, qI (nI c)] (hm_add s 0 c (cn y c) kd sz wt) = some (some (qI (nI (cn y c + 1))), hm_add s 0 c (cn y c) kd sz wt) := by
    rw [m_count (d + 2) _ 0 c (by have := (mp_add s 0 c (cn y c) kd sz wt); unfold hm_add; simp only [zI_uI, Nat.reduceEqDiff, false_and, ↓reduceIte]; exact hb) (by omega), PM_c hm hc, cn_vadd hn, if_pos rfl]
  have e1 : cn y c + 1 - 1 = cn y c := rfl
  have hm1 : ¬ nI 0 ≤ N1 := by decide
  simp (config := {maxSteps := 1000000}) (disch := first | omega | assumption | (simp only [qm_wid_n, qm_wid_I, qm_wid_L, qm_wid_P] <;> omega)) only [e_M_lay, b_M_lay_0, b_M_lay_1, b_M_lay_2, qy0, qy1, qy2, qy3, qe, qcn, qin, ↓reduceIte, Nat.reduceEqDiff, Nat.reduceLeDiff, Bool.false_eq_true, Nat.reduceAdd, Nat.reduceSub, Nat.reduceMul, Nat.reduceLT, or_self, or_false, false_or, or_true, true_or, and_self, and_true, true_and, and_false, false_and, not_true_eq_false, not_false_eq_true, hic, t_isIn, h1, h2, h3, hct, h7, hm1, hput, hct2, e1]
theorem st_lay (d : Nat) (a b c e : Int32) : STP (d + 40) jC_lay jM_lay [qI a, qI b, qI c, qI e] := by
  refine stp_rw fun s w y k tp fd fa pl T hC hM ok => ?_
  have okp := ok.1.1
  have hw := okp.1
  have hPC := hC.1.1
  have hf9 := hPC.2.1.2.1
  have same : (qm_evM (d + 40) jC_lay [qP 1 0, qI a, qI b, qI c, qI e] s = some (some (qI N1), s)) → (∀ s1, RM s1 w y k tp fd fa pl T → qm_evM (d + 40) jM_lay [qP 9 0, qI a, qI b, qI c, qI e] s1 = some (some (qI N1), s1)) → ∃ r y' k' tp' fd' fa' pl' T', OKG w y' k' tp' fd' T' ∧ (∃ s1, qm_evM (d + 40) jC_lay [qP 1 0, qI a, qI b, qI c, qI e] s = some (some (qI r), s1) ∧ fp CP s s1 ∧ RC s1 w y' k' tp' fd' fa' pl' T') ∧ (∀ s1, RM s1 w y k tp fd fa pl T → ∃ s2, qm_evM (d + 40) jM_lay [qP 9 0, qI a, qI b, qI c, qI e] s1 = some (some (qI r), s2) ∧ fp MP s1 s2 ∧ RM s2 w y' k' tp' fd' fa' pl' T') := fun g1 g2 =>
    ⟨N1, y, k, tp, fd, fa, pl, T, ok, ⟨s, g1, fp_refl _ _, hC⟩, fun s1 h1 => ⟨s1, g2 s1 h1, fp_refl _ _, h1⟩⟩
  rcases col_or a w (by omega) with ⟨cc, hcc, rfl⟩ | hcol
  · have hct := fun s1 (h1 : RM s1 w y k tp fd fa pl T) => r_count (d + 39) h1.2.1.1 okp h1.1.1 (by decide) hcc
    have hic := fun s1 (h1 : RM s1 w y k tp fd fa pl T) => r_isCol (d + 38) h1.2.1.1.1 (by omega) (nI cc)
    have h8 := OK_n okp hcc
    by_cases hb : nI 0 ≤ b ∧ b ≤ nI 3
    · by_cases hs : nI 1 ≤ c ∧ c ≤ nI 20
      · by_cases hwt : nI 0 ≤ e ∧ e ≤ nI 2000
        · by_cases hn : cn y cc < 8
          · by_cases hf : y 0 1 = N1
            · have hadd := t_add_ok (d + 38) hPC okp hcc hn b c e
              refine ⟨nI (cn y cc), vadd y cc b c e, k, tp, fd, fa, pl, T, OKG_pile (OKP_add okp hcc hn (inr_rg (by decide) hb.1 hb.2 (by decide)) (inr_rg (by decide) hs.1 hs.2 (by decide)) (inr_rg (by decide) hwt.1 hwt.2 (by decide))) vp_add ok, ⟨hp_add s 0 cc (cn y cc) b c e, ?_, PP_CP (fp_add s cc (cn y cc) b c e 0), RC_pile (fp_add s cc (cn y cc) b c e 0) (PC_add hPC okp hcc hn b c e) vp_add hC⟩, fun s1 h1 => ⟨hm_add s1 0 cc (cn y cc) b c e, r_lay_ok (d + 37) h1.2.1.1 okp h1.1.1 hcc hn hb hs hwt hf, mp_add _ _ _ _ _ _ _, RM_pile hw.2 (fun j _ => ?_) (fun j hj => hm_add_e _ _ _ _ _ _ _ j (by omega) (by omega)) (fun j => ?_) (fun j => ?_) (PM_add h1.2.1.1 okp hcc hn b c e) vp_add h1⟩⟩
              · simp (config := {maxSteps := 1000000}) (disch := first | omega | assumption | (simp only [qm_wid_n, qm_wid_I, qm_wid_L, qm_wid_P] <;> omega)) only [e_C_lay, b_C_lay_0, b_C_lay_1, b_C_lay_2, qy0, qy1, qy2, qy3, qe, qcn, qin, ↓reduceIte, Nat.reduceEqDiff, Nat.reduceLeDiff, Bool.false_eq_true, Nat.reduceAdd, Nat.reduceSub, Nat.reduceMul, Nat.reduceLT, or_self, or_false, false_or, or_true, true_or, and_self, and_true, true_and, and_false, false_and, not_true_eq_false, not_false_eq_true, t_isKind, t_within, t_isWater, t_isFallen, hf9, hf, hb, hs, hwt, hadd]
              · unfold hm_add; simp only [zI_uI, Nat.reduceEqDiff, false_and, ↓reduceIte]
              · unfold hm_add; simp only [zI_uI, Nat.reduceEqDiff, false_and, ↓reduceIte]
              · unfold hm_add; simp only [zI_uI, Nat.reduceEqDiff, false_and, ↓reduceIte]
            · refine same ?_ (fun s1 h1 => ?_)
              · simp (config := {maxSteps := 1000000}) (disch := first | omega | assumption | (simp only [qm_wid_n, qm_wid_I, qm_wid_L, qm_wid_P] <;> omega)) only [e_C_lay, b_C_lay_0, b_C_lay_1, b_C_lay_2, qy0, qy1, qy2, qy3, qe, qcn, qin, ↓reduceIte, Nat.reduceEqDiff, Nat.reduceLeDiff, Bool.false_eq_true, Nat.reduceAdd, Nat.reduceSub, Nat.reduceMul, Nat.reduceLT, or_self, or_false, false_or, or_true, true_or, and_self, and_true, true_and, and_false, false_and, not_true_eq_false, not_false_eq_true, t_isKind, t_within, t_isWater, t_isFallen, hf9, hf, hb, hs, hwt]
              · have h7 : zI s1 61 0 7 = y 0 1 := h1.2.1.1.2.1.2.1
                have hf' : ¬ y 0 1 < nI 0 := fun g => hf ((fl_iff okp).mp g)
                simp (config := {maxSteps := 1000000}) (disch := first | omega | assumption | (simp only [qm_wid_n, qm_wid_I, qm_wid_L, qm_wid_P] <;> omega)) only [e_M_lay, b_M_lay_0, b_M_lay_1, b_M_lay_2, qy0, qy1, qy2, qy3, qe, qcn, qin, ↓reduceIte, Nat.reduceEqDiff, Nat.reduceLeDiff, Bool.false_eq_true, Nat.reduceAdd, Nat.reduceSub, Nat.reduceMul, Nat.reduceLT, or_self, or_false, false_or, or_true, true_or, and_self, and_true, true_and, and_false, false_and, not_true_eq_false, not_false_eq_true, hic s1 h1, t_isIn, hb, hs, hwt, hct s1 h1, h7, hf']
          · have hn8 : cn y cc = 8 := by omega
            have hadd := t_add_full (d + 38) hPC okp hcc hn8 b c e
            refine same ?_ (fun s1 h1 => ?_)
            · simp (config := {maxSteps := 1000000}) (disch := first | omega | assumption | (simp only [qm_wid_n, qm_wid_I, qm_wid_L, qm_wid_P] <;> omega)) only [e_C_lay, b_C_lay_0, b_C_lay_1, b_C_lay_2, qy0, qy1, qy2, qy3, qe, qcn, qin, ↓reduceIte, Nat.reduceEqDiff, Nat.reduceLeDiff, Bool.false_eq_true, Nat.reduceAdd, Nat.reduceSub, Nat.reduceMul, Nat.reduceLT, or_self, or_false, false_or, or_true, true_or, and_self, and_true, true_and, and_false, false_and, not_true_eq_false, not_false_eq_true, t_isKind, t_within, t_isWater, t_isFallen, hf9, hb, hs, hwt, hadd, ite_self]
            · simp (config := {maxSteps := 1000000}) (disch := first | omega | assumption | (simp only [qm_wid_n, qm_wid_I, qm_wid_L, qm_wid_P] <;> omega)) only [e_M_lay, b_M_lay_0, b_M_lay_1, b_M_lay_2, qy0, qy1, qy2, qy3, qe, qcn, qin, ↓reduceIte, Nat.reduceEqDiff, Nat.reduceLeDiff, Bool.false_eq_true, Nat.reduceAdd, Nat.reduceSub, Nat.reduceMul, Nat.reduceLT, or_self, or_false, false_or, or_true, true_or, and_self, and_true, true_and, and_false, false_and, not_true_eq_false, not_false_eq_true, hic s1 h1, t_isIn, hb, hs, hwt, hct s1 h1]
        · refine same ?_ (fun s1 h1 => ?_)
          · simp (config := {maxSteps := 1000000}) (disch := first | omega | assumption | (simp only [qm_wid_n, qm_wid_I, qm_wid_L, qm_wid_P] <;> omega)) only [e_C_lay, b_C_lay_0, b_C_lay_1, qy0, qy1, qy2, qy3, qe, qcn, qin, ↓reduceIte, Nat.reduceEqDiff, Nat.reduceLeDiff, Bool.false_eq_true, Nat.reduceAdd, Nat.reduceSub, Nat.reduceMul, Nat.reduceLT, or_self, or_false, false_or, or_true, true_or, and_self, and_true, true_and, and_false, false_and, not_true_eq_false, not_false_eq_true, t_isKind, t_within, t_isWater, hb, hs, hwt]
          · simp (config := {maxSteps := 1000000}) (disch := first | omega | assumption | (simp only [qm_wid_n, qm_wid_I, qm_wid_L, qm_wid_P] <;> omega)) only [e_M_lay, b_M_lay_0, b_M_lay_1, qy0, qy1, qy2, qy3, qe, qcn, qin, ↓reduceIte, Nat.reduceEqDiff, Nat.reduceLeDiff, Bool.false_eq_true, Nat.reduceAdd, Nat.reduceSub, Nat.reduceMul, Nat.reduceLT, or_self, or_false, false_or, or_true, true_or, and_self, and_true, true_and, and_false, false_and, not_true_eq_false, not_false_eq_true, hic s1 h1, t_isIn, hb, hs, hwt]
      · refine same ?_ (fun s1 h1 => ?_)
        · simp (config := {maxSteps := 1000000}) (disch := first | omega | assumption | (simp only [qm_wid_n, qm_wid_I, qm_wid_L, qm_wid_P] <;> omega)) only [e_C_lay, b_C_lay_0, b_C_lay_1, qy0, qy1, qy2, qy3, qe, qcn, qin, ↓reduceIte, Nat.reduceEqDiff, Nat.reduceLeDiff, Bool.false_eq_true, Nat.reduceAdd, Nat.reduceSub, Nat.reduceMul, Nat.reduceLT, or_self, or_false, false_or, or_true, true_or, and_self, and_true, true_and, and_false, false_and, not_true_eq_false, not_false_eq_true, t_isKind, t_within, t_isWater, hb, hs]
        · simp (config := {maxSteps := 1000000}) (disch := first | omega | assumption | (simp only [qm_wid_n, qm_wid_I, qm_wid_L, qm_wid_P] <;> omega)) only [e_M_lay, b_M_lay_0, b_M_lay_1, qy0, qy1, qy2, qy3, qe, qcn, qin, ↓reduceIte, Nat.reduceEqDiff, Nat.reduceLeDiff, Bool.false_eq_true, Nat.reduceAdd, Nat.reduceSub, Nat.reduceMul, Nat.reduceLT, or_self, or_false, false_or, or_true, true_or, and_self, and_true, true_and, and_false, false_and, not_true_eq_false, not_false_eq_true, hic s1 h1, t_isIn, hb, hs]
    · refine same ?_ (fun s1 h1 => ?_)
      · simp (config := {maxSteps := 1000000}) (disch := first | omega | assumption | (simp only [qm_wid_n, qm_wid_I, qm_wid_L, qm_wid_P] <;> omega)) only [e_C_lay, b_C_lay_0, b_C_lay_1, qy0, qy1, qy2, qy3, qe, qcn, qin, ↓reduceIte, Nat.reduceEqDiff, Nat.reduceLeDiff, Bool.false_eq_true, Nat.reduceAdd, Nat.reduceSub, Nat.reduceMul, Nat.reduceLT, or_self, or_false, false_or, or_true, true_or, and_self, and_true, true_and, and_false, false_and, not_true_eq_false, not_false_eq_true, t_isKind, hb]
      · simp (config := {maxSteps := 1000000}) (disch := first | omega | assumption | (simp only [qm_wid_n, qm_wid_I, qm_wid_L, qm_wid_P] <;> omega)) only [e_M_lay, b_M_lay_0, b_M_lay_1, qy0, qy1, qy2, qy3, qe, qcn, qin, ↓reduceIte, Nat.reduceEqDiff, Nat.reduceLeDiff, Bool.false_eq_true, Nat.reduceAdd, Nat.reduceSub, Nat.reduceMul, Nat.reduceLT, or_self, or_false, false_or, or_true, true_or, and_self, and_true, true_and, and_false, false_and, not_true_eq_false, not_false_eq_true, hic s1 h1, t_isIn, hb]
  · have hadd := t_add_col (d + 38) hPC okp a b c e hcol
    refine same ?_ (fun s1 h1 => ?_)
    · simp (config := {maxSteps := 1000000}) (disch := first | omega | assumption | (simp only [qm_wid_n, qm_wid_I, qm_wid_L, qm_wid_P] <;> omega)) only [e_C_lay, b_C_lay_0, b_C_lay_1, b_C_lay_2, qy0, qy1, qy2, qy3, qe, qcn, qin, ↓reduceIte, Nat.reduceEqDiff, Nat.reduceLeDiff, Bool.false_eq_true, Nat.reduceAdd, Nat.reduceSub, Nat.reduceMul, Nat.reduceLT, or_self, or_false, false_or, or_true, true_or, and_self, and_true, true_and, and_false, false_and, not_true_eq_false, not_false_eq_true, t_isKind, t_within, t_isWater, t_isFallen, hf9, hadd, ite_self]
    · have hic := r_isCol (d + 38) h1.2.1.1.1 (by omega) a
      simp (config := {maxSteps := 1000000}) (disch := first | omega | assumption | (simp only [qm_wid_n, qm_wid_I, qm_wid_L, qm_wid_P] <;> omega)) only [e_M_lay, b_M_lay_0, b_M_lay_1, qy0, qy1, qy2, qy3, qe, qcn, qin, ↓reduceIte, Nat.reduceEqDiff, Nat.reduceLeDiff, Bool.false_eq_true, Nat.reduceAdd, Nat.reduceSub, Nat.reduceMul, Nat.reduceLT, or_self, or_false, false_or, or_true, true_or, and_self, and_true, true_and, and_false, false_and, not_true_eq_false, not_false_eq_true, hic, hcol]
