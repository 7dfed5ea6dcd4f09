/-! calls: bark, measure, span, weather, plan, ends -/
theorem nochg {D fC fM : Nat} {as : List qm_AV} {s : qm_Hp} {w : Nat} {y k : VW} {tp : Nat → Int32} {fd : Nat} {fa pl : Int32} {T : Nat → TX} (ok : OKG w y k tp fd T) (hC : RC s w y k tp fd fa pl T) (r : Int32) (g1 : qm_evM D fC (qP 1 0 :: as) s = some (some (qI r), s)) (g2 : ∀ s1, RM s1 w y k tp fd fa pl T → qm_evM D fM (qP 9 0 :: as) s1 = some (some (qI r), s1)) : ∃ r y' k' tp' fd' fa' pl' T', OKG w y' k' tp' fd' T' ∧ (∃ s1, qm_evM D fC (qP 1 0 :: as) s = some (some (qI r), s1) ∧ fp CP s s1 ∧ RC s1 w y' k' tp' fd' fa' pl' T') ∧ (∀ s1, RM s1 w y k tp fd fa pl T → ∃ s2, qm_evM D fM (qP 9 0 :: as) s1 = some (some (qI r), s2) ∧ fp MP s1 s2 ∧ RM s2 w y' k' tp' fd' fa' pl' T') :=
  ⟨r, y, k, tp, fd, fa, pl, T, ok, ⟨s, g1, fp_refl _ _, hC⟩, fun s1 h1 => ⟨s1, g2 s1 h1, fp_refl _ _, h1⟩⟩
def sp (w : Nat) (y : VW) (a b : Int32) : Prop := ∃ c z, c < w ∧ z < cn y c ∧ a = nI c ∧ b = nI z
theorem t_holds_y (d : Nat) {s : qm_Hp} {p w c z : Nat} {y : VW} (hP : PC s p w y) (ok : OKP w y) (hc : c < w) (hz : z < cn y c) : qm_evM d jP_holds [qP 3 p, qI (nI c), qI (nI z)] s = some (some (qI (nI 1)), s) := by
  have hw := ok.1
  have h8 := OK_n ok hc
  rw [s_holds d s p w (nI c) (nI z) hP.1 hw.2, nI_clamp (by omega), PC_c hP hc, if_pos ⟨⟨nI_pos' (by omega), nI_lt hc (by omega)⟩, nI_pos' (by omega), nI_lt hz (by omega)⟩]
  rfl
theorem t_holds_n (d : Nat) {s : qm_Hp} {p w : Nat} {y : VW} {a b : Int32} (hP : PC s p w y) (ok : OKP w y) (h : ¬ sp w y a b) : qm_evM d jP_holds [qP 3 p, qI a, qI b] s = some (some (qI (nI 0)), s) := by
  have hw := ok.1
  rw [s_holds d s p w a b hP.1 hw.2, if_neg]
  · rfl
  · rintro ⟨⟨h1, h2⟩, h3, h4⟩
    obtain ⟨c, hc, rfl⟩ := nI_of (Int32.not_lt.mpr h1)
    obtain ⟨z, hz, rfl⟩ := nI_of (Int32.not_lt.mpr h3)
    have hcw : c < w := (nI_ltI hc (by omega)).mp h2
    have h8 := OK_n ok hcw
    rw [nI_clamp (by omega), PC_c hP hcw] at h4
    exact h ⟨c, z, hcw, (nI_ltI hz (by omega)).mp h4, rfl, rfl⟩
theorem r_isSplit_y (d : Nat) {s : qm_Hp} {b w c z : Nat} {y : VW} (hP : PM s b w y) (ok : OKP w y) (hb : zI s 9 0 2 = nI b) (hb2 : b ≤ 2940) (hc : c < w) (hz : z < cn y c) : qm_evM (d + 2) jM_isSplit [qP 9 0, qI (nI c), qI (nI z)] s = some (some (qI (nI 1)), s) := by
  have hw := ok.1
  have h8 := OK_n ok hc
  have hct := r_count (d + 1) hP ok hb hb2 hc
  have hic := r_isCol d hP.1 (by omega) (nI c)
  simp (config := {maxSteps := 1000000}) (disch := first | omega | assumption | (simp only [qm_wid_n, qm_wid_I, qm_wid_L, qm_wid_P] <;> omega)) only [e_M_isSplit, b_M_isSplit_0, b_M_isSplit_1, b_M_isSplit_2, qy0, qy1, qy2, qy3, qe, qcn, qin, ↓reduceIte, Nat.reduceEqDiff, Nat.reduceLeDiff, Bool.false_eq_true, Nat.reduceAdd, Nat.reduceSub, Nat.reduceMul, Nat.reduceLT, or_self, or_false, false_or, or_true, true_or, and_self, and_true, true_and, and_false, false_and, not_true_eq_false, not_false_eq_true, hic, t_isIn, hct]
theorem r_isSplit_n (d : Nat) {s : qm_Hp} {b w : Nat} {y : VW} {a e : Int32} (hP : PM s b w y) (ok : OKP w y) (hb : zI s 9 0 2 = nI b) (hb2 : b ≤ 2940) (h : ¬ sp w y a e) : qm_evM (d + 2) jM_isSplit [qP 9 0, qI a, qI e] s = some (some (qI (nI 0)), s) := by
  have hw := ok.1
  rcases col_or a w (by omega) with ⟨c, hc, rfl⟩ | hcol
  · have h8 := OK_n ok hc
    have hct := r_count (d + 1) hP ok hb hb2 hc
    have hic := r_isCol d hP.1 (by omega) (nI c)
    have hn : ¬ (nI 0 ≤ e ∧ e ≤ nI (cn y c) - nI 1) := by
      rintro ⟨h1, h2⟩
      obtain ⟨z, hz, rfl⟩ := nI_of (Int32.not_lt.mpr h1)
      by_cases h0 : 0 < cn y c
      · rw [pk_sub (by omega), nI_leI hz (by omega)] at h2
        exact h ⟨c, z, hc, by omega, rfl, rfl⟩
      · have : cn y c = 0 := by omega
        rw [this] at h2
        have h9 := pk_sneg (a := 0) (b := 1) (by decide) (by decide)
        rw [fa_le, nI_toInt hz] at h2
        rw [fa_lt] at h9
        have : (0 : Int32).toInt = 0 := rfl
        omega
    by_cases h0 : 0 < cn y c
    · rw [pk_sub (by omega)] at hn
      simp (config := {maxSteps := 1000000}) (disch := first | omega | assumption | (simp only [qm_wid_n, qm_wid_I, qm_wid_L, qm_wid_P] <;> omega)) only [e_M_isSplit, b_M_isSplit_0, b_M_isSplit_1, b_M_isSplit_2, qy0, qy1, qy2, qy3, qe, qcn, qin, ↓reduceIte, Nat.reduceEqDiff, Nat.reduceLeDiff, Bool.false_eq_true, Nat.reduceAdd, Nat.reduceSub, Nat.reduceMul, Nat.reduceLT, or_self, or_false, false_or, or_true, true_or, and_self, and_true, true_and, and_false, false_and, not_true_eq_false, not_false_eq_true, hic, t_isIn, hct, hn]
    · have h00 : cn y c = 0 := by omega
      rw [h00] at hn hct
      simp (config := {maxSteps := 1000000}) (disch := first | omega | assumption | (simp only [qm_wid_n, qm_wid_I, qm_wid_L, qm_wid_P] <;> omega)) only [e_M_isSplit, b_M_isSplit_0, b_M_isSplit_1, b_M_isSplit_2, qy0, qy1, qy2, qy3, qe, qcn, qin, ↓reduceIte, Nat.reduceEqDiff, Nat.reduceLeDiff, Bool.false_eq_true, Nat.reduceAdd, Nat.reduceSub, Nat.reduceMul, Nat.reduceLT, or_self, or_false, false_or, or_true, true_or, and_self, and_true, true_and, and_false, false_and, not_true_eq_false, not_false_eq_true, hic, t_isIn, hct, hn]
  · have hic := r_isCol d hP.1 (by omega) a
    simp (config := {maxSteps := 1000000}) (disch := first | omega | assumption | (simp only [qm_wid_n, qm_wid_I, qm_wid_L, qm_wid_P] <;> omega)) only [e_M_isSplit, b_M_isSplit_0, b_M_isSplit_1, b_M_isSplit_2, qy0, qy1, qy2, qy3, qe, qcn, qin, ↓reduceIte, Nat.reduceEqDiff, Nat.reduceLeDiff, Bool.false_eq_true, Nat.reduceAdd, Nat.reduceSub, Nat.reduceMul, Nat.reduceLT, or_self, or_false, false_or, or_true, true_or, and_self, and_true, true_and, and_false, false_and, not_true_eq_false, not_false_eq_true, hic, hcol]
theorem OKs_bark {y : VW} {j j' : Nat} {v : Int32} (hv : rg v 0 1) (h : OKs y j') : OKs (vset y 5 j v) j' := by
  unfold OKs at *
  rw [vset_ne (a' := 2) (by omega), vset_ne (a' := 3) (by omega), vset_ne (a' := 4) (by omega), vset_ne (a' := 6) (by omega), vset_ne (a' := 7) (by omega)]
  refine ⟨h.1, h.2.1, h.2.2.1, ?_, h.2.2.2.2⟩
  by_cases q : j' = j
  · rw [q, vset_eq]; exact hv
  · rw [vset_ne (by omega)]; exact h.2.2.2.1
theorem OKP_bark {w j : Nat} {y : VW} {v : Int32} (hv : rg v 0 1) (ok : OKP w y) : OKP w (vset y 5 j v) := by
  refine ⟨ok.1, ?_, fun c hc => ?_, fun c z hc hz => ?_⟩
  · rw [vset_ne (by omega), vset_ne (by omega), vset_ne (by omega), vset_ne (by omega), vset_ne (by omega)]; exact ok.2.1
  · rw [cn_vset (by decide), vset_ne (by omega)]; exact ok.2.2.1 c hc
  · rw [cn_vset (by decide)] at hz
    exact OKs_bark hv (ok.2.2.2 c z hc hz)
theorem fp_u1 {p k j : Nat} (s : qm_Hp) (v : Int32) (h : k = 3 ∨ (11 ≤ k ∧ k ≤ 17)) : fp (PP p) s (uI s k p j v) := fp_uI (by unfold PP; omega) (fp_refl _ _) _ _
theorem mp_u61 (s : qm_Hp) (j : Nat) (v : Int32) : fp MP s (uI s 61 0 j v) := fp_uI (by unfold MP; omega) (fp_refl _ _) _ _
theorem RM_u61 {s : qm_Hp} {w : Nat} {y y' k : VW} {tp : Nat → Int32} {fd : Nat} {fa pl : Int32} {T : Nat → TX} (hw : w ≤ 6) {j : Nat} (v : Int32) (hj : ¬ ((1 ≤ j ∧ j < 4) ∨ (8 ≤ j ∧ j < 120) ∨ 420 ≤ j)) (hP : PM (uI s 61 0 j v) 0 w y') (hv : vp y y') (h : RM s w y k tp fd fa pl T) : RM (uI s 61 0 j v) w y' k tp fd fa pl T :=
  RM_pile hw (fun i _ => by rw [zI_uI, if_neg (by omega)]) (fun i hi => by rw [zI_uI, if_neg (by omega)]) (fun i => by rw [zI_uI, if_neg (by omega)]) (fun i => by rw [zI_uI, if_neg (by omega)]) hP hv h
theorem st_bark (d : Nat) (a b : Int32) (u : Nat) (hu : u = 0 ∨ u = 1) : STP (d + 40) jC_bark jM_bark [qI a, qI b, qI (nI u)] := by
  refine stp_rw fun s w y k tp fd fa pl T hC hM ok => ?_
  have okp := ok.1.1
  have hw := okp.1
  have hPC := hC.1.1
  by_cases hsp : sp w y a b
  · obtain ⟨c, z, hc, hz, rfl, rfl⟩ := hsp
    have h8 := OK_n okp hc
    have hh := t_holds_y (d + 39) hPC okp hc hz
    refine ⟨nI 1, vset y 5 (8 * c + z) (nI u), k, tp, fd, fa, pl, T, OKG_pile (OKP_bark ⟨u, by omega, by omega, rfl⟩ okp) (vp_set (by omega)) ok, ⟨uI s 14 0 (8 * c + z) (nI u), ?_, PP_CP (p := 0) (fp_u1 _ _ (by omega)), RC_pile (fp_u1 _ _ (by omega)) (PC_put hPC 3 (8 * c + z) (by decide) (nI u)) (vp_set (by omega)) hC⟩, fun s1 h1 => ⟨uI s1 61 0 (0 + 130 + 6 * (8 * c + z) + 3) (nI u), ?_, mp_u61 _ _ _, RM_u61 hw.2 _ (by omega) (PM_put h1.2.1.1 okp 3 (8 * c + z) (by decide) (nI u)) (vp_set (by omega)) h1⟩⟩
    · rcases hu with rfl | rfl
      · simp (config := {maxSteps := 1000000}) (disch := first | omega | assumption | (simp only [qm_wid_n, qm_wid_I, qm_wid_L, qm_wid_P] <;> omega)) only [e_C_bark, b_C_bark_0, b_C_bark_1, b_C_bark_2, b_C_bark_3, qy0, qy1, qy2, qy3, qe, qcn, qin, ↓reduceIte, Nat.reduceEqDiff, Nat.reduceLeDiff, Bool.false_eq_true, Nat.reduceAdd, Nat.reduceSub, Nat.reduceMul, Nat.reduceLT, or_self, or_false, false_or, or_true, true_or, and_self, and_true, true_and, and_false, false_and, not_true_eq_false, not_false_eq_true, hh, t_place]
      · simp (config := {maxSteps := 1000000}) (disch := first | omega | assumption | (simp only [qm_wid_n, qm_wid_I, qm_wid_L, qm_wid_P] <;> omega)) only [e_C_bark, b_C_bark_0, b_C_bark_1, b_C_bark_2, b_C_bark_3, qy0, qy1, qy2, qy3, qe, qcn, qin, ↓reduceIte, Nat.reduceEqDiff, Nat.reduceLeDiff, Bool.false_eq_true, Nat.reduceAdd, Nat.reduceSub, Nat.reduceMul, Nat.reduceLT, or_self, or_false, false_or, or_true, true_or, and_self, and_true, true_and, and_false, false_and, not_true_eq_false, not_false_eq_true, hh, t_place]
    · have his := r_isSplit_y (d + 37) h1.2.1.1 okp h1.1.1 (by decide) hc hz
      have hat := r_at0 (d + 39) h1.1.1 c z
      rcases hu with rfl | rfl
      · simp (config := {maxSteps := 1000000}) (disch := first | omega | assumption | (simp only [qm_wid_n, qm_wid_I, qm_wid_L, qm_wid_P] <;> omega)) only [e_M_bark, b_M_bark_0, b_M_bark_1, b_M_bark_2, b_M_bark_3, qy0, qy1, qy2, qy3, qe, qcn, qin, ↓reduceIte, Nat.reduceEqDiff, Nat.reduceLeDiff, Bool.false_eq_true, Nat.reduceAdd, Nat.reduceSub, Nat.reduceMul, Nat.reduceLT, or_self, or_false, false_or, or_true, true_or, and_self, and_true, true_and, and_false, false_and, not_true_eq_false, not_false_eq_true, his, hat]
      · simp (config := {maxSteps := 1000000}) (disch := first | omega | assumption | (simp only [qm_wid_n, qm_wid_I, qm_wid_L, qm_wid_P] <;> omega)) only [e_M_bark, b_M_bark_0, b_M_bark_1, b_M_bark_2, b_M_bark_3, qy0, qy1, qy2, qy3, qe, qcn, qin, ↓reduceIte, Nat.reduceEqDiff, Nat.reduceLeDiff, Bool.false_eq_true, Nat.reduceAdd, Nat.reduceSub, Nat.reduceMul, Nat.reduceLT, or_self, or_false, false_or, or_true, true_or, and_self, and_true, true_and, and_false, false_and, not_true_eq_false, not_false_eq_true, his, hat]
  · have hh := t_holds_n (d + 39) hPC okp hsp
    refine nochg ok hC (nI 0) ?_ (fun s1 h1 => ?_)
    · simp (config := {maxSteps := 1000000}) (disch := first | omega | assumption | (simp only [qm_wid_n, qm_wid_I, qm_wid_L, qm_wid_P] <;> omega)) only [e_C_bark, b_C_bark_0, b_C_bark_1, b_C_bark_2, b_C_bark_3, qy0, qy1, qy2, qy3, qe, qcn, qin, ↓reduceIte, Nat.reduceEqDiff, Nat.reduceLeDiff, Bool.false_eq_true, Nat.reduceAdd, Nat.reduceSub, Nat.reduceMul, Nat.reduceLT, or_self, or_false, false_or, or_true, true_or, and_self, and_true, true_and, and_false, false_and, not_true_eq_false, not_false_eq_true, hh]
    · have his := r_isSplit_n (d + 37) h1.2.1.1 okp h1.1.1 (by decide) hsp
      simp (config := {maxSteps := 1000000}) (disch := first | omega | assumption | (simp only [qm_wid_n, qm_wid_I, qm_wid_L, qm_wid_P] <;> omega)) only [e_M_bark, b_M_bark_0, b_M_bark_1, b_M_bark_2, b_M_bark_3, qy0, qy1, qy2, qy3, qe, qcn, qin, ↓reduceIte, Nat.reduceEqDiff, Nat.reduceLeDiff, Bool.false_eq_true, Nat.reduceAdd, Nat.reduceSub, Nat.reduceMul, Nat.reduceLT, or_self, or_false, false_or, or_true, true_or, and_self, and_true, true_and, and_false, false_and, not_true_eq_false, not_false_eq_true, his]
/-- low and high water -/
def spn (a b : Int32) : Prop := (nI 0 ≤ a ∧ a ≤ nI 2000) ∧ (nI 0 ≤ b ∧ b ≤ nI 2000) ∧ a ≤ b
theorem t_isSpan (d : Nat) (s : qm_Hp) (a b : Int32) : qm_evM (d + 2) jC_isSpan [qI a, qI b] s = some (some (qI (if (nI 0 ≤ a ∧ a ≤ nI 2000) ∧ (nI 0 ≤ b ∧ b ≤ nI 2000) ∧ a ≤ b then nI 1 else nI 0)), s) := by
  by_cases h1 : nI 0 ≤ a ∧ a ≤ nI 2000
  · by_cases h2 : nI 0 ≤ b ∧ b ≤ nI 2000
    · by_cases h3 : a ≤ b
      · have h3' := Int32.not_lt.mpr h3
        simp (config := {maxSteps := 1000000}) (disch := first | omega | assumption | (simp only [qm_wid_n, qm_wid_I, qm_wid_L, qm_wid_P] <;> omega)) only [e_C_isSpan, b_C_isSpan_0, b_C_isSpan_1, b_C_isSpan_2, qy0, qy1, qy2, qy3, qe, qcn, qin, ↓reduceIte, Nat.reduceEqDiff, Nat.reduceLeDiff, Bool.false_eq_true, Nat.reduceAdd, Nat.reduceSub, Nat.reduceMul, Nat.reduceLT, or_self, or_false, false_or, or_true, true_or, and_self, and_true, true_and, and_false, false_and, not_true_eq_false, not_false_eq_true, t_isWater, h1, h2, h3, h3']
      · have h3' := Int32.not_le.mp h3
        simp (config := {maxSteps := 1000000}) (disch := first | omega | assumption | (simp only [qm_wid_n, qm_wid_I, qm_wid_L, qm_wid_P] <;> omega)) only [e_C_isSpan, b_C_isSpan_0, b_C_isSpan_1, b_C_isSpan_2, qy0, qy1, qy2, qy3, qe, qcn, qin, ↓reduceIte, Nat.reduceEqDiff, Nat.reduceLeDiff, Bool.false_eq_true, Nat.reduceAdd, Nat.reduceSub, Nat.reduceMul, Nat.reduceLT, or_self, or_false, false_or, or_true, true_or, and_self, and_true, true_and, and_false, false_and, not_true_eq_false, not_false_eq_true, t_isWater, h1, h2, h3, h3']
    · simp (config := {maxSteps := 1000000}) (disch := first | omega | assumption | (simp only [qm_wid_n, qm_wid_I, qm_wid_L, qm_wid_P] <;> omega)) only [e_C_isSpan, b_C_isSpan_0, b_C_isSpan_1, b_C_isSpan_2, qy0, qy1, qy2, qy3, qe, qcn, qin, ↓reduceIte, Nat.reduceEqDiff, Nat.reduceLeDiff, Bool.false_eq_true, Nat.reduceAdd, Nat.reduceSub, Nat.reduceMul, Nat.reduceLT, or_self, or_false, false_or, or_true, true_or, and_self, and_true, true_and, and_false, false_and, not_true_eq_false, not_false_eq_true, t_isWater, h1, h2]
  · simp (config := {maxSteps := 1000000}) (disch := first | omega | assumption | (simp only [qm_wid_n, qm_wid_I, qm_wid_L, qm_wid_P] <;> omega)) only [e_C_isSpan, b_C_isSpan_0, b_C_isSpan_1, b_C_isSpan_2, qy0, qy1, qy2, qy3, qe, qcn, qin, ↓reduceIte, Nat.reduceEqDiff, Nat.reduceLeDiff, Bool.false_eq_true, Nat.reduceAdd, Nat.reduceSub, Nat.reduceMul, Nat.reduceLT, or_self, or_false, false_or, or_true, true_or, and_self, and_true, true_and, and_false, false_and, not_true_eq_false, not_false_eq_true, t_isWater, h1]
theorem r_isSpan (d : Nat) (s : qm_Hp) (a b : Int32) : qm_evM (d + 1) jM_isSpan [qI a, qI b] s = some (some (qI (if (nI 0 ≤ a ∧ a ≤ nI 2000) ∧ (nI 0 ≤ b ∧ b ≤ nI 2000) ∧ a ≤ b then nI 1 else nI 0)), s) := by
  have e : (((nI 0 ≤ a ∧ a ≤ b) ∧ (a ≤ b ∧ b ≤ nI 2000)) ↔ ((nI 0 ≤ a ∧ a ≤ nI 2000) ∧ (nI 0 ≤ b ∧ b ≤ nI 2000) ∧ a ≤ b)) := by
    simp only [fa_le]
    omega
  by_cases h1 : nI 0 ≤ a ∧ a ≤ b
  · by_cases h2 : a ≤ b ∧ b ≤ nI 2000
    · rw [if_pos (e.mp ⟨h1, h2⟩)]
      simp (config := {maxSteps := 1000000}) (disch := first | omega | assumption | (simp only [qm_wid_n, qm_wid_I, qm_wid_L, qm_wid_P] <;> omega)) only [e_M_isSpan, b_M_isSpan_0, b_M_isSpan_1, b_M_isSpan_2, qy0, qy1, qy2, qy3, qe, qcn, qin, ↓reduceIte, Nat.reduceEqDiff, Nat.reduceLeDiff, Bool.false_eq_true, Nat.reduceAdd, Nat.reduceSub, Nat.reduceMul, Nat.reduceLT, or_self, or_false, false_or, or_true, true_or, and_self, and_true, true_and, and_false, false_and, not_true_eq_false, not_false_eq_true, t_isIn, h1, h2]
    · rw [if_neg (fun g => h2 (e.mpr g).2)]
      have h1a := h1.1
      have h1b := h1.2
      have h2b : ¬ b ≤ nI 2000 := fun g => h2 ⟨h1.2, g⟩
      simp (config := {maxSteps := 1000000}) (disch := first | omega | assumption | (simp only [qm_wid_n, qm_wid_I, qm_wid_L, qm_wid_P] <;> omega)) only [e_M_isSpan, b_M_isSpan_0, b_M_isSpan_1, b_M_isSpan_2, qy0, qy1, qy2, qy3, qe, qcn, qin, ↓reduceIte, Nat.reduceEqDiff, Nat.reduceLeDiff, Bool.false_eq_true, Nat.reduceAdd, Nat.reduceSub, Nat.reduceMul, Nat.reduceLT, or_self, or_false, false_or, or_true, true_or, and_self, and_true, true_and, and_false, false_and, not_true_eq_false, not_false_eq_true, t_isIn, h1a, h1b, h2b]
  · rw [if_neg (fun g => h1 (e.mpr g).1)]
    simp (config := {maxSteps := 1000000}) (disch := first | omega | assumption | (simp only [qm_wid_n, qm_wid_I, qm_wid_L, qm_wid_P] <;> omega)) only [e_M_isSpan, b_M_isSpan_0, b_M_isSpan_1, b_M_isSpan_2, qy0, qy1, qy2, qy3, qe, qcn, qin, ↓reduceIte, Nat.reduceEqDiff, Nat.reduceLeDiff, Bool.false_eq_true, Nat.reduceAdd, Nat.reduceSub, Nat.reduceMul, Nat.reduceLT, or_self, or_false, false_or, or_true, true_or, and_self, and_true, true_and, and_false, false_and, not_true_eq_false, not_false_eq_true, t_isIn, h1]
