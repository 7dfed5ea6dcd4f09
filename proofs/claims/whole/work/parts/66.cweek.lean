/-! the class's week, whole -/
theorem vset_ne {y : VW} {a j : Nat} {v : Int32} {a' j' : Nat} (h : ¬ (a' = a ∧ j' = j)) : vset y a j v a' j' = y a' j' := if_neg h
theorem vset_eq (y : VW) (a j : Nat) (v : Int32) : vset y a j v a j = v := if_pos ⟨rfl, rfl⟩
theorem c_dryAll (d : Nat) {s : qm_Hp} {p w k : Nat} {y : VW} {τ : TX} {W : Nat → Int32} (hP : PC s p w y) (ok : OKP w y) (hL : LC s τ) (okt : OKT τ) (hk : k < 12) (hW : zI s 21 0 k = W 0 ∧ zI s 22 0 k = W 1 ∧ zI s 23 0 k = W 2 ∧ zI s 24 0 k = W 3) : ∃ s', qm_evM (d + 5) jL_dryAll [qP 5 0, qP 3 p, qP 2 0, qI (nI k)] s = some (none, s') ∧ PC s' p w (dryv τ w W y) ∧ fp (PP p) s s' := by
  have hw6 := ok.1.2
  obtain ⟨w1, w2, w3, w4⟩ := hW
  generalize hs1 : uI (uI (uI (uI s 41 0 8 (W 0)) 41 0 9 (W 1)) 41 0 10 (W 2)) 41 0 11 (W 3) = s1
  have f1 : fr [41] s s1 := by
    rw [← hs1]
    repeat' (first | exact fr_refl _ _ | refine fr_uI (by decide) ?_ _ _ _)
  have f1p : fp (PP p) s s1 := PP_sc (fr_mono (fun k hk => by simp only [List.mem_cons, List.not_mem_nil, or_false] at hk ⊢; omega) f1)
  have hW1 : zI s1 41 0 8 = W 0 ∧ zI s1 41 0 9 = W 1 ∧ zI s1 41 0 10 = W 2 ∧ zI s1 41 0 11 = W 3 := by
    rw [← hs1]
    simp only [zI_uI, Nat.reduceEqDiff, and_false, and_true, and_self, ↓reduceIte]
  have hP1 : PC s1 p w (mid τ w W y 0) := by
    have e : mid τ w W y 0 = y := by
      funext a j
      exact mid_ne (Or.inr (Nat.zero_le _))
    rw [e]
    exact PC_fr (K := [41]) (by decide) f1 hP
  obtain ⟨⟨x, g5, g6⟩, e, q1, q2, q3⟩ := q_lp w (fun c (x : qm_Hp × qm_AV × qm_AV) => qm_evB (d + 5) jL_dryAll 2 [qP 5 0, qP 3 p, qP 2 0, qI (nI k), qI (nI c), x.2.1, x.2.2] [] x.1) (fun c x => PC x.1 p w (mid τ w W y (8 * c)) ∧ fp (PP p) s x.1 ∧ (zI x.1 41 0 8 = W 0 ∧ zI x.1 41 0 9 = W 1 ∧ zI x.1 41 0 10 = W 2 ∧ zI x.1 41 0 11 = W 3)) (fun c x hc hx => by
    obtain ⟨x, a5, a6⟩ := x
    obtain ⟨i1, i2, i3⟩ := hx
    have h8 := OK_n ok hc
    obtain ⟨⟨x', b6⟩, e', j1, j2', j3⟩ := q_lp (cn y c) (fun z (x : qm_Hp × qm_AV) => qm_evB (d + 5) jL_dryAll 3 [qP 5 0, qP 3 p, qP 2 0, qI (nI k), qI (nI c), qI (nI z), x.2] [] x.1) (fun z x => PC x.1 p w (mid τ w W y (8 * c + z)) ∧ fp (PP p) s x.1 ∧ (zI x.1 41 0 8 = W 0 ∧ zI x.1 41 0 9 = W 1 ∧ zI x.1 41 0 10 = W 2 ∧ zI x.1 41 0 11 = W 3)) (fun z x hz hx => by
      obtain ⟨x, a6⟩ := x
      obtain ⟨k1, k2, k3⟩ := hx
      have hzc : z < cn (mid τ w W y (8 * c + z)) c := by rw [mid_cn]; exact hz
      obtain ⟨x', v, r1, r2, r3, r4⟩ := c_dried d k1 (mid_ok _ ok) (LC_PP k2 hL) okt hc hzc k3
      have hdr : drd τ (mid τ w W y (8 * c + z)) w W c z = drd τ y w W c z := drd_cong W hc (fun i _ => mid_ne (Or.inl (by decide))) (fun i _ => mid_ne (Or.inl (by decide))) (fun f _ => mid_ne (Or.inr (Nat.le_refl _)))
      have hwt := PC_wt k1 hc hzc
      have hcn := PC_c k1 hc
      rw [mid_cn] at hcn
      rw [hdr] at r2
      refine ⟨(uI x' 13 p (8 * c + z) (drd τ y w W c z), qI (nI (8 * c + z))), ?_, ?_, ?_, ?_⟩
      · refine (b_L_dryAll_3 ..).trans ?_
        simp (config := {maxSteps := 1000000}) (disch := first | omega | assumption | (simp only [qm_wid_n, qm_wid_I, qm_wid_L, qm_wid_P] <;> omega)) only [qy0, qy1, qy2, qy3, qe, qcn, qin, ↓reduceIte, Nat.reduceEqDiff, Nat.reduceLeDiff, Bool.false_eq_true, Nat.reduceAdd, Nat.reduceSub, Nat.reduceMul, Nat.reduceLT, or_self, or_false, false_or, or_true, true_or, and_self, and_true, true_and, and_false, false_and, not_true_eq_false, not_false_eq_true, hcn, t_place, hwt, r1, t_clamp, r2]
      · have := PC_put (PC_fr (K := [41, 42]) (by decide) r3 k1) 2 (8 * c + z) (by decide) (drd τ y w W c z)
        rw [show 2 + 2 = 4 from rfl, mid_s τ w W y c z (by omega)] at this
        exact this
      · exact fp_uI (by unfold PP; omega) (fp_trans k2 (PP_sc r3)) _ _
      · refine ⟨?_, ?_, ?_, ?_⟩
        · rw [zI_uI, if_neg (fun q => by omega), r4 8 (by decide) (by decide)]; exact k3.1
        · rw [zI_uI, if_neg (fun q => by omega), r4 9 (by decide) (by decide)]; exact k3.2.1
        · rw [zI_uI, if_neg (fun q => by omega), r4 10 (by decide) (by decide)]; exact k3.2.2.1
        · rw [zI_uI, if_neg (fun q => by omega), r4 11 (by decide) (by decide)]; exact k3.2.2.2) 0 (x, a6) (Nat.zero_le _) ⟨i1, i2, i3⟩
    have hcn := PC_c j1 hc
    rw [mid_cn] at hcn
    have hww := i1.1
    refine ⟨(x', qI (nI (cn y c)), b6), ?_, ?_, j2', j3⟩
    · refine (b_L_dryAll_2 ..).trans ?_
      simp (config := {maxSteps := 1000000}) (disch := first | omega | assumption | (simp only [qm_wid_n, qm_wid_I, qm_wid_L, qm_wid_P] <;> omega)) only [qy0, qy1, qy2, qy3, qe, qcn, qin, ↓reduceIte, Nat.reduceEqDiff, Nat.reduceLeDiff, Bool.false_eq_true, Nat.reduceAdd, Nat.reduceSub, Nat.reduceMul, Nat.reduceLT, or_self, or_false, false_or, or_true, true_or, and_self, and_true, true_and, and_false, false_and, not_true_eq_false, not_false_eq_true, hww]
      refine e'.trans ?_
      refine (b_L_dryAll_3 ..).trans ?_
      simp (config := {maxSteps := 1000000}) (disch := first | omega | assumption | (simp only [qm_wid_n, qm_wid_I, qm_wid_L, qm_wid_P] <;> omega)) only [b_L_dryAll_4, qy0, qy1, qy2, qy3, qe, qcn, qin, ↓reduceIte, Nat.reduceEqDiff, Nat.reduceLeDiff, Bool.false_eq_true, Nat.reduceAdd, Nat.reduceSub, Nat.reduceMul, Nat.reduceLT, or_self, or_false, false_or, or_true, true_or, and_self, and_true, true_and, and_false, false_and, not_true_eq_false, not_false_eq_true, hcn]
    · exact PC_like (mid_col ok c 8 h8 (Nat.le_refl _)) j1) 0 (s1, qU, qU) (Nat.zero_le _) ⟨hP1, f1p, hW1⟩
  have hww := q1.1
  have hwk : zI x 3 p 8 = y 0 0 := q1.2.1.1
  refine ⟨uI x 3 p 8 (y 0 0 + nI 1), ?_, ?_, fp_uI (by unfold PP; omega) q2 _ _⟩
  · simp (config := {maxSteps := 1000000}) (disch := first | omega | assumption | (simp only [qm_wid_n, qm_wid_I, qm_wid_L, qm_wid_P] <;> omega)) only [e_L_dryAll, b_L_dryAll_0, b_L_dryAll_1, qy0, qy1, qy2, qy3, qe, qcn, qin, ↓reduceIte, Nat.reduceEqDiff, Nat.reduceLeDiff, Bool.false_eq_true, Nat.reduceAdd, Nat.reduceSub, Nat.reduceMul, Nat.reduceLT, or_self, or_false, false_or, or_true, true_or, and_self, and_true, true_and, and_false, false_and, not_true_eq_false, not_false_eq_true, t_within, w1, w2, w3, w4, hs1, zI_uI]
    refine e.trans ?_
    refine (b_L_dryAll_2 ..).trans ?_
    simp (config := {maxSteps := 1000000}) (disch := first | omega | assumption | (simp only [qm_wid_n, qm_wid_I, qm_wid_L, qm_wid_P] <;> omega)) only [b_L_dryAll_5, qy0, qy1, qy2, qy3, qe, qcn, qin, ↓reduceIte, Nat.reduceEqDiff, Nat.reduceLeDiff, Bool.false_eq_true, Nat.reduceAdd, Nat.reduceSub, Nat.reduceMul, Nat.reduceLT, or_self, or_false, false_or, or_true, true_or, and_self, and_true, true_and, and_false, false_and, not_true_eq_false, not_false_eq_true, hww, hwk]
  · refine PC_like ?_ (PC_sc q1 0 (by decide) (y 0 0 + nI 1))
    refine ⟨fun i hi => ?_, fun c hc => ?_, fun f c z hf hc hz => ?_⟩
    · unfold vset dryv
      by_cases h : i = 0
      · subst h; rfl
      · rw [if_neg (by decide), if_neg (fun g => h g.2), if_neg (fun g => h g.2), mid_ne (Or.inl (by decide))]
    · unfold vset dryv
      rw [if_neg (by decide), if_neg (fun g => by omega), if_neg (fun g => by omega), mid_ne (Or.inl (by decide))]
    · rw [cn_vset (by decide), mid_cn] at hz
      have h8 := OK_n ok hc
      rw [vset_ne (by omega)]
      unfold dryv mid
      by_cases q : 2 + f = 4
      · rw [if_pos q, if_pos ⟨q, by omega⟩]
      · rw [if_neg q, if_neg (fun g => by omega), if_neg (fun g => q g.1)]
theorem ok_dry {τ : TX} {w : Nat} {W : Nat → Int32} {y : VW} {k : Nat} (ok : OKP w y) (hk : y 0 0 = nI k) (h : k < 399) : OKP w (dryv τ w W y) := by
  have e : ∀ a j, a ≠ 4 → ¬ (a = 0 ∧ j = 0) → dryv τ w W y a j = y a j := fun a j h1 h2 => by
    unfold dryv; rw [if_neg h1, if_neg h2]
  have hcn : ∀ c, cn (dryv τ w W y) c = cn y c := fun c => by unfold cn; rw [e 1 c (by decide) (by omega)]
  refine ⟨ok.1, ⟨⟨k + 1, by omega, by omega, ?_⟩, ?_, ?_, ?_, ?_⟩, fun c hc => ?_, fun c z hc hz => ?_⟩
  · show y 0 0 + nI 1 = _
    rw [hk, nI_add]
  · rw [e 0 1 (by decide) (by omega)]; exact ok.2.1.2.1
  · rw [e 0 2 (by decide) (by omega)]; exact ok.2.1.2.2.1
  · rw [e 0 3 (by decide) (by omega)]; exact ok.2.1.2.2.2.1
  · rw [e 0 4 (by decide) (by omega)]; exact ok.2.1.2.2.2.2
  · rw [hcn, e 1 c (by decide) (by omega)]; exact ok.2.2.1 c hc
  · rw [hcn] at hz
    have q := ok.2.2.2 c z hc hz
    unfold OKs at *
    rw [e 2 _ (by decide) (by omega), e 3 _ (by decide) (by omega), e 5 _ (by decide) (by omega), e 6 _ (by decide) (by omega), e 7 _ (by decide) (by omega)]
    exact ⟨q.1, q.2.1, drd_rg _ _ _ _ _ _, q.2.2.2⟩
theorem fall_yes {τ : TX} {w : Nat} {y : VW} (h : y 0 1 = N1 ∧ stand τ y w < absI (lean τ y w)) : fallv τ w y = vset y 0 1 (y 0 0) := if_pos h
theorem fall_no {τ : TX} {w : Nat} {y : VW} (h : ¬ (y 0 1 = N1 ∧ stand τ y w < absI (lean τ y w))) : fallv τ w y = y := if_neg h
theorem ok_fall {τ : TX} {w : Nat} {y : VW} (ok : OKP w y) : OKP w (fallv τ w y) := by
  by_cases h : y 0 1 = N1 ∧ stand τ y w < absI (lean τ y w)
  · rw [fall_yes h]
    refine ⟨ok.1, ?_, fun c hc => ?_, fun c z hc hz => ?_⟩
    · rw [vset_eq, vset_ne (j' := 0) (by omega), vset_ne (j' := 2) (by omega), vset_ne (j' := 3) (by omega), vset_ne (j' := 4) (by omega)]
      exact ⟨ok.2.1.1, Or.inr ok.2.1.1, ok.2.1.2.2.1, ok.2.1.2.2.2.1, ok.2.1.2.2.2.2⟩
    · rw [cn_vset (by decide), vset_ne (by omega)]; exact ok.2.2.1 c hc
    · rw [cn_vset (by decide)] at hz
      exact OKs_like (fun f hf => vset_ne (by omega)) (ok.2.2.2 c z hc hz)
  · rw [fall_no h]; exact ok
theorem c_pass (d : Nat) {s : qm_Hp} {p w k i : Nat} {y : VW} {τ : TX} {W : Nat → Int32} (hP : PC s p w y) (ok : OKP w y) (hL : LC s τ) (okt : OKT τ) (hk : k < 12) (hW : zI s 21 0 k = W 0 ∧ zI s 22 0 k = W 1 ∧ zI s 23 0 k = W 2 ∧ zI s 24 0 k = W 3) (hi : y 0 0 = nI i) (hi2 : i < 399) : ∃ s', qm_evM (d + 6) jL_pass [qP 5 0, qP 3 p, qP 2 0, qI (nI k)] s = some (none, s') ∧ PC s' p w (passv τ w W y) ∧ fp (PP p) s s' := by
  have hw := ok.1
  obtain ⟨s1, g1, g2, g3⟩ := c_dryAll d hP ok hL okt hk hW
  have okd := ok_dry (τ := τ) (W := W) ok hi hi2
  unfold passv
  generalize dryv τ w W y = y1 at g2 okd
  have hf1 := g2.2.1.2.1
  have hw1 := g2.1
  by_cases hf : y1 0 1 = N1
  · have hL1 := LC_PP g3 hL
    obtain ⟨s2, a1, a2⟩ := c_height d g2 okd hL1 okt (c := w - 1) (by omega)
    have hP2 := PC_fr (K := [41, 42]) (by decide) a2 g2
    have hL2 := LC_fr (K := [41, 42]) (by decide) a2 hL1
    obtain ⟨s3, b1, b2⟩ := c_height d hP2 okd hL2 okt (c := 0) (by omega)
    have hP3 := PC_fr (K := [41, 42]) (by decide) b2 hP2
    have hL3 := LC_fr (K := [41, 42]) (by decide) b2 hL2
    obtain ⟨s4, c1, c2⟩ := c_stand (d + 1) hP3 okd hL3 okt
    have hP4 := PC_fr (K := [41, 42]) (by decide) c2 hP3
    have f4 : fp (PP p) s s4 := fp_trans g3 (PP_sc (fr_trans a2 (fr_trans b2 c2)))
    have hlean : height τ y1 w (w - 1) - height τ y1 w 0 = lean τ y1 w := rfl
    by_cases hq : stand τ y1 w < absI (lean τ y1 w)
    · have hq' := Int32.not_le.mpr hq
      have hwk := hP4.2.1.1
      refine ⟨uI s4 3 p 9 (y1 0 0), ?_, ?_, fp_uI (by unfold PP; omega) f4 _ _⟩
      · simp (config := {maxSteps := 1000000}) (disch := first | omega | assumption | (simp only [qm_wid_n, qm_wid_I, qm_wid_L, qm_wid_P] <;> omega)) only [e_L_pass, b_L_pass_0, b_L_pass_1, qy0, qy1, qy2, qy3, qe, qcn, qin, ↓reduceIte, Nat.reduceEqDiff, Nat.reduceLeDiff, Bool.false_eq_true, Nat.reduceAdd, Nat.reduceSub, Nat.reduceMul, Nat.reduceLT, or_self, or_false, false_or, or_true, true_or, and_self, and_true, true_and, and_false, false_and, not_true_eq_false, not_false_eq_true, g1, t_isFallen, hf1, hf, hw1, a1, b1, hlean, abs_fold, c1, hq', hwk]
      · rw [fall_yes ⟨hf, hq⟩]
        exact PC_sc hP4 1 (by decide) _
    · have hq' := Int32.not_lt.mp hq
      refine ⟨s4, ?_, ?_, f4⟩
      · simp (config := {maxSteps := 1000000}) (disch := first | omega | assumption | (simp only [qm_wid_n, qm_wid_I, qm_wid_L, qm_wid_P] <;> omega)) only [e_L_pass, b_L_pass_0, b_L_pass_1, qy0, qy1, qy2, qy3, qe, qcn, qin, ↓reduceIte, Nat.reduceEqDiff, Nat.reduceLeDiff, Bool.false_eq_true, Nat.reduceAdd, Nat.reduceSub, Nat.reduceMul, Nat.reduceLT, or_self, or_false, false_or, or_true, true_or, and_self, and_true, true_and, and_false, false_and, not_true_eq_false, not_false_eq_true, g1, t_isFallen, hf1, hf, hw1, a1, b1, hlean, abs_fold, c1, hq']
      · rw [fall_no (fun z => hq z.2)]
        exact hP4
  · refine ⟨s1, ?_, ?_, g3⟩
    · simp (config := {maxSteps := 1000000}) (disch := first | omega | assumption | (simp only [qm_wid_n, qm_wid_I, qm_wid_L, qm_wid_P] <;> omega)) only [e_L_pass, b_L_pass_0, b_L_pass_1, qy0, qy1, qy2, qy3, qe, qcn, qin, ↓reduceIte, Nat.reduceEqDiff, Nat.reduceLeDiff, Bool.false_eq_true, Nat.reduceAdd, Nat.reduceSub, Nat.reduceMul, Nat.reduceLT, or_self, or_false, false_or, or_true, true_or, and_self, and_true, true_and, and_false, false_and, not_true_eq_false, not_false_eq_true, g1, t_isFallen, hf1, hf]
    · rw [fall_no (fun z => hf z.1)]
      exact g2
