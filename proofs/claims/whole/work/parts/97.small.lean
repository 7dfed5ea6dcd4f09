/-! calls: small, falls -/
/-- one split alone -/
def vlo (y : VW) (kd sz wt : Int32) : VW := vadd (vclr y) 0 kd sz wt
theorem vlo_ok {w : Nat} {y : VW} {kd sz wt : Int32} (ok : OKP w y) (h1 : rg kd 0 3) (h2 : rg sz 1 20) (h3 : rg wt 0 2000) : OKP w (vlo y kd sz wt) := OKP_add (OKP_clr ok) (by have := ok.1; omega) (by rw [cn_clr]; decide) h1 h2 h3
theorem cn_lo (y : VW) (kd sz wt : Int32) : cn (vlo y kd sz wt) 0 = 1 := by
  unfold vlo
  rw [cn_vadd (by rw [cn_clr]; decide), if_pos rfl, cn_clr]
def dsq (τ : TX) (w : Nat) (y : VW) : Nat → VW → VW
  | 0, v => v
  | k + 1, v => dryv τ w (Wy y (pln y k)) (dsq τ w y k v)
theorem dry_1 {τ : TX} {w : Nat} {W : Nat → Int32} {v : VW} {a j : Nat} (h : a ≠ 0) (h4 : a ≠ 4) : dryv τ w W v a j = v a j := by
  unfold dryv
  rw [if_neg h4, if_neg (by omega)]
theorem dsq_ok {τ : TX} {w : Nat} {y v : VW} {i n : Nat} (ok : OKP w v) (hi : v 0 0 = nI i) (h : i + n ≤ 399) : ∀ k, k ≤ n → OKP w (dsq τ w y k v) ∧ dsq τ w y k v 0 0 = nI (i + k) ∧ (∀ c, cn (dsq τ w y k v) c = cn v c) ∧ dsq τ w y k v 0 1 = v 0 1
  | 0, _ => ⟨ok, hi, fun _ => rfl, rfl⟩
  | k + 1, hk => by
    obtain ⟨a1, a2, a3, a4⟩ := dsq_ok (τ := τ) (y := y) ok hi h k (by omega)
    refine ⟨ok_dry a1 a2 (by omega), ?_, fun c => ?_, ?_⟩
    · show dsq τ w y k v 0 0 + nI 1 = _
      rw [a2, nI_add]; rfl
    · rw [← a3 c]; unfold cn; rw [show dsq τ w y (k + 1) v 1 c = dsq τ w y k v 1 c from dry_1 (by decide) (by decide)]
    · rw [← a4]; rfl
theorem RC_P2 {s s' : qm_Hp} {w : Nat} {y k : VW} {tp : Nat → Int32} {fd : Nat} {fa pl : Int32} {T : Nat → TX} (hf : fp (PP 2) s s') (hP : zI s' 3 2 0 = nI w) (h : RC s w y k tp fd fa pl T) : RC s' w y k tp fd fa pl T := RC_PPp (by decide) hf hP h
/-- one size tried by the class -/
theorem c_size (d : Nat) {x : qm_Hp} {w n i sz : Nat} {kd wt : Int32} {y k : VW} {tp : Nat → Int32} {fd : Nat} {fa pl : Int32} {T : Nat → TX} (ok : OKG w y k tp fd T) (hR : RC x w y k tp fd fa pl T) (hi : y 0 0 = nI i) (h9 : i + n ≤ 399) (hn : n ≤ 40) (h1 : rg kd 0 3) (h2 : 1 ≤ sz ∧ sz ≤ 20) (h3 : rg wt 0 2000) (p5 : qm_AV) : ∃ x', qm_evB (d + 6) jC_small 3 [qP 1 0, qI kd, qI wt, qI (nI n), qI (nI sz), p5] [] x = qm_evB (d + 6) jC_small 5 [qP 1 0, qI kd, qI wt, qI (nI n), qI (nI sz), qI (nI n)] [] x' ∧ RC x' w y k tp fd fa pl T ∧ fp (PP 2) x x' ∧ zI x' 13 2 0 = dsq (rul T y) w y n (vlo y kd (nI sz) wt) 4 0 := by
  have okp := ok.1.1
  have hw := okp.1
  have hbe := s_become (d + 5) x 2 0
  have hPb := PC_bec hR.1.1 okp (p := 2) (by decide) (hR.2.2.1 2 (by decide))
  have hcl := s_clear (d + 5) (hp_bec x 2 0) 2
  have hPc := PC_clr hPb okp
  have f1 : fp (PP 2) x (uI (hp_clr (hp_bec x 2 0) 2 6) 3 2 9 (-1)) := fp_uI (by unfold PP; omega) (fp_trans (bec_fp x 2 0) (clr_fp _ 2 6)) _ _
  generalize uI (hp_clr (hp_bec x 2 0) 2 6) 3 2 9 (-1) = x1 at hcl hPc f1
  have ok1 := OKP_clr okp
  have hcn0 : cn (vclr y) 0 < 8 := by rw [cn_clr]; decide
  have had := t_add_ok (d + 4) hPc ok1 (c := 0) (by omega) hcn0 kd (nI sz) wt
  have hPa := PC_add hPc ok1 (c := 0) (by omega) hcn0 kd (nI sz) wt
  have f2 : fp (PP 2) x (hp_add x1 2 0 (cn (vclr y) 0) kd (nI sz) wt) := fp_trans f1 (fp_add _ _ _ _ _ _ 2)
  generalize hp_add x1 2 0 (cn (vclr y) 0) kd (nI sz) wt = x2 at had hPa f2
  have okv : OKP w (vlo y kd (nI sz) wt) := vlo_ok okp h1 ⟨sz, h2.1, h2.2, rfl⟩ h3
  have hiv : vlo y kd (nI sz) wt 0 0 = nI i := by
    unfold vlo
    rw [vadd_old (by omega) (by omega), vclr_ne (by omega) (by omega)]; exact hi
  have hPa : PC x2 2 w (vlo y kd (nI sz) wt) := hPa
  obtain ⟨x3, e, q1, q2, q3⟩ := q_lp n (fun j (x : qm_Hp) => qm_evB (d + 6) jC_small 4 [qP 1 0, qI kd, qI wt, qI (nI n), qI (nI sz), qI (nI j)] [] x) (fun j x' => RC x' w y k tp fd fa pl T ∧ PC x' 2 w (dsq (rul T y) w y j (vlo y kd (nI sz) wt)) ∧ fp (PP 2) x x') (fun j x' hj hx => by
    obtain ⟨i1, i2, i3⟩ := hx
    obtain ⟨o1, o2, o3, _⟩ := dsq_ok (τ := rul T y) (y := y) okv hiv h9 j (by omega)
    obtain ⟨ep, hp⟩ := pln_e ok.1.2 (k := j) (by omega)
    have hpl : zI x' 25 0 j = nI (pln y j) := (i1.1.2.2.2.1 j (by omega)).trans ep
    obtain ⟨x4, g1, g2, g3⟩ := c_dryAll d (W := Wy y (pln y j)) i2 o1 (RC_LC i1 ok) (ok_rul ok) hp (Wy_C i1.1.2 hp)
    refine ⟨x4, (b_C_small_4 ..).trans ?_, RC_P2 g3 g2.1 i1, g2, fp_trans i3 g3⟩
    simp (config := {maxSteps := 1000000}) (disch := first | omega | assumption | (simp only [qm_wid_n, qm_wid_I, qm_wid_L, qm_wid_P]; omega) | (simp only [qm_wid_n, qm_wid_I, qm_wid_L, qm_wid_P]; done) | fail) only [qy0, qy1, qy2, qy3, qe, qcn, qin, ↓reduceIte, Nat.reduceEqDiff, Nat.reduceLeDiff, Bool.false_eq_true, Nat.reduceAdd, Nat.reduceSub, Nat.reduceMul, Nat.reduceLT, or_self, or_false, false_or, or_true, true_or, and_self, and_true, true_and, and_false, false_and, not_true_eq_false, not_false_eq_true, hpl, g1]) 0 x2 (Nat.zero_le _) ⟨RC_P2 f2 hPa.1 hR, hPa, f2⟩
  refine ⟨x3, ?_, q1, q3, ?_⟩
  · refine (b_C_small_3 ..).trans ?_
    simp (config := {maxSteps := 1000000}) (disch := first | omega | assumption | (simp only [qm_wid_n, qm_wid_I, qm_wid_L, qm_wid_P]; omega) | (simp only [qm_wid_n, qm_wid_I, qm_wid_L, qm_wid_P]; done) | fail) only [qy0, qy1, qy2, qy3, qe, qcn, qin, ↓reduceIte, Nat.reduceEqDiff, Nat.reduceLeDiff, Bool.false_eq_true, Nat.reduceAdd, Nat.reduceSub, Nat.reduceMul, Nat.reduceLT, or_self, or_false, false_or, or_true, true_or, and_self, and_true, true_and, and_false, false_and, not_true_eq_false, not_false_eq_true, hbe, hcl, had]
    refine e.trans ?_
    refine (b_C_small_4 ..).trans ?_
    simp (config := {maxSteps := 1000000}) (disch := first | omega | assumption | (simp only [qm_wid_n, qm_wid_I, qm_wid_L, qm_wid_P]; omega) | (simp only [qm_wid_n, qm_wid_I, qm_wid_L, qm_wid_P]; done) | fail) only [qy0, qy1, qy2, qy3, qe, qcn, qin, ↓reduceIte, Nat.reduceEqDiff, Nat.reduceLeDiff, Bool.false_eq_true, Nat.reduceAdd, Nat.reduceSub, Nat.reduceMul, Nat.reduceLT, or_self, or_false, false_or, or_true, true_or, and_self, and_true, true_and, and_false, false_and, not_true_eq_false, not_false_eq_true]
  · have o3 := (dsq_ok (τ := rul T y) (y := y) okv hiv h9 n (Nat.le_refl _)).2.2.1
    have := PC_wt q2 (c := 0) (z := 0) (by omega) (by rw [o3, cn_lo]; decide)
    exact this
/-- the greatest size, from sz down, that is dry -/
def smf (F : Nat → Int32) : Nat → Int32
  | 0 => N1
  | sz + 1 => if F (sz + 1) ≤ nI 200 then nI (sz + 1) else smf F sz
theorem c_small_l (d : Nat) {s : qm_Hp} {w n i : Nat} {kd wt : Int32} {y k : VW} {tp : Nat → Int32} {fd : Nat} {fa pl : Int32} {T : Nat → TX} (ok : OKG w y k tp fd T) (hi : y 0 0 = nI i) (h9 : i + n ≤ 399) (hn : n ≤ 40) (h1 : rg kd 0 3) (h3 : rg wt 0 2000) : ∀ sz x p5, sz ≤ 20 → RC x w y k tp fd fa pl T → fp (PP 2) s x → ∃ x', qm_evB (d + 6) jC_small 3 [qP 1 0, qI kd, qI wt, qI (nI n), qI (nI sz), p5] [] x = some (some (qI (smf (fun sz => dsq (rul T y) w y n (vlo y kd (nI sz) wt) 4 0) sz)), x') ∧ RC x' w y k tp fd fa pl T ∧ fp (PP 2) s x' := by
  intro sz
  induction sz with
  | zero =>
    intro x p5 _ hR hf
    refine ⟨x, (b_C_small_3 ..).trans ?_, hR, hf⟩
    simp (config := {maxSteps := 1000000}) (disch := first | omega | assumption | (simp only [qm_wid_n, qm_wid_I, qm_wid_L, qm_wid_P]; omega) | (simp only [qm_wid_n, qm_wid_I, qm_wid_L, qm_wid_P]; done) | fail) only [b_C_small_7, qy0, qy1, qy2, qy3, qe, qcn, qin, ↓reduceIte, Nat.reduceEqDiff, Nat.reduceLeDiff, Bool.false_eq_true, Nat.reduceAdd, Nat.reduceSub, Nat.reduceMul, Nat.reduceLT, or_self, or_false, false_or, or_true, true_or, and_self, and_true, true_and, and_false, false_and, not_true_eq_false, not_false_eq_true, smf]
  | succ sz ih =>
    intro x p5 hs hR hf
    obtain ⟨x1, e1, e2, e3, e4⟩ := c_size d ok hR hi h9 hn h1 (sz := sz + 1) ⟨by omega, hs⟩ h3 p5
    unfold smf
    by_cases hq : dsq (rul T y) w y n (vlo y kd (nI (sz + 1)) wt) 4 0 ≤ nI 200
    · rw [if_pos hq]
      refine ⟨x1, e1.trans ((b_C_small_5 ..).trans ?_), e2, fp_trans hf e3⟩
      simp (config := {maxSteps := 1000000}) (disch := first | omega | assumption | (simp only [qm_wid_n, qm_wid_I, qm_wid_L, qm_wid_P]; omega) | (simp only [qm_wid_n, qm_wid_I, qm_wid_L, qm_wid_P]; done) | fail) only [qy0, qy1, qy2, qy3, qe, qcn, qin, ↓reduceIte, Nat.reduceEqDiff, Nat.reduceLeDiff, Bool.false_eq_true, Nat.reduceAdd, Nat.reduceSub, Nat.reduceMul, Nat.reduceLT, or_self, or_false, false_or, or_true, true_or, and_self, and_true, true_and, and_false, false_and, not_true_eq_false, not_false_eq_true, e4, t_isDry, hq]
    · rw [if_neg hq]
      obtain ⟨x2, g1, g2, g3⟩ := ih x1 (qI (nI n)) (by omega) e2 (fp_trans hf e3)
      refine ⟨x2, e1.trans ?_, g2, g3⟩
      rw [← g1]
      refine (b_C_small_5 ..).trans ?_
      have e0 : sz + 1 - 1 = sz := rfl
      simp (config := {maxSteps := 1000000}) (disch := first | omega | assumption | (simp only [qm_wid_n, qm_wid_I, qm_wid_L, qm_wid_P]; omega) | (simp only [qm_wid_n, qm_wid_I, qm_wid_L, qm_wid_P]; done) | fail) only [b_C_small_6, qy0, qy1, qy2, qy3, qe, qcn, qin, ↓reduceIte, Nat.reduceEqDiff, Nat.reduceLeDiff, Bool.false_eq_true, Nat.reduceAdd, Nat.reduceSub, Nat.reduceMul, Nat.reduceLT, or_self, or_false, false_or, or_true, true_or, and_self, and_true, true_and, and_false, false_and, not_true_eq_false, not_false_eq_true, e4, t_isDry, hq, e0]
/-- goOn where a split is alone -/
theorem r_goL (d : Nat) {x : qm_Hp} {b w i n : Nat} {v y k : VW} {tp : Nat → Int32} {fd : Nat} {fa pl : Int32} {T : Nat → TX} (ok : OKG w y k tp fd T) (hL : LM x (rul T y)) (hY : YM x 0 w y) (hb1 : zI x 9 0 2 = nI b) (h27 : zI x 9 0 27 = nI 1) (hb : 840 ≤ b) (hb2 : b ≤ 2940) (hP : PM x b w v) (okv : OKP w v) (hi : v 0 0 = nI i) (h9 : i + n ≤ 399) (hn : n ≤ 40) (hv1 : v 0 1 = N1) : ∃ x', qm_evM (d + 8) jM_goOn [qP 9 0, qI (nI n)] x = some (some (qI (nI (n + 1))), x') ∧ PM x' b w (dsq (rul T y) w y n v) ∧ fm b x x' := by
  have hw := ok.1.1.1.2
  have hm1 : (N1 < nI 0) = True := eq_true (by decide)
  obtain ⟨x1, e, q2, q3⟩ := q_lp n (fun j (x : qm_Hp) => qm_evB (d + 8) jM_goOn 3 [qP 9 0, qI (nI n), qI (nI (n + 1)), qI (nI j)] [] x) (fun j x' => PM x' b w (dsq (rul T y) w y j v) ∧ fm b x x') (fun j x' hj hx => by
    obtain ⟨i2, i3⟩ := hx
    obtain ⟨o1, o2, o3, o4⟩ := dsq_ok (τ := rul T y) (y := y) okv hi h9 j (by omega)
    obtain ⟨ep, hp⟩ := pln_e ok.1.2 (k := j) (by omega)
    have hYx : YM x' 0 w y := YM_tr hw (fun j hj => i3.2 _ (by omega) (by omega) (by omega)) hY
    have hpl : zI x' 61 0 (70 + j) = nI (pln y j) := by
      have := hYx.2.2.1 j (by omega)
      rw [Nat.zero_add] at this
      exact this.trans ep
    have hbx : zI x' 9 0 2 = nI b := (fm_9 i3 2).trans hb1
    obtain ⟨x2, g1, g3, g4⟩ := r_dryT d (fa := fa) (pl := pl) ok (LM_fm i3 (by omega) hL) hYx hbx ((fm_9 i3 27).trans h27) hb2 i2 o1 hp
    have hb' : zI x2 9 0 2 = nI b := (fm_9 g4 2).trans hbx
    have h7 : zI x2 61 0 (b + 7) = N1 := by rw [g3.2.1.2.1]; show dsq (rul T y) w y j v 0 1 = N1; rw [o4, hv1]
    refine ⟨x2, (b_M_goOn_3 ..).trans ?_, g3, fm_trans i3 g4⟩
    simp (config := {maxSteps := 1000000}) (disch := first | omega | assumption | (simp only [qm_wid_n, qm_wid_I, qm_wid_L, qm_wid_P]; omega) | (simp only [qm_wid_n, qm_wid_I, qm_wid_L, qm_wid_P]; done) | fail) only [b_M_goOn_4, qy0, qy1, qy2, qy3, qe, qcn, qin, ↓reduceIte, Nat.reduceEqDiff, Nat.reduceLeDiff, Bool.false_eq_true, Nat.reduceAdd, Nat.reduceSub, Nat.reduceMul, Nat.reduceLT, or_self, or_false, false_or, or_true, true_or, and_self, and_true, true_and, and_false, false_and, not_true_eq_false, not_false_eq_true, hpl, g1, hb', h7, hm1]) 0 x (Nat.zero_le _) ⟨hP, fm_refl _ _⟩
  refine ⟨x1, ?_, q2, q3⟩
  have h7 : zI x 61 0 (b + 7) = N1 := by rw [hP.2.1.2.1, hv1]
  simp (config := {maxSteps := 1000000}) (disch := first | omega | assumption | (simp only [qm_wid_n, qm_wid_I, qm_wid_L, qm_wid_P]; omega) | (simp only [qm_wid_n, qm_wid_I, qm_wid_L, qm_wid_P]; done) | fail) only [e_M_goOn, b_M_goOn_0, b_M_goOn_1, b_M_goOn_2, qy0, qy1, qy2, qy3, qe, qcn, qin, ↓reduceIte, Nat.reduceEqDiff, Nat.reduceLeDiff, Bool.false_eq_true, Nat.reduceAdd, Nat.reduceSub, Nat.reduceMul, Nat.reduceLT, or_self, or_false, false_or, or_true, true_or, and_self, and_true, true_and, and_false, false_and, not_true_eq_false, not_false_eq_true, hb1, h7, hm1]
  refine e.trans ?_
  simp (config := {maxSteps := 1000000}) (disch := first | omega | assumption | (simp only [qm_wid_n, qm_wid_I, qm_wid_L, qm_wid_P]; omega) | (simp only [qm_wid_n, qm_wid_I, qm_wid_L, qm_wid_P]; done) | fail) only [b_M_goOn_3, b_M_goOn_5, qy0, qy1, qy2, qy3, qe, qcn, qin, ↓reduceIte, Nat.reduceEqDiff, Nat.reduceLeDiff, Bool.false_eq_true, Nat.reduceAdd, Nat.reduceSub, Nat.reduceMul, Nat.reduceLT, or_self, or_false, false_or, or_true, true_or, and_self, and_true, true_and, and_false, false_and, not_true_eq_false, not_false_eq_true]
/-- one size tried by the reference -/
theorem r_size (d : Nat) {x : qm_Hp} {b w n i sz : Nat} {kd wt : Int32} {y k : VW} {tp : Nat → Int32} {fd : Nat} {fa pl : Int32} {T : Nat → TX} (ok : OKG w y k tp fd T) (hR : RT x b w y k tp fd fa pl T) (hi : y 0 0 = nI i) (h9 : i + n ≤ 399) (hn : n ≤ 40) (h1 : rg kd 0 3) (h2 : 1 ≤ sz ∧ sz ≤ 20) (h3 : rg wt 0 2000) (p6 : qm_AV) : ∃ x', qm_evB (d + 9) jM_small 3 [qP 9 0, qI kd, qI wt, qI (nI n), qI N1, qI (nI sz), p6] [] x = qm_evB (d + 9) jM_small 3 [qP 9 0, qI kd, qI wt, qI (nI n), qI (if dsq (rul T y) w y n (vlo y kd (nI sz) wt) 4 0 ≤ nI 200 then nI sz else N1), qI (nI (sz - 1)), qI (nI w)] [] x' ∧ RT x' 840 w y k tp fd fa pl T ∧ fp MP x x' := by
  have okp := ok.1.1
  have hw := okp.1
  have hcp := m_copy (d + 8) x 0 2 (by decide) (by decide) (by decide)
  have hX1 : RT (uI (uC x 61 0 0 61 0 840 420) 9 0 2 (nI 840)) 840 w y k tp fd fa pl T := RT_copy ok 0 2 (by decide) 840 hR
  have hP1 : PM (uI (uC x 61 0 0 61 0 840 420) 9 0 2 (nI 840)) 840 w y := PM_copy okp 0 2 840 (RT_PM0 ok hR)
  have f1 : fp MP x (uI (uC x 61 0 0 61 0 840 420) 9 0 2 (nI 840)) := fp_uI (by unfold MP; omega) (mp_uC _ _ _ _) _ _
  have hnn : (nI 0 ≤ N1) = False := eq_false (by decide)
  have est : qm_evB (d + 9) jM_small 3 [qP 9 0, qI kd, qI wt, qI (nI n), qI N1, qI (nI sz), p6] [] x = qm_evB (d + 9) jM_small 4 [qP 9 0, qI kd, qI wt, qI (nI n), qI N1, qI (nI sz), qI (nI 0)] [] (uI (uC x 61 0 0 61 0 840 420) 9 0 2 (nI 840)) := by
    refine (b_M_small_3 ..).trans ?_
    simp (config := {maxSteps := 1000000}) (disch := first | omega | assumption | (simp only [qm_wid_n, qm_wid_I, qm_wid_L, qm_wid_P]; omega) | (simp only [qm_wid_n, qm_wid_I, qm_wid_L, qm_wid_P]; done) | fail) only [qy0, qy1, qy2, qy3, qe, qcn, qin, ↓reduceIte, Nat.reduceEqDiff, Nat.reduceLeDiff, Bool.false_eq_true, Nat.reduceAdd, Nat.reduceSub, Nat.reduceMul, Nat.reduceLT, or_self, or_false, false_or, or_true, true_or, and_self, and_true, true_and, and_false, false_and, not_true_eq_false, not_false_eq_true, hcp, r_tries, hnn]
  generalize uI (uC x 61 0 0 61 0 840 420) 9 0 2 (nI 840) = X1 at hX1 hP1 f1 est
  have hl := q_up (w := w) (fun c => qm_evB (d + 9) jM_small 4 [qP 9 0, qI kd, qI wt, qI (nI n), qI N1, qI (nI sz), qI (nI c)] [] (hm_clr X1 840 c)) rfl (fun c hc => by
    have hw9 : zI (hm_clr X1 840 c) 9 0 1 = nI w := ((mclr_fr X1 840 c).1 9 0 1 (by decide)).trans (RT_w hX1)
    have hb9 : zI (hm_clr X1 840 c) 9 0 2 = nI 840 := ((mclr_fr X1 840 c).1 9 0 2 (by decide)).trans hX1.1
    refine (b_M_small_4 ..).trans ?_
    simp (config := {maxSteps := 1000000}) (disch := first | omega | assumption | (simp only [qm_wid_n, qm_wid_I, qm_wid_L, qm_wid_P]; omega) | (simp only [qm_wid_n, qm_wid_I, qm_wid_L, qm_wid_P]; done) | fail) only [qy0, qy1, qy2, qy3, qe, qcn, qin, ↓reduceIte, Nat.reduceEqDiff, Nat.reduceLeDiff, Bool.false_eq_true, Nat.reduceAdd, Nat.reduceSub, Nat.reduceMul, Nat.reduceLT, or_self, or_false, false_or, or_true, true_or, and_self, and_true, true_and, and_false, false_and, not_true_eq_false, not_false_eq_true, hw9, hb9, hm_clr]) 0 (Nat.zero_le _)
  have hP2 := PM_clr hP1 okp
  have ok1 := OKP_clr okp
  have hcn0 : cn (vclr y) 0 < 8 := by rw [cn_clr]; decide
  have hb9 : zI (hm_clr X1 840 w) 9 0 2 = nI 840 := ((mclr_fr X1 840 w).1 9 0 2 (by decide)).trans hX1.1
  have hw9 : zI (hm_clr X1 840 w) 9 0 1 = nI w := ((mclr_fr X1 840 w).1 9 0 1 (by decide)).trans (RT_w hX1)
  have e847 : ∀ j, zI (hm_clr X1 840 w) 9 0 j = zI X1 9 0 j := fun j => (mclr_fr X1 840 w).1 9 0 j (by decide)
  have hR2 : RT (uI (hm_clr X1 840 w) 61 0 847 N1) 840 w y k tp fd fa pl T := RT_e ok 840 hb9 (fun j _ => e847 j) (fun j hj => by rw [zI_uI, if_neg (by omega), mclr_e, if_neg (by omega)]) (fun j => (mclr_fr X1 840 w).1 62 0 j (by decide)) (fun j => (mclr_fr X1 840 w).1 63 0 j (by decide)) hX1
  have f2 : fp MP x (uI (hm_clr X1 840 w) 61 0 847 N1) := mp_uu (fp_trans f1 (fp_fr (fun k i hk => by simp only [List.mem_cons, List.not_mem_nil, or_false] at hk; unfold MP; omega) (mclr_fr X1 840 w))) _ _
  have hP2 : PM (uI (hm_clr X1 840 w) 61 0 847 N1) 840 w (vclr y) := hP2
  have est2 : qm_evB (d + 9) jM_small 4 [qP 9 0, qI kd, qI wt, qI (nI n), qI N1, qI (nI sz), qI (nI w)] [] (hm_clr X1 840 w) = qm_evB (d + 9) jM_small 5 [qP 9 0, qI kd, qI wt, qI (nI n), qI N1, qI (nI sz), qI (nI w)] [] (hm_clr X1 840 w) := by
    refine (b_M_small_4 ..).trans ?_
    simp (config := {maxSteps := 1000000}) (disch := first | omega | assumption | (simp only [qm_wid_n, qm_wid_I, qm_wid_L, qm_wid_P]; omega) | (simp only [qm_wid_n, qm_wid_I, qm_wid_L, qm_wid_P]; done) | fail) only [qy0, qy1, qy2, qy3, qe, qcn, qin, ↓reduceIte, Nat.reduceEqDiff, Nat.reduceLeDiff, Bool.false_eq_true, Nat.reduceAdd, Nat.reduceSub, Nat.reduceMul, Nat.reduceLT, or_self, or_false, false_or, or_true, true_or, and_self, and_true, true_and, and_false, false_and, not_true_eq_false, not_false_eq_true, hw9]
  generalize hm_clr X1 840 w = X2 at hl hb9 hw9 e847 hR2 f2 hP2 est2
  have hput := r_put (d + 7) hP2 ok1 hR2.1 (by decide) (c := 0) (by omega) hcn0 kd (nI sz) wt
  have hP3 := PM_add hP2 ok1 (c := 0) (by omega) hcn0 kd (nI sz) wt
  have hR3 : RT (hm_add (uI X2 61 0 847 N1) 840 0 (cn (vclr y) 0) kd (nI sz) wt) 840 w y k tp fd fa pl T := RT_e ok 840 (by unfold hm_add; simp only [zI_uI, Nat.reduceEqDiff, false_and, ↓reduceIte]; exact hb9) (fun j _ => by unfold hm_add; simp only [zI_uI, Nat.reduceEqDiff, false_and, ↓reduceIte]) (fun j hj => hm_add_e _ _ _ _ _ _ _ _ (by omega) (by omega)) (fun j => by unfold hm_add; simp only [zI_uI, Nat.reduceEqDiff, false_and, ↓reduceIte]) (fun j => by unfold hm_add; simp only [zI_uI, Nat.reduceEqDiff, false_and, ↓reduceIte]) hR2
  have f3 : fp MP x (hm_add (uI X2 61 0 847 N1) 840 0 (cn (vclr y) 0) kd (nI sz) wt) := fp_trans f2 (mp_add _ _ _ _ _ _ _)
  generalize hm_add (uI X2 61 0 847 N1) 840 0 (cn (vclr y) 0) kd (nI sz) wt = X3 at hput hP3 hR3 f3
  have okv : OKP w (vlo y kd (nI sz) wt) := vlo_ok okp h1 ⟨sz, h2.1, h2.2, rfl⟩ h3
  have hiv : vlo y kd (nI sz) wt 0 0 = nI i := by
    unfold vlo
    rw [vadd_old (by omega) (by omega), vclr_ne (by omega) (by omega)]; exact hi
  have hP3 : PM X3 840 w (vlo y kd (nI sz) wt) := hP3
  have hP4 : PM (uI X3 9 0 27 (nI 1)) 840 w (vlo y kd (nI sz) wt) := PM_tr okv (by rw [zI_uI, if_neg (by decide)]; exact hP3.1) (fun j hj => rfl) hP3
  obtain ⟨X4, g1, g2, g3⟩ := r_goL d (fa := fa) (pl := pl) ok (x := uI X3 9 0 27 (nI 1)) (LM_eq (s := X3) rfl (fun j => rfl) (RT_LM ok hR3)) (YM_tr (s := X3) hw.2 (fun j hj => rfl) (RT_YM hw.2 hR3)) (by rw [zI_uI, if_neg (by decide)]; exact hR3.1) (by rw [zI_uI, if_pos ⟨rfl, rfl, rfl⟩]) (by decide) (by decide) hP4 okv hiv h9 hn (by unfold vlo; rw [vadd_old (by omega) (by omega)]; rfl)
  have o := dsq_ok (τ := rul T y) (y := y) okv hiv h9 n (Nat.le_refl _)
  have e9 : ∀ j, j ≠ 27 → zI (uI X4 9 0 27 (nI 0)) 9 0 j = zI X3 9 0 j := fun j hj => by rw [zI_uI, if_neg (by omega), fm_9 g3 j, zI_uI, if_neg (by omega)]
  have hR5 : RT (uI X4 9 0 27 (nI 0)) 840 w y k tp fd fa pl T := RT_e (x := X3) (x' := uI X4 9 0 27 (nI 0)) ok 840 ((e9 2 (by decide)).trans hR3.1) (fun j hj => by
    by_cases q : j = 27
    · rw [q, zI_uI, if_pos ⟨rfl, rfl, rfl⟩]; exact (RT_27 hR3).symm
    · exact e9 j q) (fun j hj => g3.2 j (by omega) (by omega) (by omega)) (fun j => g3.1.1 62 0 j (by decide)) (fun j => g3.1.1 63 0 j (by decide)) hR3
  have hP5 : PM (uI X4 9 0 27 (nI 0)) 840 w (dsq (rul T y) w y n (vlo y kd (nI sz) wt)) := PM_tr o.1 (by rw [zI_uI, if_neg (by decide)]; exact g2.1) (fun j hj => rfl) g2
  have hdr := r_isDry (d + 7) hP5 o.1 hR5.1 (by decide) (c := 0) (z := 0) (by omega) (by rw [o.2.2.1, cn_lo]; decide)
  have f5 : fp MP x (uI X4 9 0 27 (nI 0)) := fp_uI (by unfold MP; omega) (fp_trans (fp_uI (by unfold MP; omega) f3 _ _) (fm_MP g3)) _ _
  refine ⟨uI X4 9 0 27 (nI 0), ?_, hR5, f5⟩
  refine est.trans (hl.trans (est2.trans ?_))
  refine (b_M_small_5 ..).trans ?_
  have hdr : qm_evM (d + 8) jM_isDry [qP 9 0, qI (nI 0), qI (nI 0)] (uI X4 9 0 27 (nI 0)) = some (some (qI (if dsq (rul T y) w y n (vlo y kd (nI sz) wt) 4 0 ≤ nI 200 then nI 1 else nI 0)), uI X4 9 0 27 (nI 0)) := hdr
  by_cases hq : dsq (rul T y) w y n (vlo y kd (nI sz) wt) 4 0 ≤ nI 200
  · simp (config := {maxSteps := 1000000}) (disch := first | omega | assumption | (simp only [qm_wid_n, qm_wid_I, qm_wid_L, qm_wid_P]; omega) | (simp only [qm_wid_n, qm_wid_I, qm_wid_L, qm_wid_P]; done) | fail) only [b_M_small_6, qy0, qy1, qy2, qy3, qe, qcn, qin, ↓reduceIte, Nat.reduceEqDiff, Nat.reduceLeDiff, Bool.false_eq_true, Nat.reduceAdd, Nat.reduceSub, Nat.reduceMul, Nat.reduceLT, or_self, or_false, false_or, or_true, true_or, and_self, and_true, true_and, and_false, false_and, not_true_eq_false, not_false_eq_true, hb9, hput, g1, hdr, hq]
  · simp (config := {maxSteps := 1000000}) (disch := first | omega | assumption | (simp only [qm_wid_n, qm_wid_I, qm_wid_L, qm_wid_P]; omega) | (simp only [qm_wid_n, qm_wid_I, qm_wid_L, qm_wid_P]; done) | fail) only [b_M_small_6, qy0, qy1, qy2, qy3, qe, qcn, qin, ↓reduceIte, Nat.reduceEqDiff, Nat.reduceLeDiff, Bool.false_eq_true, Nat.reduceAdd, Nat.reduceSub, Nat.reduceMul, Nat.reduceLT, or_self, or_false, false_or, or_true, true_or, and_self, and_true, true_and, and_false, false_and, not_true_eq_false, not_false_eq_true, hb9, hput, g1, hdr, hq]
theorem r_small_l (d : Nat) {s : qm_Hp} {w n i : Nat} {kd wt : Int32} {y k : VW} {tp : Nat → Int32} {fd : Nat} {fa pl : Int32} {T : Nat → TX} (ok : OKG w y k tp fd T) (hi : y 0 0 = nI i) (h9 : i + n ≤ 399) (hn : n ≤ 40) (h1 : rg kd 0 3) (h3 : rg wt 0 2000) : ∀ sz b x p6, sz ≤ 20 → RT x b w y k tp fd fa pl T → fp MP s x → ∃ x', qm_evB (d + 9) jM_small 3 [qP 9 0, qI kd, qI wt, qI (nI n), qI N1, qI (nI sz), p6] [] x = some (some (qI (smf (fun sz => dsq (rul T y) w y n (vlo y kd (nI sz) wt) 4 0) sz)), x') ∧ RM x' w y k tp fd fa pl T ∧ fp MP s x' := by
  intro sz
  induction sz with
  | zero =>
    intro b x p6 _ hR hf
    refine ⟨uI x 9 0 2 (nI 0), (b_M_small_3 ..).trans ?_, hR.2, fp_uI (by unfold MP; omega) hf _ _⟩
    simp (config := {maxSteps := 1000000}) (disch := first | omega | assumption | (simp only [qm_wid_n, qm_wid_I, qm_wid_L, qm_wid_P]; omega) | (simp only [qm_wid_n, qm_wid_I, qm_wid_L, qm_wid_P]; done) | fail) only [b_M_small_7, qy0, qy1, qy2, qy3, qe, qcn, qin, ↓reduceIte, Nat.reduceEqDiff, Nat.reduceLeDiff, Bool.false_eq_true, Nat.reduceAdd, Nat.reduceSub, Nat.reduceMul, Nat.reduceLT, or_self, or_false, false_or, or_true, true_or, and_self, and_true, true_and, and_false, false_and, not_true_eq_false, not_false_eq_true, smf, r_tries]
  | succ sz ih =>
    intro b x p6 hs hR hf
    obtain ⟨x1, e1, e2, e3⟩ := r_size d ok hR hi h9 hn h1 (sz := sz + 1) ⟨by omega, hs⟩ h3 p6
    unfold smf
    by_cases hq : dsq (rul T y) w y n (vlo y kd (nI (sz + 1)) wt) 4 0 ≤ nI 200
    · rw [if_pos hq] at e1 ⊢
      refine ⟨uI x1 9 0 2 (nI 0), e1.trans ((b_M_small_3 ..).trans ?_), e2.2, fp_uI (by unfold MP; omega) (fp_trans hf e3) _ _⟩
      by_cases h0 : sz = 0
      · subst h0
        simp (config := {maxSteps := 1000000}) (disch := first | omega | assumption | (simp only [qm_wid_n, qm_wid_I, qm_wid_L, qm_wid_P]; omega) | (simp only [qm_wid_n, qm_wid_I, qm_wid_L, qm_wid_P]; done) | fail) only [b_M_small_7, qy0, qy1, qy2, qy3, qe, qcn, qin, ↓reduceIte, Nat.reduceEqDiff, Nat.reduceLeDiff, Bool.false_eq_true, Nat.reduceAdd, Nat.reduceSub, Nat.reduceMul, Nat.reduceLT, or_self, or_false, false_or, or_true, true_or, and_self, and_true, true_and, and_false, false_and, not_true_eq_false, not_false_eq_true, r_tries]
      · simp (config := {maxSteps := 1000000}) (disch := first | omega | assumption | (simp only [qm_wid_n, qm_wid_I, qm_wid_L, qm_wid_P]; omega) | (simp only [qm_wid_n, qm_wid_I, qm_wid_L, qm_wid_P]; done) | fail) only [b_M_small_7, qy0, qy1, qy2, qy3, qe, qcn, qin, ↓reduceIte, Nat.reduceEqDiff, Nat.reduceLeDiff, Bool.false_eq_true, Nat.reduceAdd, Nat.reduceSub, Nat.reduceMul, Nat.reduceLT, or_self, or_false, false_or, or_true, true_or, and_self, and_true, true_and, and_false, false_and, not_true_eq_false, not_false_eq_true, r_tries]
    · rw [if_neg hq] at e1 ⊢
      obtain ⟨x2, g1, g2, g3⟩ := ih 840 x1 (qI (nI w)) (by omega) e2 (fp_trans hf e3)
      exact ⟨x2, e1.trans g1, g2, g3⟩
theorem c_small_s (d : Nat) {s : qm_Hp} {n : Int32} {kd wt : Int32} (h1 : nI 0 ≤ kd ∧ kd ≤ nI 3) (h3 : nI 0 ≤ wt ∧ wt ≤ nI 2000) (hct : qm_evM (d + 39) jC_canTry [qP 1 0, qI n] s = some (some (qI (nI 1)), s)) : qm_evM (d + 40) jC_small [qP 1 0, qI kd, qI wt, qI n] s = qm_evB (d + 40) jC_small 3 [qP 1 0, qI kd, qI wt, qI n, qI (nI 20), qU] [] s := by
  simp (config := {maxSteps := 1000000}) (disch := first | omega | assumption | (simp only [qm_wid_n, qm_wid_I, qm_wid_L, qm_wid_P]; omega) | (simp only [qm_wid_n, qm_wid_I, qm_wid_L, qm_wid_P]; done) | fail) only [e_C_small, b_C_small_0, b_C_small_2, qy0, qy1, qy2, qy3, qe, qcn, qin, ↓reduceIte, Nat.reduceEqDiff, Nat.reduceLeDiff, Bool.false_eq_true, Nat.reduceAdd, Nat.reduceSub, Nat.reduceMul, Nat.reduceLT, or_self, or_false, false_or, or_true, true_or, and_self, and_true, true_and, and_false, false_and, not_true_eq_false, not_false_eq_true, t_isKind, t_isWater, h1, h3, hct]
theorem c_small_n (d : Nat) {s : qm_Hp} {n : Int32} {kd wt : Int32} {rv : Nat} (r0 : rv = 0 ∨ rv = 1) (hct : qm_evM (d + 39) jC_canTry [qP 1 0, qI n] s = some (some (qI (nI rv)), s)) (h : ¬ (nI 0 ≤ kd ∧ kd ≤ nI 3) ∨ ¬ (nI 0 ≤ wt ∧ wt ≤ nI 2000) ∨ rv = 0) : qm_evM (d + 40) jC_small [qP 1 0, qI kd, qI wt, qI n] s = some (some (qI N1), s) := by
  by_cases h1 : nI 0 ≤ kd ∧ kd ≤ nI 3
  · by_cases h3 : nI 0 ≤ wt ∧ wt ≤ nI 2000
    · have hr : rv = 0 := (h.resolve_left (fun g => g h1)).resolve_left (fun g => g h3)
      subst hr
      simp (config := {maxSteps := 1000000}) (disch := first | omega | assumption | (simp only [qm_wid_n, qm_wid_I, qm_wid_L, qm_wid_P]; omega) | (simp only [qm_wid_n, qm_wid_I, qm_wid_L, qm_wid_P]; done) | fail) only [e_C_small, b_C_small_0, b_C_small_1, qy0, qy1, qy2, qy3, qe, qcn, qin, ↓reduceIte, Nat.reduceEqDiff, Nat.reduceLeDiff, Bool.false_eq_true, Nat.reduceAdd, Nat.reduceSub, Nat.reduceMul, Nat.reduceLT, or_self, or_false, false_or, or_true, true_or, and_self, and_true, true_and, and_false, false_and, not_true_eq_false, not_false_eq_true, t_isKind, t_isWater, h1, h3, hct]
    · simp (config := {maxSteps := 1000000}) (disch := first | omega | assumption | (simp only [qm_wid_n, qm_wid_I, qm_wid_L, qm_wid_P]; omega) | (simp only [qm_wid_n, qm_wid_I, qm_wid_L, qm_wid_P]; done) | fail) only [e_C_small, b_C_small_0, b_C_small_1, qy0, qy1, qy2, qy3, qe, qcn, qin, ↓reduceIte, Nat.reduceEqDiff, Nat.reduceLeDiff, Bool.false_eq_true, Nat.reduceAdd, Nat.reduceSub, Nat.reduceMul, Nat.reduceLT, or_self, or_false, false_or, or_true, true_or, and_self, and_true, true_and, and_false, false_and, not_true_eq_false, not_false_eq_true, t_isKind, t_isWater, h1, h3]
  · simp (config := {maxSteps := 1000000}) (disch := first | omega | assumption | (simp only [qm_wid_n, qm_wid_I, qm_wid_L, qm_wid_P]; omega) | (simp only [qm_wid_n, qm_wid_I, qm_wid_L, qm_wid_P]; done) | fail) only [e_C_small, b_C_small_0, b_C_small_1, qy0, qy1, qy2, qy3, qe, qcn, qin, ↓reduceIte, Nat.reduceEqDiff, Nat.reduceLeDiff, Bool.false_eq_true, Nat.reduceAdd, Nat.reduceSub, Nat.reduceMul, Nat.reduceLT, or_self, or_false, false_or, or_true, true_or, and_self, and_true, true_and, and_false, false_and, not_true_eq_false, not_false_eq_true, t_isKind, h1]
theorem r_small_s (d : Nat) {s : qm_Hp} {n : Int32} {kd wt : Int32} (h1 : nI 0 ≤ kd ∧ kd ≤ nI 3) (h3 : nI 0 ≤ wt ∧ wt ≤ nI 2000) (hct : qm_evM (d + 39) jM_isTried [qP 9 0, qI n, qI (nI 40)] s = some (some (qI (nI 1)), s)) : qm_evM (d + 40) jM_small [qP 9 0, qI kd, qI wt, qI n] s = qm_evB (d + 40) jM_small 3 [qP 9 0, qI kd, qI wt, qI n, qI N1, qI (nI 20), qU] [] s := by
  simp (config := {maxSteps := 1000000}) (disch := first | omega | assumption | (simp only [qm_wid_n, qm_wid_I, qm_wid_L, qm_wid_P]; omega) | (simp only [qm_wid_n, qm_wid_I, qm_wid_L, qm_wid_P]; done) | fail) only [e_M_small, b_M_small_0, b_M_small_2, qy0, qy1, qy2, qy3, qe, qcn, qin, ↓reduceIte, Nat.reduceEqDiff, Nat.reduceLeDiff, Bool.false_eq_true, Nat.reduceAdd, Nat.reduceSub, Nat.reduceMul, Nat.reduceLT, or_self, or_false, false_or, or_true, true_or, and_self, and_true, true_and, and_false, false_and, not_true_eq_false, not_false_eq_true, t_isIn, h1, h3, hct]
theorem r_small_n (d : Nat) {s : qm_Hp} {n : Int32} {kd wt : Int32} {rv : Nat} (r0 : rv = 0 ∨ rv = 1) (hct : qm_evM (d + 39) jM_isTried [qP 9 0, qI n, qI (nI 40)] s = some (some (qI (nI rv)), s)) (h : ¬ (nI 0 ≤ kd ∧ kd ≤ nI 3) ∨ ¬ (nI 0 ≤ wt ∧ wt ≤ nI 2000) ∨ rv = 0) : qm_evM (d + 40) jM_small [qP 9 0, qI kd, qI wt, qI n] s = some (some (qI N1), s) := by
  rcases r0 with rfl | rfl
  · simp (config := {maxSteps := 1000000}) (disch := first | omega | assumption | (simp only [qm_wid_n, qm_wid_I, qm_wid_L, qm_wid_P]; omega) | (simp only [qm_wid_n, qm_wid_I, qm_wid_L, qm_wid_P]; done) | fail) only [e_M_small, b_M_small_0, b_M_small_1, qy0, qy1, qy2, qy3, qe, qcn, qin, ↓reduceIte, Nat.reduceEqDiff, Nat.reduceLeDiff, Bool.false_eq_true, Nat.reduceAdd, Nat.reduceSub, Nat.reduceMul, Nat.reduceLT, or_self, or_false, false_or, or_true, true_or, and_self, and_true, true_and, and_false, false_and, not_true_eq_false, not_false_eq_true, hct]
  · by_cases h1 : nI 0 ≤ kd ∧ kd ≤ nI 3
    · have h3 : ¬ (nI 0 ≤ wt ∧ wt ≤ nI 2000) := (h.resolve_left (fun g => g h1)).resolve_right (by decide)
      simp (config := {maxSteps := 1000000}) (disch := first | omega | assumption | (simp only [qm_wid_n, qm_wid_I, qm_wid_L, qm_wid_P]; omega) | (simp only [qm_wid_n, qm_wid_I, qm_wid_L, qm_wid_P]; done) | fail) only [e_M_small, b_M_small_0, b_M_small_1, qy0, qy1, qy2, qy3, qe, qcn, qin, ↓reduceIte, Nat.reduceEqDiff, Nat.reduceLeDiff, Bool.false_eq_true, Nat.reduceAdd, Nat.reduceSub, Nat.reduceMul, Nat.reduceLT, or_self, or_false, false_or, or_true, true_or, and_self, and_true, true_and, and_false, false_and, not_true_eq_false, not_false_eq_true, hct, t_isIn, h1, h3]
    · simp (config := {maxSteps := 1000000}) (disch := first | omega | assumption | (simp only [qm_wid_n, qm_wid_I, qm_wid_L, qm_wid_P]; omega) | (simp only [qm_wid_n, qm_wid_I, qm_wid_L, qm_wid_P]; done) | fail) only [e_M_small, b_M_small_0, b_M_small_1, qy0, qy1, qy2, qy3, qe, qcn, qin, ↓reduceIte, Nat.reduceEqDiff, Nat.reduceLeDiff, Bool.false_eq_true, Nat.reduceAdd, Nat.reduceSub, Nat.reduceMul, Nat.reduceLT, or_self, or_false, false_or, or_true, true_or, and_self, and_true, true_and, and_false, false_and, not_true_eq_false, not_false_eq_true, hct, t_isIn, h1]
theorem st_small (d : Nat) (kd wt n : Int32) : STP (d + 40) jC_small jM_small [qI kd, qI wt, qI n] := by
  refine stp_rw fun s w y k tp fd fa pl T hC hM ok => ?_
  have okp := ok.1.1
  obtain ⟨nw, _, hnw, enw⟩ := ok.1.2.1
  obtain ⟨wk, _, hwk, ewk⟩ := okp.2.1.1
  have h5 : zI s 2 0 5 = nI nw := hC.1.2.1.1.trans enw
  have h8 : zI s 3 0 8 = nI wk := hC.1.1.2.1.1.trans ewk
  have m1 : ∀ s1, RM s1 w y k tp fd fa pl T → zI s1 61 0 1 = nI nw := fun s1 g => g.2.1.2.1.1.trans enw
  have m0 : ∀ s1, RM s1 w y k tp fd fa pl T → zI s1 61 0 0 = nI wk := fun s1 g => g.2.1.1.2.1.1.trans ewk
  rcases cpt_d nw wk n with ⟨m, rfl, hm, q1, q2⟩ | hq
  · have hct := t_canTry_y (d + 38) h5 h8 hnw hm q1 q2
    have mt : ∀ s1, RM s1 w y k tp fd fa pl T → _ := fun s1 g => r_isTried_y (d + 38) (s := s1) (M := 40) (m1 s1 g) (m0 s1 g) hnw (by decide) hm q1 q2
    by_cases hg : (nI 0 ≤ kd ∧ kd ≤ nI 3) ∧ (nI 0 ≤ wt ∧ wt ≤ nI 2000)
    · have r1 := inr_rg (by decide) hg.1.1 hg.1.2 (by decide)
      have r3 := inr_rg (by decide) hg.2.1 hg.2.2 (by decide)
      obtain ⟨x, e1, e2, e3⟩ := c_small_l (d + 34) (s := s) ok ewk q2 hm r1 r3 20 s qU (by decide) hC (fp_refl _ _)
      refine ⟨_, y, k, tp, fd, fa, pl, T, ok, ⟨x, (c_small_s d hg.1 hg.2 hct).trans e1, PP_CP e3, e2⟩, fun s1 h1 => ?_⟩
      obtain ⟨x', b1, b2, b3⟩ := r_small_l (d + 31) (s := s1) ok ewk q2 hm r1 r3 20 0 s1 qU (by decide) (RT_0 ok h1) (fp_refl _ _)
      exact ⟨x', (r_small_s d hg.1 hg.2 (mt s1 h1)).trans b1, b3, b2⟩
    · have hg' : ¬ (nI 0 ≤ kd ∧ kd ≤ nI 3) ∨ ¬ (nI 0 ≤ wt ∧ wt ≤ nI 2000) ∨ (1 : Nat) = 0 := by
        by_cases g : nI 0 ≤ kd ∧ kd ≤ nI 3
        · exact Or.inr (Or.inl (fun z => hg ⟨g, z⟩))
        · exact Or.inl g
      exact nochg ok hC N1 (c_small_n d (Or.inr rfl) hct hg') (fun s1 h1 => r_small_n d (Or.inr rfl) (mt s1 h1) hg')
  · have hct := t_canTry_n (d + 38) h5 h8 hnw hwk hq
    have mt : ∀ s1, RM s1 w y k tp fd fa pl T → _ := fun s1 g => r_isTried_n (d + 38) (s := s1) (M := 40) (m1 s1 g) (m0 s1 g) hnw hwk (by decide) hq
    exact nochg ok hC N1 (c_small_n d (Or.inl rfl) hct (Or.inr (Or.inr rfl))) (fun s1 h1 => r_small_n d (Or.inl rfl) (mt s1 h1) (Or.inr (Or.inr rfl)))
