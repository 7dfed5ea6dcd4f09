/-! the call way: the reference's tries, the best of eight -/
theorem r_tryWays (d : Nat) {s : qm_Hp} {w n i : Nat} {y k : VW} {tp : Nat → Int32} {fd : Nat} {fa pl : Int32} {T : Nat → TX} (ok : OKG w y k tp fd T) (hR : RM s w y k tp fd fa pl T) (hi : y 0 0 = nI i) (h9 : i + n ≤ 399) (hn : n ≤ 40) : ∃ x', qm_evM (d + 9) jM_tryWays [qP 9 0, qI (nI n)] s = some (none, x') ∧ RM x' w y k tp fd fa pl T ∧ fp MP s x' ∧ (∀ m, m < 8 → zI x' 72 0 m = wd (rul T y) w y n m ∧ zI x' 73 0 m = ws (rul T y) w y n m) := by
  have okp := ok.1.1
  have hw6 := okp.1.2
  obtain ⟨⟨x1, x3, x4⟩, e, ⟨b1, q1⟩, q2, q3⟩ := q_lp 8 (fun m (x : qm_Hp × qm_AV × qm_AV) => qm_evB (d + 9) jM_tryWays 1 [qP 9 0, qI (nI n), qI (nI m), x.2.1, x.2.2] [] x.1) (fun m x => (∃ b, RT x.1 b w y k tp fd fa pl T) ∧ fp MP s x.1 ∧ (∀ j, j < m → zI x.1 72 0 j = wd (rul T y) w y n j ∧ zI x.1 73 0 j = ws (rul T y) w y n j)) (fun m x hm hx => by
    obtain ⟨x, y3, y4⟩ := x
    obtain ⟨⟨b, i1⟩, i2, i3⟩ := hx
    dsimp only at i1 i2 i3
    have hcp := m_copy (d + 8) x 0 2 (by decide) (by decide) (by decide)
    have hX1 : RT (uI (uC x 61 0 0 61 0 840 420) 9 0 2 (nI 840)) 840 w y k tp fd fa pl T := RT_copy ok 0 2 (by decide) 840 i1
    have hP1 : PM (uI (uC x 61 0 0 61 0 840 420) 9 0 2 (nI 840)) 840 w y := PM_copy okp 0 2 840 (RT_PM0 ok i1)
    have f1 : fp MP s (uI (uC x 61 0 0 61 0 840 420) 9 0 2 (nI 840)) := fp_uI (by unfold MP; omega) (fp_trans i2 (mp_uC _ _ _ _)) _ _
    have k1 : ∀ j, zI (uI (uC x 61 0 0 61 0 840 420) 9 0 2 (nI 840)) 72 0 j = zI x 72 0 j ∧ zI (uI (uC x 61 0 0 61 0 840 420) 9 0 2 (nI 840)) 73 0 j = zI x 73 0 j := fun j => ⟨by rw [zI_uI, if_neg (by omega), zI_uC, if_neg (by omega)], by rw [zI_uI, if_neg (by omega), zI_uC, if_neg (by omega)]⟩
    have est : qm_evB (d + 9) jM_tryWays 1 [qP 9 0, qI (nI n), qI (nI m), y3, y4] [] x = qm_evB (d + 9) jM_tryWays 2 [qP 9 0, qI (nI n), qI (nI m), qI (nI 0), y4] [] (uI (uC x 61 0 0 61 0 840 420) 9 0 2 (nI 840)) := by
      refine (b_M_tryWays_1 ..).trans ?_
      simp (config := {maxSteps := 1000000}) (disch := first | omega | assumption | (simp only [qm_wid_n, qm_wid_I, qm_wid_L, qm_wid_P] <;> omega)) only [qy0, qy1, qy2, qy3, qe, qcn, qin, ↓reduceIte, Nat.reduceEqDiff, Nat.reduceLeDiff, Bool.false_eq_true, Nat.reduceAdd, Nat.reduceSub, Nat.reduceMul, Nat.reduceLT, or_self, or_false, false_or, or_true, true_or, and_self, and_true, true_and, and_false, false_and, not_true_eq_false, not_false_eq_true, hcp, r_tries]
    generalize uI (uC x 61 0 0 61 0 840 420) 9 0 2 (nI 840) = X1 at hX1 hP1 f1 k1 est
    have hvr : rg (if m % 2 = 0 then nI 1 else nI 0) 0 1 := by
      by_cases h : m % 2 = 0
      · rw [if_pos h]; exact ⟨1, by omega, by omega, rfl⟩
      · rw [if_neg h]; exact ⟨0, by omega, by omega, rfl⟩
    have r1 : m - m / 2 * 2 = m % 2 := by omega
    have r2 : m / 2 - m / 2 / 2 * 2 = m / 2 % 2 := by omega
    have hvb0 : vbk y (if m % 2 = 0 then nI 1 else nI 0) 0 = y := by
      funext a j
      exact vbk_ne (Or.inr (Nat.zero_le _))
    generalize hv : (if m % 2 = 0 then nI 1 else nI 0) = v at hvr hvb0
    obtain ⟨X2, z4, e2, j1, j2, j3, j4⟩ := q_l3 w (cn y) (fun _ (a : Unit) => a) (fun _ _ a => a) (fun _ a => a) (fun c _ x' => RT x' 840 w y k tp fd fa pl T ∧ PM x' 840 w (vbk y v (8 * c)) ∧ fp MP s x' ∧ (∀ j, zI x' 72 0 j = zI x 72 0 j ∧ zI x' 73 0 j = zI x 73 0 j)) (fun c z _ x' => RT x' 840 w y k tp fd fa pl T ∧ PM x' 840 w (vbk y v (8 * c + z)) ∧ fp MP s x' ∧ (∀ j, zI x' 72 0 j = zI x 72 0 j ∧ zI x' 73 0 j = zI x 73 0 j)) (fun c _ x' (z4 : qm_AV) => qm_evB (d + 9) jM_tryWays 2 [qP 9 0, qI (nI n), qI (nI m), qI (nI c), z4] [] x') (fun c z _ x' (_ : Unit) => qm_evB (d + 9) jM_tryWays 3 [qP 9 0, qI (nI n), qI (nI m), qI (nI c), qI (nI z)] [] x') (fun c _ x' z4 hc hs => by
        have hww := RT_w hs.1
        refine ⟨⟨(), ?_⟩, hs⟩
        refine (b_M_tryWays_2 ..).trans ?_
        simp (config := {maxSteps := 1000000}) (disch := first | omega | assumption | (simp only [qm_wid_n, qm_wid_I, qm_wid_L, qm_wid_P] <;> omega)) only [qy0, qy1, qy2, qy3, qe, qcn, qin, ↓reduceIte, Nat.reduceEqDiff, Nat.reduceLeDiff, Bool.false_eq_true, Nat.reduceAdd, Nat.reduceSub, Nat.reduceMul, Nat.reduceLT, or_self, or_false, false_or, or_true, true_or, and_self, and_true, true_and, and_false, false_and, not_true_eq_false, not_false_eq_true, hww]) (fun c z _ x' _ hc hz hs => by
        obtain ⟨g1, g2, g3, g4⟩ := hs
        have h8 := OK_n okp hc
        have okb := vbk_ok okp hvr (8 * c + z)
        have hct := r_count (d + 8) g2 okb g1.1 (by decide) hc
        rw [cn_bk] at hct
        have hat := r_at0 (d + 8) g1.1 c z
        have hp := PM_put g2 okb 3 (8 * c + z) (by decide) v
        rw [show 2 + 3 = 5 from rfl, vbk_s] at hp
        refine ⟨uI x' 61 0 (840 + 130 + 6 * (8 * c + z) + 3) v, (), ?_, RT_u ok _ _ (by omega) g1, hp, mp_uu g3 _ _, fun j => ⟨by rw [zI_uI, if_neg (by omega)]; exact (g4 j).1, by rw [zI_uI, if_neg (by omega)]; exact (g4 j).2⟩⟩
        refine (b_M_tryWays_3 ..).trans ?_
        by_cases h : m % 2 = 0
        · rw [if_pos h] at hv
          subst hv
          simp (config := {maxSteps := 1000000}) (disch := first | omega | assumption | (simp only [qm_wid_n, qm_wid_I, qm_wid_L, qm_wid_P] <;> omega)) only [b_M_tryWays_4, b_M_tryWays_5, qy0, qy1, qy2, qy3, qe, qcn, qin, ↓reduceIte, Nat.reduceEqDiff, Nat.reduceLeDiff, Bool.false_eq_true, Nat.reduceAdd, Nat.reduceSub, Nat.reduceMul, Nat.reduceLT, or_self, or_false, false_or, or_true, true_or, and_self, and_true, true_and, and_false, false_and, not_true_eq_false, not_false_eq_true, hct, hat, r1, h]
        · rw [if_neg h] at hv
          subst hv
          simp (config := {maxSteps := 1000000}) (disch := first | omega | assumption | (simp only [qm_wid_n, qm_wid_I, qm_wid_L, qm_wid_P] <;> omega)) only [b_M_tryWays_4, b_M_tryWays_5, qy0, qy1, qy2, qy3, qe, qcn, qin, ↓reduceIte, Nat.reduceEqDiff, Nat.reduceLeDiff, Bool.false_eq_true, Nat.reduceAdd, Nat.reduceSub, Nat.reduceMul, Nat.reduceLT, or_self, or_false, false_or, or_true, true_or, and_self, and_true, true_and, and_false, false_and, not_true_eq_false, not_false_eq_true, hct, hat, r1, h]) (fun c _ x' _ hc hs => by
        obtain ⟨g1, g2, g3, g4⟩ := hs
        have h8 := OK_n okp hc
        have okb := vbk_ok okp hvr (8 * c + cn y c)
        have hct := r_count (d + 8) g2 okb g1.1 (by decide) hc
        rw [cn_bk] at hct
        refine ⟨x', qI (nI (cn y c)), ?_, g1, PM_like (vbk_col okp c hc) g2, g3, g4⟩
        refine (b_M_tryWays_3 ..).trans ?_
        simp (config := {maxSteps := 1000000}) (disch := first | omega | assumption | (simp only [qm_wid_n, qm_wid_I, qm_wid_L, qm_wid_P] <;> omega)) only [b_M_tryWays_6, qy0, qy1, qy2, qy3, qe, qcn, qin, ↓reduceIte, Nat.reduceEqDiff, Nat.reduceLeDiff, Bool.false_eq_true, Nat.reduceAdd, Nat.reduceSub, Nat.reduceMul, Nat.reduceLT, or_self, or_false, false_or, or_true, true_or, and_self, and_true, true_and, and_false, false_and, not_true_eq_false, not_false_eq_true, hct]) () X1 y4 ⟨hX1, by rw [Nat.mul_zero, hvb0]; exact hP1, f1, k1⟩
    have hww := RT_w j1
    have hb2 := j1.1
    have hP3 : PM (uI (uI X2 61 0 845 (nI (m / 2 % 2))) 61 0 846 (nI (m / 4))) 840 w (vway y m) := by
      have := PM_sc (PM_sc j2 3 (by decide) (nI (m / 2 % 2))) 4 (by decide) (nI (m / 4))
      rw [← hv] at this
      exact PM_like (way_like okp m) this
    have hR3 : RT (uI (uI X2 61 0 845 (nI (m / 2 % 2))) 61 0 846 (nI (m / 4))) 840 w y k tp fd fa pl T := RT_u ok _ _ (by decide) (RT_u ok _ _ (by decide) j1)
    have f3 : fp MP s (uI (uI X2 61 0 845 (nI (m / 2 % 2))) 61 0 846 (nI (m / 4))) := mp_uu (mp_uu j3 _ _) _ _
    have k3 : ∀ j, zI (uI (uI X2 61 0 845 (nI (m / 2 % 2))) 61 0 846 (nI (m / 4))) 72 0 j = zI x 72 0 j ∧ zI (uI (uI X2 61 0 845 (nI (m / 2 % 2))) 61 0 846 (nI (m / 4))) 73 0 j = zI x 73 0 j := fun j => ⟨(j4 j).1, (j4 j).2⟩
    have okv := OKP_way okp hm
    have hiv : vway y m 0 0 = nI i := by rw [vway_ne (by omega) (by omega) (by omega)]; exact hi
    obtain ⟨X4, g1, g2, g3, g4⟩ := r_goOn d ok hR3 (by decide) (by decide) hP3 okv hiv h9 hn
    obtain ⟨o1, o2⟩ := psq_ok (τ := rul T y) (y := y) okv hiv h9 n (Nat.le_refl _)
    have hP5 : PM (uI X4 73 0 m (ws (rul T y) w y n m)) 840 w (psq (rul T y) w y n (vway y m)) := PM_fr (K := [73]) (s := X4) (by decide) rfl (fr_uI (K := [73]) (k := 73) (by decide) (fr_refl _ _) _ _ _) g3
    have hdr := r_dry (d + 6) hP5 o1 (by rw [zI_uI, if_neg (by omega)]; exact g2.1) (by decide)
    have k4 : ∀ j, zI X4 72 0 j = zI x 72 0 j ∧ zI X4 73 0 j = zI x 73 0 j := fun j => ⟨(g4.1.1 72 0 j (by decide)).trans (k3 j).1, (g4.1.1 73 0 j (by decide)).trans (k3 j).2⟩
    refine ⟨(uI (uI X4 73 0 m (ws (rul T y) w y n m)) 72 0 m (wd (rul T y) w y n m), qI (nI w), z4), ?_, ⟨840, RT_fr ok (K := [72, 73]) (by decide) (fr_uI (K := [72, 73]) (k := 72) (by decide) (fr_uI (K := [72, 73]) (k := 73) (by decide) (fr_refl _ _) _ _ _) _ _ _) g2⟩, fp_uI (by unfold MP; omega) (fp_uI (by unfold MP; omega) (fp_trans f3 (fm_MP g4)) _ _) _ _, fun j hj => ?_⟩
    · refine est.trans (e2.trans ?_)
      unfold ws wd at *
      refine (b_M_tryWays_2 ..).trans ?_
      simp (config := {maxSteps := 1000000}) (disch := first | omega | assumption | (simp only [qm_wid_n, qm_wid_I, qm_wid_L, qm_wid_P] <;> omega)) only [b_M_tryWays_7, qy0, qy1, qy2, qy3, qe, qcn, qin, ↓reduceIte, Nat.reduceEqDiff, Nat.reduceLeDiff, Bool.false_eq_true, Nat.reduceAdd, Nat.reduceSub, Nat.reduceMul, Nat.reduceLT, or_self, or_false, false_or, or_true, true_or, and_self, and_true, true_and, and_false, false_and, not_true_eq_false, not_false_eq_true, hww, hb2, r2, g1, hdr, zI_uI]
    · by_cases q : j = m
      · subst q
        exact ⟨by rw [zI_uI, if_pos ⟨rfl, rfl, rfl⟩], by rw [zI_uI, if_neg (by omega), zI_uI, if_pos ⟨rfl, rfl, rfl⟩]⟩
      · exact ⟨by rw [zI_uI, if_neg (by omega), zI_uI, if_neg (by omega), (k4 j).1]; exact (i3 j (by omega)).1, by rw [zI_uI, if_neg (by omega), zI_uI, if_neg (by omega), (k4 j).2]; exact (i3 j (by omega)).2⟩) 0 (s, qU, qU) (Nat.zero_le _) ⟨⟨0, RT_0 ok hR⟩, fp_refl _ _, fun j hj => by omega⟩
  dsimp only at q1 q2 q3
  refine ⟨uI x1 9 0 2 (nI 0), ?_, q1.2, fp_uI (by unfold MP; omega) q2 _ _, fun m hm => q3 m hm⟩
  simp (config := {maxSteps := 1000000}) (disch := first | omega | assumption | (simp only [qm_wid_n, qm_wid_I, qm_wid_L, qm_wid_P] <;> omega)) only [e_M_tryWays, b_M_tryWays_0, qy0, qy1, qy2, qy3, qe, qcn, qin, ↓reduceIte, Nat.reduceEqDiff, Nat.reduceLeDiff, Bool.false_eq_true, Nat.reduceAdd, Nat.reduceSub, Nat.reduceMul, Nat.reduceLT, or_self, or_false, false_or, or_true, true_or, and_self, and_true, true_and, and_false, false_and, not_true_eq_false, not_false_eq_true]
  refine e.trans ?_
  simp (config := {maxSteps := 1000000}) (disch := first | omega | assumption | (simp only [qm_wid_n, qm_wid_I, qm_wid_L, qm_wid_P] <;> omega)) only [b_M_tryWays_1, b_M_tryWays_8, qy0, qy1, qy2, qy3, qe, qcn, qin, ↓reduceIte, Nat.reduceEqDiff, Nat.reduceLeDiff, Bool.false_eq_true, Nat.reduceAdd, Nat.reduceSub, Nat.reduceMul, Nat.reduceLT, or_self, or_false, false_or, or_true, true_or, and_self, and_true, true_and, and_false, false_and, not_true_eq_false, not_false_eq_true, r_tries]
/-- the first greatest of the first k -/
def bo (f : Nat → Int32) : Nat → Nat
  | 0 => 0
  | k + 1 => if f (bo f k) < f k then k else bo f k
theorem bo_1 (f : Nat → Int32) : bo f 1 = 0 := by
  show (if f 0 < f 0 then 0 else 0) = 0
  by_cases h : f 0 < f 0
  · rw [if_pos h]
  · rw [if_neg h]
theorem bo_le (f : Nat → Int32) : ∀ k, k ≤ 8 → bo f k < 8
  | 0, _ => Nat.zero_lt_succ 7
  | k + 1, h => by
    show (if f (bo f k) < f k then k else bo f k) < 8
    by_cases q : f (bo f k) < f k
    · rw [if_pos q]; omega
    · rw [if_neg q]; exact bo_le f k (by omega)
theorem c_bestOf (d : Nat) (s : qm_Hp) (K : Nat) (hK : K = 54 ∨ K = 55) (f : Nat → Int32) (h : ∀ j, j < 8 → zI s K 0 j = f j) : qm_evM d jC_bestOf [qP K 0] s = some (some (qI (nI (bo f 8))), s) := by
  rcases hK with rfl | rfl
  · have hl := q_up (w := 8) (fun k => qm_evB d jC_bestOf 1 [qP 54 0, qI (nI (bo f k)), qI (nI k)] [] s) rfl (fun k hk => by
      have hb := bo_le f k (by omega)
      have h1 := h k hk
      have h2 := h (bo f k) hb
      refine (b_C_bestOf_1 ..).trans ?_
      by_cases q : f (bo f k) < f k
      · have e : bo f (k + 1) = k := if_pos q
        have q' := Int32.not_le.mpr q
        rw [e]
        simp (config := {maxSteps := 1000000}) (disch := first | omega | assumption | (simp only [qm_wid_n, qm_wid_I, qm_wid_L, qm_wid_P] <;> omega)) only [b_C_bestOf_2, qy0, qy1, qy2, qy3, qe, qcn, qin, ↓reduceIte, Nat.reduceEqDiff, Nat.reduceLeDiff, Bool.false_eq_true, Nat.reduceAdd, Nat.reduceSub, Nat.reduceMul, Nat.reduceLT, or_self, or_false, false_or, or_true, true_or, and_self, and_true, true_and, and_false, false_and, not_true_eq_false, not_false_eq_true, h1, h2, q']
      · have e : bo f (k + 1) = bo f k := if_neg q
        have q' := Int32.not_lt.mp q
        rw [e]
        simp (config := {maxSteps := 1000000}) (disch := first | omega | assumption | (simp only [qm_wid_n, qm_wid_I, qm_wid_L, qm_wid_P] <;> omega)) only [b_C_bestOf_2, qy0, qy1, qy2, qy3, qe, qcn, qin, ↓reduceIte, Nat.reduceEqDiff, Nat.reduceLeDiff, Bool.false_eq_true, Nat.reduceAdd, Nat.reduceSub, Nat.reduceMul, Nat.reduceLT, or_self, or_false, false_or, or_true, true_or, and_self, and_true, true_and, and_false, false_and, not_true_eq_false, not_false_eq_true, h1, h2, q']) 1 (by decide)
    rw [bo_1] at hl
    simp (config := {maxSteps := 1000000}) (disch := first | omega | assumption | (simp only [qm_wid_n, qm_wid_I, qm_wid_L, qm_wid_P] <;> omega)) only [e_C_bestOf, b_C_bestOf_0, qy0, qy1, qy2, qy3, qe, qcn, qin, ↓reduceIte, Nat.reduceEqDiff, Nat.reduceLeDiff, Bool.false_eq_true, Nat.reduceAdd, Nat.reduceSub, Nat.reduceMul, Nat.reduceLT, or_self, or_false, false_or, or_true, true_or, and_self, and_true, true_and, and_false, false_and, not_true_eq_false, not_false_eq_true]
    refine hl.trans ?_
    simp (config := {maxSteps := 1000000}) (disch := first | omega | assumption | (simp only [qm_wid_n, qm_wid_I, qm_wid_L, qm_wid_P] <;> omega)) only [b_C_bestOf_1, b_C_bestOf_3, qy0, qy1, qy2, qy3, qe, qcn, qin, ↓reduceIte, Nat.reduceEqDiff, Nat.reduceLeDiff, Bool.false_eq_true, Nat.reduceAdd, Nat.reduceSub, Nat.reduceMul, Nat.reduceLT, or_self, or_false, false_or, or_true, true_or, and_self, and_true, true_and, and_false, false_and, not_true_eq_false, not_false_eq_true]
  · have hl := q_up (w := 8) (fun k => qm_evB d jC_bestOf 1 [qP 55 0, qI (nI (bo f k)), qI (nI k)] [] s) rfl (fun k hk => by
      have hb := bo_le f k (by omega)
      have h1 := h k hk
      have h2 := h (bo f k) hb
      refine (b_C_bestOf_1 ..).trans ?_
      by_cases q : f (bo f k) < f k
      · have e : bo f (k + 1) = k := if_pos q
        have q' := Int32.not_le.mpr q
        rw [e]
        simp (config := {maxSteps := 1000000}) (disch := first | omega | assumption | (simp only [qm_wid_n, qm_wid_I, qm_wid_L, qm_wid_P] <;> omega)) only [b_C_bestOf_2, qy0, qy1, qy2, qy3, qe, qcn, qin, ↓reduceIte, Nat.reduceEqDiff, Nat.reduceLeDiff, Bool.false_eq_true, Nat.reduceAdd, Nat.reduceSub, Nat.reduceMul, Nat.reduceLT, or_self, or_false, false_or, or_true, true_or, and_self, and_true, true_and, and_false, false_and, not_true_eq_false, not_false_eq_true, h1, h2, q']
      · have e : bo f (k + 1) = bo f k := if_neg q
        have q' := Int32.not_lt.mp q
        rw [e]
        simp (config := {maxSteps := 1000000}) (disch := first | omega | assumption | (simp only [qm_wid_n, qm_wid_I, qm_wid_L, qm_wid_P] <;> omega)) only [b_C_bestOf_2, qy0, qy1, qy2, qy3, qe, qcn, qin, ↓reduceIte, Nat.reduceEqDiff, Nat.reduceLeDiff, Bool.false_eq_true, Nat.reduceAdd, Nat.reduceSub, Nat.reduceMul, Nat.reduceLT, or_self, or_false, false_or, or_true, true_or, and_self, and_true, true_and, and_false, false_and, not_true_eq_false, not_false_eq_true, h1, h2, q']) 1 (by decide)
    rw [bo_1] at hl
    simp (config := {maxSteps := 1000000}) (disch := first | omega | assumption | (simp only [qm_wid_n, qm_wid_I, qm_wid_L, qm_wid_P] <;> omega)) only [e_C_bestOf, b_C_bestOf_0, qy0, qy1, qy2, qy3, qe, qcn, qin, ↓reduceIte, Nat.reduceEqDiff, Nat.reduceLeDiff, Bool.false_eq_true, Nat.reduceAdd, Nat.reduceSub, Nat.reduceMul, Nat.reduceLT, or_self, or_false, false_or, or_true, true_or, and_self, and_true, true_and, and_false, false_and, not_true_eq_false, not_false_eq_true]
    refine hl.trans ?_
    simp (config := {maxSteps := 1000000}) (disch := first | omega | assumption | (simp only [qm_wid_n, qm_wid_I, qm_wid_L, qm_wid_P] <;> omega)) only [b_C_bestOf_1, b_C_bestOf_3, qy0, qy1, qy2, qy3, qe, qcn, qin, ↓reduceIte, Nat.reduceEqDiff, Nat.reduceLeDiff, Bool.false_eq_true, Nat.reduceAdd, Nat.reduceSub, Nat.reduceMul, Nat.reduceLT, or_self, or_false, false_or, or_true, true_or, and_self, and_true, true_and, and_false, false_and, not_true_eq_false, not_false_eq_true]
theorem r_bestOf (d : Nat) (s : qm_Hp) (K : Nat) (hK : K = 72 ∨ K = 73) (f : Nat → Int32) (h : ∀ j, j < 8 → zI s K 0 j = f j) : qm_evM d jM_bestOf [qP K 0] s = some (some (qI (nI (bo f 8))), s) := by
  rcases hK with rfl | rfl
  · have hl := q_up (w := 8) (fun k => qm_evB d jM_bestOf 1 [qP 72 0, qI (nI (bo f k)), qI (nI k)] [] s) rfl (fun k hk => by
      have hb := bo_le f k (by omega)
      have h1 := h k hk
      have h2 := h (bo f k) hb
      refine (b_M_bestOf_1 ..).trans ?_
      by_cases q : f (bo f k) < f k
      · have e : bo f (k + 1) = k := if_pos q
        have q' := Int32.not_le.mpr q
        rw [e]
        simp (config := {maxSteps := 1000000}) (disch := first | omega | assumption | (simp only [qm_wid_n, qm_wid_I, qm_wid_L, qm_wid_P] <;> omega)) only [b_M_bestOf_2, b_M_bestOf_3, qy0, qy1, qy2, qy3, qe, qcn, qin, ↓reduceIte, Nat.reduceEqDiff, Nat.reduceLeDiff, Bool.false_eq_true, Nat.reduceAdd, Nat.reduceSub, Nat.reduceMul, Nat.reduceLT, or_self, or_false, false_or, or_true, true_or, and_self, and_true, true_and, and_false, false_and, not_true_eq_false, not_false_eq_true, h1, h2, q']
      · have e : bo f (k + 1) = bo f k := if_neg q
        have q' := Int32.not_lt.mp q
        rw [e]
        simp (config := {maxSteps := 1000000}) (disch := first | omega | assumption | (simp only [qm_wid_n, qm_wid_I, qm_wid_L, qm_wid_P] <;> omega)) only [b_M_bestOf_2, b_M_bestOf_3, qy0, qy1, qy2, qy3, qe, qcn, qin, ↓reduceIte, Nat.reduceEqDiff, Nat.reduceLeDiff, Bool.false_eq_true, Nat.reduceAdd, Nat.reduceSub, Nat.reduceMul, Nat.reduceLT, or_self, or_false, false_or, or_true, true_or, and_self, and_true, true_and, and_false, false_and, not_true_eq_false, not_false_eq_true, h1, h2, q']) 1 (by decide)
    rw [bo_1] at hl
    simp (config := {maxSteps := 1000000}) (disch := first | omega | assumption | (simp only [qm_wid_n, qm_wid_I, qm_wid_L, qm_wid_P] <;> omega)) only [e_M_bestOf, b_M_bestOf_0, qy0, qy1, qy2, qy3, qe, qcn, qin, ↓reduceIte, Nat.reduceEqDiff, Nat.reduceLeDiff, Bool.false_eq_true, Nat.reduceAdd, Nat.reduceSub, Nat.reduceMul, Nat.reduceLT, or_self, or_false, false_or, or_true, true_or, and_self, and_true, true_and, and_false, false_and, not_true_eq_false, not_false_eq_true]
    refine hl.trans ?_
    simp (config := {maxSteps := 1000000}) (disch := first | omega | assumption | (simp only [qm_wid_n, qm_wid_I, qm_wid_L, qm_wid_P] <;> omega)) only [b_M_bestOf_1, b_M_bestOf_4, qy0, qy1, qy2, qy3, qe, qcn, qin, ↓reduceIte, Nat.reduceEqDiff, Nat.reduceLeDiff, Bool.false_eq_true, Nat.reduceAdd, Nat.reduceSub, Nat.reduceMul, Nat.reduceLT, or_self, or_false, false_or, or_true, true_or, and_self, and_true, true_and, and_false, false_and, not_true_eq_false, not_false_eq_true]
  · have hl := q_up (w := 8) (fun k => qm_evB d jM_bestOf 1 [qP 73 0, qI (nI (bo f k)), qI (nI k)] [] s) rfl (fun k hk => by
      have hb := bo_le f k (by omega)
      have h1 := h k hk
      have h2 := h (bo f k) hb
      refine (b_M_bestOf_1 ..).trans ?_
      by_cases q : f (bo f k) < f k
      · have e : bo f (k + 1) = k := if_pos q
        have q' := Int32.not_le.mpr q
        rw [e]
        simp (config := {maxSteps := 1000000}) (disch := first | omega | assumption | (simp only [qm_wid_n, qm_wid_I, qm_wid_L, qm_wid_P] <;> omega)) only [b_M_bestOf_2, b_M_bestOf_3, qy0, qy1, qy2, qy3, qe, qcn, qin, ↓reduceIte, Nat.reduceEqDiff, Nat.reduceLeDiff, Bool.false_eq_true, Nat.reduceAdd, Nat.reduceSub, Nat.reduceMul, Nat.reduceLT, or_self, or_false, false_or, or_true, true_or, and_self, and_true, true_and, and_false, false_and, not_true_eq_false, not_false_eq_true, h1, h2, q']
      · have e : bo f (k + 1) = bo f k := if_neg q
        have q' := Int32.not_lt.mp q
        rw [e]
        simp (config := {maxSteps := 1000000}) (disch := first | omega | assumption | (simp only [qm_wid_n, qm_wid_I, qm_wid_L, qm_wid_P] <;> omega)) only [b_M_bestOf_2, b_M_bestOf_3, qy0, qy1, qy2, qy3, qe, qcn, qin, ↓reduceIte, Nat.reduceEqDiff, Nat.reduceLeDiff, Bool.false_eq_true, Nat.reduceAdd, Nat.reduceSub, Nat.reduceMul, Nat.reduceLT, or_self, or_false, false_or, or_true, true_or, and_self, and_true, true_and, and_false, false_and, not_true_eq_false, not_false_eq_true, h1, h2, q']) 1 (by decide)
    rw [bo_1] at hl
    simp (config := {maxSteps := 1000000}) (disch := first | omega | assumption | (simp only [qm_wid_n, qm_wid_I, qm_wid_L, qm_wid_P] <;> omega)) only [e_M_bestOf, b_M_bestOf_0, qy0, qy1, qy2, qy3, qe, qcn, qin, ↓reduceIte, Nat.reduceEqDiff, Nat.reduceLeDiff, Bool.false_eq_true, Nat.reduceAdd, Nat.reduceSub, Nat.reduceMul, Nat.reduceLT, or_self, or_false, false_or, or_true, true_or, and_self, and_true, true_and, and_false, false_and, not_true_eq_false, not_false_eq_true]
    refine hl.trans ?_
    simp (config := {maxSteps := 1000000}) (disch := first | omega | assumption | (simp only [qm_wid_n, qm_wid_I, qm_wid_L, qm_wid_P] <;> omega)) only [b_M_bestOf_1, b_M_bestOf_4, qy0, qy1, qy2, qy3, qe, qcn, qin, ↓reduceIte, Nat.reduceEqDiff, Nat.reduceLeDiff, Bool.false_eq_true, Nat.reduceAdd, Nat.reduceSub, Nat.reduceMul, Nat.reduceLT, or_self, or_false, false_or, or_true, true_or, and_self, and_true, true_and, and_false, false_and, not_true_eq_false, not_false_eq_true]
/-- the first that is best in both: m left from k on -/
def fb8 (f g : Nat → Int32) (a b : Int32) : Nat → Nat → Int32
  | 0, _ => N1
  | m + 1, k => if f k = a ∧ g k = b then nI k else fb8 f g a b m (k + 1)
theorem c_both (d : Nat) (s : qm_Hp) (f g : Nat → Int32) (a b : Int32) (h : ∀ j, j < 8 → zI s 54 0 j = f j ∧ zI s 55 0 j = g j) : qm_evM d jC_bestInBoth [qP 1 0, qI a, qI b] s = some (some (qI (fb8 f g a b 8 0)), s) := by
  have key : ∀ m k, k + m = 8 → qm_evB d jC_bestInBoth 1 [qP 1 0, qI a, qI b, qI (nI k)] [] s = some (some (qI (fb8 f g a b m k)), s) := by
    intro m
    induction m with
    | zero =>
      intro k hk
      refine (b_C_bestInBoth_1 ..).trans ?_
      simp (config := {maxSteps := 1000000}) (disch := first | omega | assumption | (simp only [qm_wid_n, qm_wid_I, qm_wid_L, qm_wid_P] <;> omega)) only [b_C_bestInBoth_3, qy0, qy1, qy2, qy3, qe, qcn, qin, ↓reduceIte, Nat.reduceEqDiff, Nat.reduceLeDiff, Bool.false_eq_true, Nat.reduceAdd, Nat.reduceSub, Nat.reduceMul, Nat.reduceLT, or_self, or_false, false_or, or_true, true_or, and_self, and_true, true_and, and_false, false_and, not_true_eq_false, not_false_eq_true, fb8]
    | succ m ih =>
      intro k hk
      obtain ⟨h1, h2⟩ := h k (by omega)
      have hi := ih (k + 1) (by omega)
      refine (b_C_bestInBoth_1 ..).trans ?_
      unfold fb8
      by_cases q1 : f k = a
      · by_cases q2 : g k = b
        · rw [if_pos ⟨q1, q2⟩]
          simp (config := {maxSteps := 1000000}) (disch := first | omega | assumption | (simp only [qm_wid_n, qm_wid_I, qm_wid_L, qm_wid_P] <;> omega)) only [qy0, qy1, qy2, qy3, qe, qcn, qin, ↓reduceIte, Nat.reduceEqDiff, Nat.reduceLeDiff, Bool.false_eq_true, Nat.reduceAdd, Nat.reduceSub, Nat.reduceMul, Nat.reduceLT, or_self, or_false, false_or, or_true, true_or, and_self, and_true, true_and, and_false, false_and, not_true_eq_false, not_false_eq_true, h1, h2, q1, q2]
        · rw [if_neg (fun z => q2 z.2), ← hi]
          simp (config := {maxSteps := 1000000}) (disch := first | omega | assumption | (simp only [qm_wid_n, qm_wid_I, qm_wid_L, qm_wid_P] <;> omega)) only [b_C_bestInBoth_2, qy0, qy1, qy2, qy3, qe, qcn, qin, ↓reduceIte, Nat.reduceEqDiff, Nat.reduceLeDiff, Bool.false_eq_true, Nat.reduceAdd, Nat.reduceSub, Nat.reduceMul, Nat.reduceLT, or_self, or_false, false_or, or_true, true_or, and_self, and_true, true_and, and_false, false_and, not_true_eq_false, not_false_eq_true, h1, h2, q1, q2]
      · rw [if_neg (fun z => q1 z.1), ← hi]
        simp (config := {maxSteps := 1000000}) (disch := first | omega | assumption | (simp only [qm_wid_n, qm_wid_I, qm_wid_L, qm_wid_P] <;> omega)) only [b_C_bestInBoth_2, qy0, qy1, qy2, qy3, qe, qcn, qin, ↓reduceIte, Nat.reduceEqDiff, Nat.reduceLeDiff, Bool.false_eq_true, Nat.reduceAdd, Nat.reduceSub, Nat.reduceMul, Nat.reduceLT, or_self, or_false, false_or, or_true, true_or, and_self, and_true, true_and, and_false, false_and, not_true_eq_false, not_false_eq_true, h1, q1]
  have := key 8 0 rfl
  simp (config := {maxSteps := 1000000}) (disch := first | omega | assumption | (simp only [qm_wid_n, qm_wid_I, qm_wid_L, qm_wid_P] <;> omega)) only [e_C_bestInBoth, b_C_bestInBoth_0, qy0, qy1, qy2, qy3, qe, qcn, qin, ↓reduceIte, Nat.reduceEqDiff, Nat.reduceLeDiff, Bool.false_eq_true, Nat.reduceAdd, Nat.reduceSub, Nat.reduceMul, Nat.reduceLT, or_self, or_false, false_or, or_true, true_or, and_self, and_true, true_and, and_false, false_and, not_true_eq_false, not_false_eq_true]
  exact this
theorem r_both (d : Nat) (s : qm_Hp) (f g : Nat → Int32) (p1 p2 p3 p4 : qm_AV) (u v : Nat) (hu : u < 8) (hv : v < 8) (h : ∀ j, j < 8 → zI s 72 0 j = f j ∧ zI s 73 0 j = g j) : qm_evB d jM_way 11 [qP 9 0, p1, p2, p3, qI (nI u), qI (nI v), qI (nI 0)] [] s = some (some (qI (fb8 f g (f u) (g v) 8 0)), s) := by
  obtain ⟨hu1, _⟩ := h u hu
  obtain ⟨_, hv1⟩ := h v hv
  have key : ∀ m k, k + m = 8 → qm_evB d jM_way 11 [qP 9 0, p1, p2, p3, qI (nI u), qI (nI v), qI (nI k)] [] s = some (some (qI (fb8 f g (f u) (g v) m k)), s) := by
    intro m
    induction m with
    | zero =>
      intro k hk
      refine (b_M_way_11 ..).trans ?_
      simp (config := {maxSteps := 1000000}) (disch := first | omega | assumption | (simp only [qm_wid_n, qm_wid_I, qm_wid_L, qm_wid_P] <;> omega)) only [b_M_way_13, qy0, qy1, qy2, qy3, qe, qcn, qin, ↓reduceIte, Nat.reduceEqDiff, Nat.reduceLeDiff, Bool.false_eq_true, Nat.reduceAdd, Nat.reduceSub, Nat.reduceMul, Nat.reduceLT, or_self, or_false, false_or, or_true, true_or, and_self, and_true, true_and, and_false, false_and, not_true_eq_false, not_false_eq_true, fb8]
    | succ m ih =>
      intro k hk
      obtain ⟨h1, h2⟩ := h k (by omega)
      have hi := ih (k + 1) (by omega)
      refine (b_M_way_11 ..).trans ?_
      unfold fb8
      by_cases q1 : f k = f u
      · by_cases q2 : g k = g v
        · rw [if_pos ⟨q1, q2⟩]
          simp (config := {maxSteps := 1000000}) (disch := first | omega | assumption | (simp only [qm_wid_n, qm_wid_I, qm_wid_L, qm_wid_P] <;> omega)) only [qy0, qy1, qy2, qy3, qe, qcn, qin, ↓reduceIte, Nat.reduceEqDiff, Nat.reduceLeDiff, Bool.false_eq_true, Nat.reduceAdd, Nat.reduceSub, Nat.reduceMul, Nat.reduceLT, or_self, or_false, false_or, or_true, true_or, and_self, and_true, true_and, and_false, false_and, not_true_eq_false, not_false_eq_true, h1, h2, hu1, hv1, q1, q2]
        · rw [if_neg (fun z => q2 z.2), ← hi]
          simp (config := {maxSteps := 1000000}) (disch := first | omega | assumption | (simp only [qm_wid_n, qm_wid_I, qm_wid_L, qm_wid_P] <;> omega)) only [b_M_way_12, qy0, qy1, qy2, qy3, qe, qcn, qin, ↓reduceIte, Nat.reduceEqDiff, Nat.reduceLeDiff, Bool.false_eq_true, Nat.reduceAdd, Nat.reduceSub, Nat.reduceMul, Nat.reduceLT, or_self, or_false, false_or, or_true, true_or, and_self, and_true, true_and, and_false, false_and, not_true_eq_false, not_false_eq_true, h1, h2, hu1, hv1, q1, q2]
      · rw [if_neg (fun z => q1 z.1), ← hi]
        simp (config := {maxSteps := 1000000}) (disch := first | omega | assumption | (simp only [qm_wid_n, qm_wid_I, qm_wid_L, qm_wid_P] <;> omega)) only [b_M_way_12, qy0, qy1, qy2, qy3, qe, qcn, qin, ↓reduceIte, Nat.reduceEqDiff, Nat.reduceLeDiff, Bool.false_eq_true, Nat.reduceAdd, Nat.reduceSub, Nat.reduceMul, Nat.reduceLT, or_self, or_false, false_or, or_true, true_or, and_self, and_true, true_and, and_false, false_and, not_true_eq_false, not_false_eq_true, h1, hu1, q1]
  exact key 8 0 rfl
