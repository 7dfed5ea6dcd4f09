/-! spans of water: the reference -/
theorem r_tryEnds0 (d : Nat) {x : qm_Hp} {w n i : Nat} {y k : VW} {tp : Nat → Int32} {fd : Nat} {fa pl : Int32} {T : Nat → TX} (ok : OKG w y k tp fd T) (hR : RM x w y k tp fd fa pl T) (hi : y 0 0 = nI i) (h9 : i + n ≤ 399) (hn : n ≤ 40) : ∃ x', qm_evM (d + 9) jM_tryEnds [qP 9 0, qI (nI n), qI (nI 0), qP 74 0] x = some (none, x') ∧ RM x' w y k tp fd fa pl T ∧ fp (fun k i => k = 9 ∨ k = 61 ∨ (65 ≤ k ∧ k ≤ 68) ∨ k = 74) x x' ∧ (∀ c z, c < w → z < cn y c → zI x' 74 0 (8 * c + z) = spq (rul T y) w y n 0 (8 * c + z)) := by
  have okp := ok.1.1
  have oky := ok.1.2
  have hw6 := okp.1.2
  have g0 := spw_r okp oky (e := 0) (by decide)
  have hcp := m_copy (d + 8) x 0 2 (by decide) (by decide) (by decide)
  have hX1 : RT (uI (uC x 61 0 0 61 0 840 420) 9 0 2 (nI 840)) 840 w y k tp fd fa pl T := RT_copy ok 0 2 (by decide) 840 (RT_0 ok hR)
  have hP1 : PM (uI (uC x 61 0 0 61 0 840 420) 9 0 2 (nI 840)) 840 w y := PM_copy okp 0 2 840 hR.2.1.1
  have f1 : fp (fun k i => k = 9 ∨ k = 61 ∨ (65 ≤ k ∧ k ≤ 68) ∨ k = 74) x (uI (uC x 61 0 0 61 0 840 420) 9 0 2 (nI 840)) := fp_uI (by first | omega | (dsimp only; omega)) (fp_uC (by first | omega | (dsimp only; omega)) (fp_refl _ _) _ _ _ _ _) _ _
  have est : qm_evM (d + 9) jM_tryEnds [qP 9 0, qI (nI n), qI (nI 0), qP 74 0] x = qm_evB (d + 9) jM_tryEnds 1 [qP 9 0, qI (nI n), qI (nI 0), qP 74 0, qI (nI 0), qU, qU] [] (uI (uC x 61 0 0 61 0 840 420) 9 0 2 (nI 840)) := by
    simp (config := {maxSteps := 1000000}) (disch := first | omega | assumption | (simp only [qm_wid_n, qm_wid_I, qm_wid_L, qm_wid_P] <;> omega)) only [e_M_tryEnds, b_M_tryEnds_0, qy0, qy1, qy2, qy3, qe, qcn, qin, ↓reduceIte, Nat.reduceEqDiff, Nat.reduceLeDiff, Bool.false_eq_true, Nat.reduceAdd, Nat.reduceSub, Nat.reduceMul, Nat.reduceLT, or_self, or_false, false_or, or_true, true_or, and_self, and_true, true_and, and_false, false_and, not_true_eq_false, not_false_eq_true, hcp, r_tries]
  generalize uI (uC x 61 0 0 61 0 840 420) 9 0 2 (nI 840) = X1 at hX1 hP1 f1 est
  obtain ⟨X2, ⟨a5, a6⟩, e2, j1, j2, j3⟩ := q_l3 w (cn y) (fun _ (a : Unit) => a) (fun _ _ a => a) (fun _ a => a) (fun c _ x' => RT x' 840 w y k tp fd fa pl T ∧ PM x' 840 w (vup y (spw y 0) (8 * c)) ∧ fp (fun k i => k = 9 ∨ k = 61 ∨ (65 ≤ k ∧ k ≤ 68) ∨ k = 74) x x') (fun c z _ x' => RT x' 840 w y k tp fd fa pl T ∧ PM x' 840 w (vup y (spw y 0) (8 * c + z)) ∧ fp (fun k i => k = 9 ∨ k = 61 ∨ (65 ≤ k ∧ k ≤ 68) ∨ k = 74) x x') (fun c _ x' (a : qm_AV × qm_AV) => qm_evB (d + 9) jM_tryEnds 1 [qP 9 0, qI (nI n), qI (nI 0), qP 74 0, qI (nI c), a.1, a.2] [] x') (fun c z _ x' (a : qm_AV) => qm_evB (d + 9) jM_tryEnds 2 [qP 9 0, qI (nI n), qI (nI 0), qP 74 0, qI (nI c), qI (nI z), a] [] x') (fun c _ x' a hc hs => by
      have hww := RT_w hs.1
      refine ⟨⟨a.2, ?_⟩, hs⟩
      refine (b_M_tryEnds_1 ..).trans ?_
      simp (config := {maxSteps := 1000000}) (disch := first | omega | assumption | (simp only [qm_wid_n, qm_wid_I, qm_wid_L, qm_wid_P] <;> omega)) only [qy0, qy1, qy2, qy3, qe, qcn, qin, ↓reduceIte, Nat.reduceEqDiff, Nat.reduceLeDiff, Bool.false_eq_true, Nat.reduceAdd, Nat.reduceSub, Nat.reduceMul, Nat.reduceLT, or_self, or_false, false_or, or_true, true_or, and_self, and_true, true_and, and_false, false_and, not_true_eq_false, not_false_eq_true, hww]) (fun c z _ x' a hc hz hs => by
      obtain ⟨k1, k2, k3⟩ := hs
      have h8 := OK_n okp hc
      have okb := vup_ok okp g0 (8 * c + z)
      have hct := r_count (d + 8) k2 okb k1.1 (by decide) hc
      rw [cn_up] at hct
      have hat := r_at0 (d + 8) k1.1 c z
      have hz2 : z < cn (vup y (spw y 0) (8 * c + z)) c := by rw [cn_up]; exact hz
      have hkd := PM_s k2 hc hz2 0 (by decide)
      have hlo := PM_s k2 hc hz2 4 (by decide)
      have hhi := PM_s k2 hc hz2 5 (by decide)
      rw [vup_ne (Or.inl (by decide))] at hkd hlo hhi
      simp only [Nat.reduceAdd, Nat.add_zero] at hkd hlo hhi
      obtain ⟨q1, q2, q3, q4, q5⟩ := okp.2.2.2 c z hc hz
      obtain ⟨kd, _, hk, ek⟩ := q1
      rw [ek] at hkd
      have hY := (RT_YM hw6 k1).2.2.2.1 kd (by omega)
      rw [Nat.zero_add] at hY
      obtain ⟨h13, h14⟩ := hY
      have s0 : spw y 0 (8 * c + z) = if y 6 (8 * c + z) = N1 then y 13 kd else y 6 (8 * c + z) := by unfold spw; rw [ek, nI_clamp (by omega)]
      have p2 := PM_put k2 okb 2 (8 * c + z) (by decide) (spw y 0 (8 * c + z))
      rw [show 2 + 2 = 4 from rfl, vup_s] at p2
      refine ⟨uI x' 61 0 (840 + 130 + 6 * (8 * c + z) + 2) (spw y 0 (8 * c + z)), qI (nI (840 + 130 + 6 * (8 * c + z))), ?_, RT_u ok _ _ (by omega) k1, p2, fp_uI (by first | omega | (dsimp only; omega)) k3 _ _⟩
      refine (b_M_tryEnds_2 ..).trans ?_
      rw [s0]
      by_cases hN : y 6 (8 * c + z) = N1
      · rw [hN] at hlo
        rw [if_pos hN]
        simp (config := {maxSteps := 1000000}) (disch := first | omega | assumption | (simp only [qm_wid_n, qm_wid_I, qm_wid_L, qm_wid_P] <;> omega)) only [b_M_tryEnds_3, b_M_tryEnds_4, qy0, qy1, qy2, qy3, qe, qcn, qin, ↓reduceIte, Nat.reduceEqDiff, Nat.reduceLeDiff, Bool.false_eq_true, Nat.reduceAdd, Nat.reduceSub, Nat.reduceMul, Nat.reduceLT, or_self, or_false, false_or, or_true, true_or, and_self, and_true, true_and, and_false, false_and, not_true_eq_false, not_false_eq_true, hct, hat, hkd, hlo, hhi, h13, h14, Nat.add_zero]
      · rw [if_neg hN]
        simp (config := {maxSteps := 1000000}) (disch := first | omega | assumption | (simp only [qm_wid_n, qm_wid_I, qm_wid_L, qm_wid_P] <;> omega)) only [b_M_tryEnds_3, b_M_tryEnds_4, qy0, qy1, qy2, qy3, qe, qcn, qin, ↓reduceIte, Nat.reduceEqDiff, Nat.reduceLeDiff, Bool.false_eq_true, Nat.reduceAdd, Nat.reduceSub, Nat.reduceMul, Nat.reduceLT, or_self, or_false, false_or, or_true, true_or, and_self, and_true, true_and, and_false, false_and, not_true_eq_false, not_false_eq_true, hct, hat, hkd, hlo, hhi, hN, Nat.add_zero]) (fun c _ x' a hc hs => by
      obtain ⟨k1, k2, k3⟩ := hs
      have h8 := OK_n okp hc
      have okb := vup_ok okp g0 (8 * c + cn y c)
      have hct := r_count (d + 8) k2 okb k1.1 (by decide) hc
      rw [cn_up] at hct
      refine ⟨x', (qI (nI (cn y c)), a), ?_, k1, PM_like (vup_col okp c hc) k2, k3⟩
      refine (b_M_tryEnds_2 ..).trans ?_
      simp (config := {maxSteps := 1000000}) (disch := first | omega | assumption | (simp only [qm_wid_n, qm_wid_I, qm_wid_L, qm_wid_P] <;> omega)) only [b_M_tryEnds_5, qy0, qy1, qy2, qy3, qe, qcn, qin, ↓reduceIte, Nat.reduceEqDiff, Nat.reduceLeDiff, Bool.false_eq_true, Nat.reduceAdd, Nat.reduceSub, Nat.reduceMul, Nat.reduceLT, or_self, or_false, false_or, or_true, true_or, and_self, and_true, true_and, and_false, false_and, not_true_eq_false, not_false_eq_true, hct]) () X1 (qU, qU) ⟨hX1, by rw [Nat.mul_zero, vup_0]; exact hP1, f1⟩
  have okv : OKP w (vsp w y 0) := vup_ok okp g0 (8 * w)
  have iv : vsp w y 0 0 0 = nI i := (vup_ne (Or.inl (by decide))).trans hi
  obtain ⟨X3, g1, g2, g3, g4⟩ := r_goOn d ok j1 (by decide) (by decide) (v := vsp w y 0) j2 okv iv h9 hn
  obtain ⟨o1, o2⟩ := psq_ok (τ := rul T y) (y := y) okv iv h9 n (Nat.le_refl _)
  have hcnv : ∀ c, cn (psq (rul T y) w y n (vsp w y 0)) c = cn y c := fun c => by rw [cn_psq]; unfold vsp; rw [cn_up]
  have f3 : fp (fun k i => k = 9 ∨ k = 61 ∨ (65 ≤ k ∧ k ≤ 68) ∨ k = 74) x X3 := fp_trans j3 (fp_fr (fun k i hk => by
    simp only [List.mem_cons, List.not_mem_nil, or_false] at hk
    first | omega | (dsimp only; omega)) g4.1)
  have hw2 := RT_w j1
  obtain ⟨X4, b5, e4, m1, m2, m3⟩ := q_l3 w (cn y) (fun _ (a : Unit) => a) (fun _ _ a => a) (fun _ a => a) (fun c _ x' => fr [74] X3 x' ∧ fp (fun k i => k = 9 ∨ k = 61 ∨ (65 ≤ k ∧ k ≤ 68) ∨ k = 74) x x' ∧ (∀ c' z', c' < w → z' < cn y c' → c' < c → zI x' 74 0 (8 * c' + z') = spq (rul T y) w y n 0 (8 * c' + z'))) (fun c z _ x' => fr [74] X3 x' ∧ fp (fun k i => k = 9 ∨ k = 61 ∨ (65 ≤ k ∧ k ≤ 68) ∨ k = 74) x x' ∧ (∀ c' z', c' < w → z' < cn y c' → (c' < c ∨ (c' = c ∧ z' < z)) → zI x' 74 0 (8 * c' + z') = spq (rul T y) w y n 0 (8 * c' + z'))) (fun c _ x' (b5 : qm_AV) => qm_evB (d + 9) jM_tryEnds 7 [qP 9 0, qI (nI n), qI (nI 0), qP 74 0, qI (nI c), b5, a6] [] x') (fun c z _ x' (_ : Unit) => qm_evB (d + 9) jM_tryEnds 8 [qP 9 0, qI (nI n), qI (nI 0), qP 74 0, qI (nI c), qI (nI z), a6] [] x') (fun c _ x' b5 hc hs => by
      have hww : zI x' 9 0 1 = nI w := (hs.1.1 9 0 1 (by decide)).trans (RT_w g2)
      refine ⟨⟨(), ?_⟩, hs.1, hs.2.1, fun c' z' h1 h2 h3 => hs.2.2 c' z' h1 h2 (by omega)⟩
      refine (b_M_tryEnds_7 ..).trans ?_
      simp (config := {maxSteps := 1000000}) (disch := first | omega | assumption | (simp only [qm_wid_n, qm_wid_I, qm_wid_L, qm_wid_P] <;> omega)) only [qy0, qy1, qy2, qy3, qe, qcn, qin, ↓reduceIte, Nat.reduceEqDiff, Nat.reduceLeDiff, Bool.false_eq_true, Nat.reduceAdd, Nat.reduceSub, Nat.reduceMul, Nat.reduceLT, or_self, or_false, false_or, or_true, true_or, and_self, and_true, true_and, and_false, false_and, not_true_eq_false, not_false_eq_true, hww]) (fun c z _ x' _ hc hz hs => by
      obtain ⟨k1, k2, k3⟩ := hs
      have h8 := OK_n okp hc
      have hPx : PM x' 840 w (psq (rul T y) w y n (vsp w y 0)) := PM_fr (K := [74]) (by decide) (k1.1 9 0 1 (by decide)) k1 g3
      have hbx : zI x' 9 0 2 = nI 840 := (k1.1 9 0 2 (by decide)).trans g2.1
      have hct := r_count (d + 8) hPx o1 hbx (by decide) hc
      rw [hcnv] at hct
      have hat := r_at0 (d + 8) hbx c z
      have hwt := PM_s hPx hc (by rw [hcnv]; exact hz) 2 (by decide)
      rw [show 2 + 2 = 4 from rfl] at hwt
      have hwt : zI x' 61 0 (840 + 130 + 6 * (8 * c + z) + 2) = spq (rul T y) w y n 0 (8 * c + z) := hwt
      refine ⟨uI x' 74 0 (8 * c + z) (spq (rul T y) w y n 0 (8 * c + z)), (), ?_, fr_uI (by decide) k1 _ _ _, fp_uI (by first | omega | (dsimp only; omega)) k2 _ _, fun c' z' h1 h2 h3 => ?_⟩
      · refine (b_M_tryEnds_8 ..).trans ?_
        simp (config := {maxSteps := 1000000}) (disch := first | omega | assumption | (simp only [qm_wid_n, qm_wid_I, qm_wid_L, qm_wid_P] <;> omega)) only [qy0, qy1, qy2, qy3, qe, qcn, qin, ↓reduceIte, Nat.reduceEqDiff, Nat.reduceLeDiff, Bool.false_eq_true, Nat.reduceAdd, Nat.reduceSub, Nat.reduceMul, Nat.reduceLT, or_self, or_false, false_or, or_true, true_or, and_self, and_true, true_and, and_false, false_and, not_true_eq_false, not_false_eq_true, hct, hat, hwt]
      · have h8' := OK_n okp h1
        rw [zI_uI]
        by_cases q : c' = c ∧ z' = z
        · rw [if_pos ⟨rfl, rfl, by omega⟩, q.1, q.2]
        · rw [if_neg (by omega)]; exact k3 c' z' h1 h2 (by omega)) (fun c _ x' _ hc hs => by
      obtain ⟨k1, k2, k3⟩ := hs
      have h8 := OK_n okp hc
      have hPx : PM x' 840 w (psq (rul T y) w y n (vsp w y 0)) := PM_fr (K := [74]) (by decide) (k1.1 9 0 1 (by decide)) k1 g3
      have hbx : zI x' 9 0 2 = nI 840 := (k1.1 9 0 2 (by decide)).trans g2.1
      have hct := r_count (d + 8) hPx o1 hbx (by decide) hc
      rw [hcnv] at hct
      refine ⟨x', qI (nI (cn y c)), ?_, k1, k2, fun c' z' h1 h2 h3 => k3 c' z' h1 h2 (by
        by_cases q : c' = c
        · subst q; omega
        · omega)⟩
      refine (b_M_tryEnds_8 ..).trans ?_
      simp (config := {maxSteps := 1000000}) (disch := first | omega | assumption | (simp only [qm_wid_n, qm_wid_I, qm_wid_L, qm_wid_P] <;> omega)) only [b_M_tryEnds_9, qy0, qy1, qy2, qy3, qe, qcn, qin, ↓reduceIte, Nat.reduceEqDiff, Nat.reduceLeDiff, Bool.false_eq_true, Nat.reduceAdd, Nat.reduceSub, Nat.reduceMul, Nat.reduceLT, or_self, or_false, false_or, or_true, true_or, and_self, and_true, true_and, and_false, false_and, not_true_eq_false, not_false_eq_true, hct]) () X3 a5 ⟨fr_refl _ _, f3, fun c' z' h1 h2 h3 => by omega⟩
  have hww : zI X4 9 0 1 = nI w := (m1.1 9 0 1 (by decide)).trans (RT_w g2)
  have hR4 : RT X4 840 w y k tp fd fa pl T := RT_fr ok (K := [74]) (by decide) m1 g2
  refine ⟨uI X4 9 0 2 (nI 0), ?_, hR4.2, fp_uI (by first | omega | (dsimp only; omega)) m2 _ _, fun c z hc hz => ?_⟩
  · rw [est]
    refine e2.trans ?_
    refine (b_M_tryEnds_1 ..).trans ?_
    simp (config := {maxSteps := 1000000}) (disch := first | omega | assumption | (simp only [qm_wid_n, qm_wid_I, qm_wid_L, qm_wid_P] <;> omega)) only [b_M_tryEnds_6, qy0, qy1, qy2, qy3, qe, qcn, qin, ↓reduceIte, Nat.reduceEqDiff, Nat.reduceLeDiff, Bool.false_eq_true, Nat.reduceAdd, Nat.reduceSub, Nat.reduceMul, Nat.reduceLT, or_self, or_false, false_or, or_true, true_or, and_self, and_true, true_and, and_false, false_and, not_true_eq_false, not_false_eq_true, hw2, g1]
    refine e4.trans ?_
    refine (b_M_tryEnds_7 ..).trans ?_
    simp (config := {maxSteps := 1000000}) (disch := first | omega | assumption | (simp only [qm_wid_n, qm_wid_I, qm_wid_L, qm_wid_P] <;> omega)) only [b_M_tryEnds_10, qy0, qy1, qy2, qy3, qe, qcn, qin, ↓reduceIte, Nat.reduceEqDiff, Nat.reduceLeDiff, Bool.false_eq_true, Nat.reduceAdd, Nat.reduceSub, Nat.reduceMul, Nat.reduceLT, or_self, or_false, false_or, or_true, true_or, and_self, and_true, true_and, and_false, false_and, not_true_eq_false, not_false_eq_true, hww, r_tries]
  · rw [zI_uI, if_neg (by omega)]; exact m3 c z hc hz hc
theorem r_tryEnds1 (d : Nat) {x : qm_Hp} {w n i : Nat} {y k : VW} {tp : Nat → Int32} {fd : Nat} {fa pl : Int32} {T : Nat → TX} (ok : OKG w y k tp fd T) (hR : RM x w y k tp fd fa pl T) (hi : y 0 0 = nI i) (h9 : i + n ≤ 399) (hn : n ≤ 40) : ∃ x', qm_evM (d + 9) jM_tryEnds [qP 9 0, qI (nI n), qI (nI 1), qP 75 0] x = some (none, x') ∧ RM x' w y k tp fd fa pl T ∧ fp (fun k i => k = 9 ∨ k = 61 ∨ (65 ≤ k ∧ k ≤ 68) ∨ k = 75) x x' ∧ (∀ c z, c < w → z < cn y c → zI x' 75 0 (8 * c + z) = spq (rul T y) w y n 1 (8 * c + z)) := by
  have okp := ok.1.1
  have oky := ok.1.2
  have hw6 := okp.1.2
  have g0 := spw_r okp oky (e := 1) (by decide)
  have hcp := m_copy (d + 8) x 0 2 (by decide) (by decide) (by decide)
  have hX1 : RT (uI (uC x 61 0 0 61 0 840 420) 9 0 2 (nI 840)) 840 w y k tp fd fa pl T := RT_copy ok 0 2 (by decide) 840 (RT_0 ok hR)
  have hP1 : PM (uI (uC x 61 0 0 61 0 840 420) 9 0 2 (nI 840)) 840 w y := PM_copy okp 0 2 840 hR.2.1.1
  have f1 : fp (fun k i => k = 9 ∨ k = 61 ∨ (65 ≤ k ∧ k ≤ 68) ∨ k = 75) x (uI (uC x 61 0 0 61 0 840 420) 9 0 2 (nI 840)) := fp_uI (by first | omega | (dsimp only; omega)) (fp_uC (by first | omega | (dsimp only; omega)) (fp_refl _ _) _ _ _ _ _) _ _
  have est : qm_evM (d + 9) jM_tryEnds [qP 9 0, qI (nI n), qI (nI 1), qP 75 0] x = qm_evB (d + 9) jM_tryEnds 1 [qP 9 0, qI (nI n), qI (nI 1), qP 75 0, qI (nI 0), qU, qU] [] (uI (uC x 61 0 0 61 0 840 420) 9 0 2 (nI 840)) := by
    simp (config := {maxSteps := 1000000}) (disch := first | omega | assumption | (simp only [qm_wid_n, qm_wid_I, qm_wid_L, qm_wid_P] <;> omega)) only [e_M_tryEnds, b_M_tryEnds_0, qy0, qy1, qy2, qy3, qe, qcn, qin, ↓reduceIte, Nat.reduceEqDiff, Nat.reduceLeDiff, Bool.false_eq_true, Nat.reduceAdd, Nat.reduceSub, Nat.reduceMul, Nat.reduceLT, or_self, or_false, false_or, or_true, true_or, and_self, and_true, true_and, and_false, false_and, not_true_eq_false, not_false_eq_true, hcp, r_tries]
  generalize uI (uC x 61 0 0 61 0 840 420) 9 0 2 (nI 840) = X1 at hX1 hP1 f1 est
  obtain ⟨X2, ⟨a5, a6⟩, e2, j1, j2, j3⟩ := q_l3 w (cn y) (fun _ (a : Unit) => a) (fun _ _ a => a) (fun _ a => a) (fun c _ x' => RT x' 840 w y k tp fd fa pl T ∧ PM x' 840 w (vup y (spw y 1) (8 * c)) ∧ fp (fun k i => k = 9 ∨ k = 61 ∨ (65 ≤ k ∧ k ≤ 68) ∨ k = 75) x x') (fun c z _ x' => RT x' 840 w y k tp fd fa pl T ∧ PM x' 840 w (vup y (spw y 1) (8 * c + z)) ∧ fp (fun k i => k = 9 ∨ k = 61 ∨ (65 ≤ k ∧ k ≤ 68) ∨ k = 75) x x') (fun c _ x' (a : qm_AV × qm_AV) => qm_evB (d + 9) jM_tryEnds 1 [qP 9 0, qI (nI n), qI (nI 1), qP 75 0, qI (nI c), a.1, a.2] [] x') (fun c z _ x' (a : qm_AV) => qm_evB (d + 9) jM_tryEnds 2 [qP 9 0, qI (nI n), qI (nI 1), qP 75 0, qI (nI c), qI (nI z), a] [] x') (fun c _ x' a hc hs => by
      have hww := RT_w hs.1
      refine ⟨⟨a.2, ?_⟩, hs⟩
      refine (b_M_tryEnds_1 ..).trans ?_
      simp (config := {maxSteps := 1000000}) (disch := first | omega | assumption | (simp only [qm_wid_n, qm_wid_I, qm_wid_L, qm_wid_P] <;> omega)) only [qy0, qy1, qy2, qy3, qe, qcn, qin, ↓reduceIte, Nat.reduceEqDiff, Nat.reduceLeDiff, Bool.false_eq_true, Nat.reduceAdd, Nat.reduceSub, Nat.reduceMul, Nat.reduceLT, or_self, or_false, false_or, or_true, true_or, and_self, and_true, true_and, and_false, false_and, not_true_eq_false, not_false_eq_true, hww]) (fun c z _ x' a hc hz hs => by
      obtain ⟨k1, k2, k3⟩ := hs
      have h8 := OK_n okp hc
      have okb := vup_ok okp g0 (8 * c + z)
      have hct := r_count (d + 8) k2 okb k1.1 (by decide) hc
      rw [cn_up] at hct
      have hat := r_at0 (d + 8) k1.1 c z
      have hz2 : z < cn (vup y (spw y 1) (8 * c + z)) c := by rw [cn_up]; exact hz
      have hkd := PM_s k2 hc hz2 0 (by decide)
      have hlo := PM_s k2 hc hz2 4 (by decide)
      have hhi := PM_s k2 hc hz2 5 (by decide)
      rw [vup_ne (Or.inl (by decide))] at hkd hlo hhi
      simp only [Nat.reduceAdd, Nat.add_zero] at hkd hlo hhi
      obtain ⟨q1, q2, q3, q4, q5⟩ := okp.2.2.2 c z hc hz
      obtain ⟨kd, _, hk, ek⟩ := q1
      rw [ek] at hkd
      have hY := (RT_YM hw6 k1).2.2.2.1 kd (by omega)
      rw [Nat.zero_add] at hY
      obtain ⟨h13, h14⟩ := hY
      have s0 : spw y 1 (8 * c + z) = if y 6 (8 * c + z) = N1 then y 14 kd else y 7 (8 * c + z) := by unfold spw; rw [ek, nI_clamp (by omega)]
      have p2 := PM_put k2 okb 2 (8 * c + z) (by decide) (spw y 1 (8 * c + z))
      rw [show 2 + 2 = 4 from rfl, vup_s] at p2
      refine ⟨uI x' 61 0 (840 + 130 + 6 * (8 * c + z) + 2) (spw y 1 (8 * c + z)), qI (nI (840 + 130 + 6 * (8 * c + z))), ?_, RT_u ok _ _ (by omega) k1, p2, fp_uI (by first | omega | (dsimp only; omega)) k3 _ _⟩
      refine (b_M_tryEnds_2 ..).trans ?_
      rw [s0]
      by_cases hN : y 6 (8 * c + z) = N1
      · rw [hN] at hlo
        rw [if_pos hN]
        simp (config := {maxSteps := 1000000}) (disch := first | omega | assumption | (simp only [qm_wid_n, qm_wid_I, qm_wid_L, qm_wid_P] <;> omega)) only [b_M_tryEnds_3, b_M_tryEnds_4, qy0, qy1, qy2, qy3, qe, qcn, qin, ↓reduceIte, Nat.reduceEqDiff, Nat.reduceLeDiff, Bool.false_eq_true, Nat.reduceAdd, Nat.reduceSub, Nat.reduceMul, Nat.reduceLT, or_self, or_false, false_or, or_true, true_or, and_self, and_true, true_and, and_false, false_and, not_true_eq_false, not_false_eq_true, hct, hat, hkd, hlo, hhi, h13, h14, Nat.add_zero]
      · rw [if_neg hN]
        simp (config := {maxSteps := 1000000}) (disch := first | omega | assumption | (simp only [qm_wid_n, qm_wid_I, qm_wid_L, qm_wid_P] <;> omega)) only [b_M_tryEnds_3, b_M_tryEnds_4, qy0, qy1, qy2, qy3, qe, qcn, qin, ↓reduceIte, Nat.reduceEqDiff, Nat.reduceLeDiff, Bool.false_eq_true, Nat.reduceAdd, Nat.reduceSub, Nat.reduceMul, Nat.reduceLT, or_self, or_false, false_or, or_true, true_or, and_self, and_true, true_and, and_false, false_and, not_true_eq_false, not_false_eq_true, hct, hat, hkd, hlo, hhi, hN, Nat.add_zero]) (fun c _ x' a hc hs => by
      obtain ⟨k1, k2, k3⟩ := hs
      have h8 := OK_n okp hc
      have okb := vup_ok okp g0 (8 * c + cn y c)
      have hct := r_count (d + 8) k2 okb k1.1 (by decide) hc
      rw [cn_up] at hct
      refine ⟨x', (qI (nI (cn y c)), a), ?_, k1, PM_like (vup_col okp c hc) k2, k3⟩
      refine (b_M_tryEnds_2 ..).trans ?_
      simp (config := {maxSteps := 1000000}) (disch := first | omega | assumption | (simp only [qm_wid_n, qm_wid_I, qm_wid_L, qm_wid_P] <;> omega)) only [b_M_tryEnds_5, qy0, qy1, qy2, qy3, qe, qcn, qin, ↓reduceIte, Nat.reduceEqDiff, Nat.reduceLeDiff, Bool.false_eq_true, Nat.reduceAdd, Nat.reduceSub, Nat.reduceMul, Nat.reduceLT, or_self, or_false, false_or, or_true, true_or, and_self, and_true, true_and, and_false, false_and, not_true_eq_false, not_false_eq_true, hct]) () X1 (qU, qU) ⟨hX1, by rw [Nat.mul_zero, vup_0]; exact hP1, f1⟩
  have okv : OKP w (vsp w y 1) := vup_ok okp g0 (8 * w)
  have iv : vsp w y 1 0 0 = nI i := (vup_ne (Or.inl (by decide))).trans hi
  obtain ⟨X3, g1, g2, g3, g4⟩ := r_goOn d ok j1 (by decide) (by decide) (v := vsp w y 1) j2 okv iv h9 hn
  obtain ⟨o1, o2⟩ := psq_ok (τ := rul T y) (y := y) okv iv h9 n (Nat.le_refl _)
  have hcnv : ∀ c, cn (psq (rul T y) w y n (vsp w y 1)) c = cn y c := fun c => by rw [cn_psq]; unfold vsp; rw [cn_up]
  have f3 : fp (fun k i => k = 9 ∨ k = 61 ∨ (65 ≤ k ∧ k ≤ 68) ∨ k = 75) x X3 := fp_trans j3 (fp_fr (fun k i hk => by
    simp only [List.mem_cons, List.not_mem_nil, or_false] at hk
    first | omega | (dsimp only; omega)) g4.1)
  have hw2 := RT_w j1
  obtain ⟨X4, b5, e4, m1, m2, m3⟩ := q_l3 w (cn y) (fun _ (a : Unit) => a) (fun _ _ a => a) (fun _ a => a) (fun c _ x' => fr [75] X3 x' ∧ fp (fun k i => k = 9 ∨ k = 61 ∨ (65 ≤ k ∧ k ≤ 68) ∨ k = 75) x x' ∧ (∀ c' z', c' < w → z' < cn y c' → c' < c → zI x' 75 0 (8 * c' + z') = spq (rul T y) w y n 1 (8 * c' + z'))) (fun c z _ x' => fr [75] X3 x' ∧ fp (fun k i => k = 9 ∨ k = 61 ∨ (65 ≤ k ∧ k ≤ 68) ∨ k = 75) x x' ∧ (∀ c' z', c' < w → z' < cn y c' → (c' < c ∨ (c' = c ∧ z' < z)) → zI x' 75 0 (8 * c' + z') = spq (rul T y) w y n 1 (8 * c' + z'))) (fun c _ x' (b5 : qm_AV) => qm_evB (d + 9) jM_tryEnds 7 [qP 9 0, qI (nI n), qI (nI 1), qP 75 0, qI (nI c), b5, a6] [] x') (fun c z _ x' (_ : Unit) => qm_evB (d + 9) jM_tryEnds 8 [qP 9 0, qI (nI n), qI (nI 1), qP 75 0, qI (nI c), qI (nI z), a6] [] x') (fun c _ x' b5 hc hs => by
      have hww : zI x' 9 0 1 = nI w := (hs.1.1 9 0 1 (by decide)).trans (RT_w g2)
      refine ⟨⟨(), ?_⟩, hs.1, hs.2.1, fun c' z' h1 h2 h3 => hs.2.2 c' z' h1 h2 (by omega)⟩
      refine (b_M_tryEnds_7 ..).trans ?_
      simp (config := {maxSteps := 1000000}) (disch := first | omega | assumption | (simp only [qm_wid_n, qm_wid_I, qm_wid_L, qm_wid_P] <;> omega)) only [qy0, qy1, qy2, qy3, qe, qcn, qin, ↓reduceIte, Nat.reduceEqDiff, Nat.reduceLeDiff, Bool.false_eq_true, Nat.reduceAdd, Nat.reduceSub, Nat.reduceMul, Nat.reduceLT, or_self, or_false, false_or, or_true, true_or, and_self, and_true, true_and, and_false, false_and, not_true_eq_false, not_false_eq_true, hww]) (fun c z _ x' _ hc hz hs => by
      obtain ⟨k1, k2, k3⟩ := hs
      have h8 := OK_n okp hc
      have hPx : PM x' 840 w (psq (rul T y) w y n (vsp w y 1)) := PM_fr (K := [75]) (by decide) (k1.1 9 0 1 (by decide)) k1 g3
      have hbx : zI x' 9 0 2 = nI 840 := (k1.1 9 0 2 (by decide)).trans g2.1
      have hct := r_count (d + 8) hPx o1 hbx (by decide) hc
      rw [hcnv] at hct
      have hat := r_at0 (d + 8) hbx c z
      have hwt := PM_s hPx hc (by rw [hcnv]; exact hz) 2 (by decide)
      rw [show 2 + 2 = 4 from rfl] at hwt
      have hwt : zI x' 61 0 (840 + 130 + 6 * (8 * c + z) + 2) = spq (rul T y) w y n 1 (8 * c + z) := hwt
      refine ⟨uI x' 75 0 (8 * c + z) (spq (rul T y) w y n 1 (8 * c + z)), (), ?_, fr_uI (by decide) k1 _ _ _, fp_uI (by first | omega | (dsimp only; omega)) k2 _ _, fun c' z' h1 h2 h3 => ?_⟩
      · refine (b_M_tryEnds_8 ..).trans ?_
        simp (config := {maxSteps := 1000000}) (disch := first | omega | assumption | (simp only [qm_wid_n, qm_wid_I, qm_wid_L, qm_wid_P] <;> omega)) only [qy0, qy1, qy2, qy3, qe, qcn, qin, ↓reduceIte, Nat.reduceEqDiff, Nat.reduceLeDiff, Bool.false_eq_true, Nat.reduceAdd, Nat.reduceSub, Nat.reduceMul, Nat.reduceLT, or_self, or_false, false_or, or_true, true_or, and_self, and_true, true_and, and_false, false_and, not_true_eq_false, not_false_eq_true, hct, hat, hwt]
      · have h8' := OK_n okp h1
        rw [zI_uI]
        by_cases q : c' = c ∧ z' = z
        · rw [if_pos ⟨rfl, rfl, by omega⟩, q.1, q.2]
        · rw [if_neg (by omega)]; exact k3 c' z' h1 h2 (by omega)) (fun c _ x' _ hc hs => by
      obtain ⟨k1, k2, k3⟩ := hs
      have h8 := OK_n okp hc
      have hPx : PM x' 840 w (psq (rul T y) w y n (vsp w y 1)) := PM_fr (K := [75]) (by decide) (k1.1 9 0 1 (by decide)) k1 g3
      have hbx : zI x' 9 0 2 = nI 840 := (k1.1 9 0 2 (by decide)).trans g2.1
      have hct := r_count (d + 8) hPx o1 hbx (by decide) hc
      rw [hcnv] at hct
      refine ⟨x', qI (nI (cn y c)), ?_, k1, k2, fun c' z' h1 h2 h3 => k3 c' z' h1 h2 (by
        by_cases q : c' = c
        · subst q; omega
        · omega)⟩
      refine (b_M_tryEnds_8 ..).trans ?_
      simp (config := {maxSteps := 1000000}) (disch := first | omega | assumption | (simp only [qm_wid_n, qm_wid_I, qm_wid_L, qm_wid_P] <;> omega)) only [b_M_tryEnds_9, qy0, qy1, qy2, qy3, qe, qcn, qin, ↓reduceIte, Nat.reduceEqDiff, Nat.reduceLeDiff, Bool.false_eq_true, Nat.reduceAdd, Nat.reduceSub, Nat.reduceMul, Nat.reduceLT, or_self, or_false, false_or, or_true, true_or, and_self, and_true, true_and, and_false, false_and, not_true_eq_false, not_false_eq_true, hct]) () X3 a5 ⟨fr_refl _ _, f3, fun c' z' h1 h2 h3 => by omega⟩
  have hww : zI X4 9 0 1 = nI w := (m1.1 9 0 1 (by decide)).trans (RT_w g2)
  have hR4 : RT X4 840 w y k tp fd fa pl T := RT_fr ok (K := [75]) (by decide) m1 g2
  refine ⟨uI X4 9 0 2 (nI 0), ?_, hR4.2, fp_uI (by first | omega | (dsimp only; omega)) m2 _ _, fun c z hc hz => ?_⟩
  · rw [est]
    refine e2.trans ?_
    refine (b_M_tryEnds_1 ..).trans ?_
    simp (config := {maxSteps := 1000000}) (disch := first | omega | assumption | (simp only [qm_wid_n, qm_wid_I, qm_wid_L, qm_wid_P] <;> omega)) only [b_M_tryEnds_6, qy0, qy1, qy2, qy3, qe, qcn, qin, ↓reduceIte, Nat.reduceEqDiff, Nat.reduceLeDiff, Bool.false_eq_true, Nat.reduceAdd, Nat.reduceSub, Nat.reduceMul, Nat.reduceLT, or_self, or_false, false_or, or_true, true_or, and_self, and_true, true_and, and_false, false_and, not_true_eq_false, not_false_eq_true, hw2, g1]
    refine e4.trans ?_
    refine (b_M_tryEnds_7 ..).trans ?_
    simp (config := {maxSteps := 1000000}) (disch := first | omega | assumption | (simp only [qm_wid_n, qm_wid_I, qm_wid_L, qm_wid_P] <;> omega)) only [b_M_tryEnds_10, qy0, qy1, qy2, qy3, qe, qcn, qin, ↓reduceIte, Nat.reduceEqDiff, Nat.reduceLeDiff, Bool.false_eq_true, Nat.reduceAdd, Nat.reduceSub, Nat.reduceMul, Nat.reduceLT, or_self, or_false, false_or, or_true, true_or, and_self, and_true, true_and, and_false, false_and, not_true_eq_false, not_false_eq_true, hww, r_tries]
  · rw [zI_uI, if_neg (by omega)]; exact m3 c z hc hz hc
