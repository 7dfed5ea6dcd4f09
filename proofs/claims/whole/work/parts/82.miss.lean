/-! calls: remember, missing -/
def vrem (y : VW) : VW := fun a j => if a = 15 then nI (cn y j) else if a = 0 ∧ j = 8 then nI 1 else y a j
theorem vrem_ne {y : VW} {a j : Nat} (h1 : a ≠ 15) (h2 : ¬ (a = 0 ∧ j = 8)) : vrem y a j = y a j := by unfold vrem; rw [if_neg h1, if_neg h2]
theorem vq_rem (y : VW) : vq y (vrem y) := ⟨fun a j h => vrem_ne (by omega) (by omega), vrem_ne (by omega) (by omega), vrem_ne (by omega) (by omega)⟩
theorem st_remember (d : Nat) : STP (d + 40) jC_remember jM_remember [] := by
  refine stp_rw fun s w y k tp fd fa pl T hC hM ok => ?_
  have okp := ok.1.1
  have hw := okp.1
  have hPC := hC.1.1
  have e8 : vrem y 0 8 = nI 1 := rfl
  have e15 : ∀ j, vrem y 15 j = nI (cn y j) := fun j => rfl
  have oky : OKY w (vrem y) := by
    have h := ok.1.2
    refine ⟨by rw [vrem_ne (by omega) (by omega)]; exact h.1, by rw [vrem_ne (by omega) (by omega)]; exact h.2.1, by rw [vrem_ne (by omega) (by omega), vrem_ne (by omega) (by omega)]; exact h.2.2.1, ⟨1, by decide, by decide, rfl⟩, fun j hj i hi => by rw [vrem_ne (by omega) (by omega)]; exact h.2.2.2.2.1 j hj i hi, fun j hj => by rw [vrem_ne (by omega) (by omega)]; exact h.2.2.2.2.2.1 j hj, fun j hj => by rw [vrem_ne (by omega) (by omega), vrem_ne (by omega) (by omega)]; exact h.2.2.2.2.2.2.1 j hj, fun c hc => ⟨cn y c, Nat.zero_le _, OK_n okp hc, rfl⟩⟩
  have hfp : fp YP s (uI (uC s 17 0 0 28 0 0 6) 2 0 10 1) := yp_u _ _ (fp_uC (by unfold YP; omega) (fp_refl _ _) _ _ _ _ _) _ _ _ (by omega)
  have hYC : YC (uI (uC s 17 0 0 28 0 0 6) 2 0 10 1) 0 w (vrem y) := by
    have h := hC.1.2
    have e : ∀ a j, ¬ (a = 28) → ¬ (a = 2 ∧ j = 10) → zI (uI (uC s 17 0 0 28 0 0 6) 2 0 10 1) a 0 j = zI s a 0 j := fun a j q1 q2 => by
      rw [zI_uI, if_neg (by omega), zI_uC, if_neg (by omega)]
    refine ⟨⟨?_, ?_, ?_, ?_⟩, fun j hj => ?_, fun j hj => ?_, fun j hj => ?_, fun c hc => ?_⟩
    · rw [e _ _ (by omega) (by omega), vrem_ne (by omega) (by omega)]; exact h.1.1
    · rw [e _ _ (by omega) (by omega), vrem_ne (by omega) (by omega)]; exact h.1.2.1
    · rw [e _ _ (by omega) (by omega), vrem_ne (by omega) (by omega)]; exact h.1.2.2.1
    · rw [zI_uI, if_pos ⟨rfl, rfl, rfl⟩, e8]; rfl
    · rw [e _ _ (by omega) (by omega), e _ _ (by omega) (by omega), e _ _ (by omega) (by omega), e _ _ (by omega) (by omega), vrem_ne (by omega) (by omega), vrem_ne (by omega) (by omega), vrem_ne (by omega) (by omega), vrem_ne (by omega) (by omega)]; exact h.2.1 j hj
    · rw [e _ _ (by omega) (by omega), vrem_ne (by omega) (by omega)]; exact h.2.2.1 j hj
    · rw [e _ _ (by omega) (by omega), e _ _ (by omega) (by omega), vrem_ne (by omega) (by omega), vrem_ne (by omega) (by omega)]; exact h.2.2.2.1 j hj
    · rw [zI_uI, if_neg (by omega), zI_uC, if_pos ⟨rfl, rfl, by omega, by omega⟩, Nat.zero_add, Nat.sub_zero, e15]
      exact PC_c hPC hc
  refine ⟨nI (spl y w), vrem y, k, tp, fd, fa, pl, T, OKG_yard oky (vq_rem y) ok, ⟨_, ?_, YP_CP hfp, RC_yard hfp hYC (vq_rem y) hC⟩, fun s1 g1 => ?_⟩
  · have hP0 : PC (uI (uC s 17 0 0 28 0 0 6) 2 0 10 1) 0 w y := PC_fp (fun k hk => by unfold YP; omega) hfp hPC
    have hsp := c_splits (d + 39) hP0 okp
    simp only [e_C_remember, b_C_remember_0, qx, qe, qc, qil, reduceIte, Nat.reduceEqDiff, Nat.reduceLeDiff, Bool.false_eq_true, Nat.reduceAdd, Nat.reduceLT, List.length_cons, List.length_nil, or_self, or_false, false_or, or_true, true_or, and_self, and_true, true_and, and_false, false_and, not_true_eq_false, not_false_eq_true, Nat.zero_le, qz1, qz2, qz3, qz4, qz5, qz6, qz7, qz8, qz9, qz0, qz10, qz01, qtn, qn0, Nat.lt_irrefl, Nat.not_lt_zero, hsp]
  · obtain ⟨x, e, q1, q2, q3⟩ := q_lp w (fun c (x : qm_Hp) => qm_evB (d + 40) jM_remember 1 [qP 9 0, qI (nI c)] [] x) (fun c x => fr [61] s1 x ∧ (∀ j, ¬ (112 ≤ j ∧ j < 118) → zI x 61 0 j = zI s1 61 0 j) ∧ (∀ c', c' < c → zI x 61 0 (112 + c') = nI (cn y c'))) (fun c x hc hx => by
      obtain ⟨i1, i2, i3⟩ := hx
      have hww : zI x 9 0 1 = nI w := (i1.1 9 0 1 (by decide)).trans g1.2.1.1.1
      have hbx : zI x 9 0 2 = nI 0 := (i1.1 9 0 2 (by decide)).trans g1.1.1
      have hct : qm_evM (d + 39) jM_count [qP 9 0, qI (nI c)] x = some (some (qI (nI (cn y c))), x) := by
        rw [m_count (d + 39) x 0 c hbx (by omega), i2 _ (by omega), PM_c g1.2.1.1 hc]
      refine ⟨uI x 61 0 (112 + c) (nI (cn y c)), ?_, fr_uI (by decide) i1 _ _ _, fun j hj => ?_, fun c' hc' => ?_⟩
      · refine (b_M_remember_1 ..).trans ?_
        simp (config := {maxSteps := 1000000}) (disch := first | omega | assumption | (simp only [qm_wid_n, qm_wid_I, qm_wid_L, qm_wid_P] <;> omega)) only [qy0, qy1, qy2, qy3, qe, qcn, qin, ↓reduceIte, Nat.reduceEqDiff, Nat.reduceLeDiff, Bool.false_eq_true, Nat.reduceAdd, Nat.reduceSub, Nat.reduceMul, Nat.reduceLT, or_self, or_false, false_or, or_true, true_or, and_self, and_true, true_and, and_false, false_and, not_true_eq_false, not_false_eq_true, hww, hct]
      · rw [zI_uI, if_neg (by omega)]; exact i2 j hj
      · rw [zI_uI]
        by_cases q : c' = c
        · rw [if_pos ⟨rfl, rfl, by omega⟩, q]
        · rw [if_neg (by omega)]; exact i3 c' (by omega)) 0 s1 (Nat.zero_le _) ⟨fr_refl _ _, fun _ _ => rfl, fun c' hc' => by omega⟩
    have hf2 : fr [61] s1 (uI x 61 0 8 (nI 1)) := fr_uI (by decide) q1 _ _ _
    have e2 : ∀ j, ¬ (112 ≤ j ∧ j < 118) → j ≠ 8 → zI (uI x 61 0 8 (nI 1)) 61 0 j = zI s1 61 0 j := fun j h1 h2 => by
      rw [zI_uI, if_neg (by omega)]; exact q2 j h1
    have hYM : YM (uI x 61 0 8 (nI 1)) 0 w (vrem y) := by
      have h := g1.2.1.2
      refine ⟨⟨?_, ?_, ?_, ?_⟩, fun j hj i hi => ?_, fun j hj => ?_, fun j hj => ?_, fun c hc => ?_⟩
      · rw [e2 _ (by omega) (by omega), vrem_ne (by omega) (by omega)]; exact h.1.1
      · rw [e2 _ (by omega) (by omega), vrem_ne (by omega) (by omega)]; exact h.1.2.1
      · rw [e2 _ (by omega) (by omega), vrem_ne (by omega) (by omega)]; exact h.1.2.2.1
      · rw [zI_uI, if_pos ⟨rfl, rfl, rfl⟩, e8]
      · rw [e2 _ (by omega) (by omega), vrem_ne (by omega) (by omega)]; exact h.2.1 j hj i hi
      · rw [e2 _ (by omega) (by omega), vrem_ne (by omega) (by omega)]; exact h.2.2.1 j hj
      · rw [e2 _ (by omega) (by omega), e2 _ (by omega) (by omega), vrem_ne (by omega) (by omega), vrem_ne (by omega) (by omega)]; exact h.2.2.2.1 j hj
      · rw [zI_uI, if_neg (by omega), e15, Nat.zero_add]; exact q3 c hc
    have hRM : RM (uI x 61 0 8 (nI 1)) w (vrem y) k tp fd fa pl T := RM_yard hw.2 (fun j _ => hf2.1 9 0 j (by decide)) (fun j hj => e2 j (by omega) (by omega)) (fun j => hf2.1 62 0 j (by decide)) (fun j => hf2.1 63 0 j (by decide)) hYM (vq_rem y) g1
    refine ⟨uI x 61 0 8 (nI 1), ?_, fp_fr (fun k i hk => by simp only [List.mem_cons, List.not_mem_nil, or_false] at hk; unfold MP; omega) hf2, hRM⟩
    have hww : zI x 9 0 1 = nI w := (q1.1 9 0 1 (by decide)).trans g1.2.1.1.1
    have okr : OKP w (vrem y) := OKP_like (vq_like (vq_rem y)) okp
    have hsp := r_splits (d + 38) hRM.2.1.1 okr hRM.1.1 (by decide)
    have hsl : ∀ n, spl (vrem y) n = spl y n := fun n => by
      induction n with
      | zero => rfl
      | succ n ih =>
        show spl (vrem y) n + cn (vrem y) n = spl y n + cn y n
        have : cn (vrem y) n = cn y n := by unfold cn; rw [vrem_ne (by omega) (by omega)]
        rw [ih, this]
    rw [hsl] at hsp
    simp (config := {maxSteps := 1000000}) (disch := first | omega | assumption | (simp only [qm_wid_n, qm_wid_I, qm_wid_L, qm_wid_P] <;> omega)) only [e_M_remember, b_M_remember_0, qy0, qy1, qy2, qy3, qe, qcn, qin, ↓reduceIte, Nat.reduceEqDiff, Nat.reduceLeDiff, Bool.false_eq_true, Nat.reduceAdd, Nat.reduceSub, Nat.reduceMul, Nat.reduceLT, or_self, or_false, false_or, or_true, true_or, and_self, and_true, true_and, and_false, false_and, not_true_eq_false, not_false_eq_true]
    refine e.trans ?_
    simp (config := {maxSteps := 1000000}) (disch := first | omega | assumption | (simp only [qm_wid_n, qm_wid_I, qm_wid_L, qm_wid_P] <;> omega)) only [b_M_remember_1, b_M_remember_2, qy0, qy1, qy2, qy3, qe, qcn, qin, ↓reduceIte, Nat.reduceEqDiff, Nat.reduceLeDiff, Bool.false_eq_true, Nat.reduceAdd, Nat.reduceSub, Nat.reduceMul, Nat.reduceLT, or_self, or_false, false_or, or_true, true_or, and_self, and_true, true_and, and_false, false_and, not_true_eq_false, not_false_eq_true, hww, hsp]
