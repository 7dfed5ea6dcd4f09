/-! calls: image, back -/
theorem cp_in (s : qm_Hp) (f t j : Nat) (hj : j < 420) : zI (uC s 61 0 (420 * f) 61 0 (420 * t) 420) 61 0 (420 * t + j) = zI s 61 0 (420 * f + j) := by
  rw [zI_uC, if_pos ⟨rfl, rfl, by omega, by omega⟩, Nat.add_sub_cancel_left]
theorem cp_out (s : qm_Hp) (f t j : Nat) (hj : j < 420 * t ∨ 420 * t + 420 ≤ j) : zI (uC s 61 0 (420 * f) 61 0 (420 * t) 420) 61 0 j = zI s 61 0 j := by
  rw [zI_uC, if_neg (fun g => by omega)]
theorem PM_tr {s s' : qm_Hp} {b b' w : Nat} {y : VW} (ok : OKP w y) (hw : zI s' 9 0 1 = nI w) (e : ∀ j, j < 420 → zI s' 61 0 (b' + j) = zI s 61 0 (b + j)) (h : PM s b w y) : PM s' b' w y := by
  have h6 := ok.1.2
  refine ⟨hw, ⟨(e 0 (by omega)).trans h.2.1.1, (e 7 (by omega)).trans h.2.1.2.1, (e 4 (by omega)).trans h.2.1.2.2.1, (e 5 (by omega)).trans h.2.1.2.2.2.1, (e 6 (by omega)).trans h.2.1.2.2.2.2⟩, fun c hc => ?_, fun f c z hf hc hz => ?_⟩
  · have := e (120 + c) (by omega)
    rw [← Nat.add_assoc, ← Nat.add_assoc] at this
    exact this.trans (h.2.2.1 c hc)
  · have h8 := OK_n ok hc
    have := e (130 + 6 * (8 * c + z) + f) (by omega)
    rw [← Nat.add_assoc, ← Nat.add_assoc, ← Nat.add_assoc, ← Nat.add_assoc] at this
    exact this.trans (h.2.2.2 f c z hf hc hz)
theorem YM_tr {s s' : qm_Hp} {b b' w : Nat} {y : VW} (hw : w ≤ 6) (e : ∀ j, j < 420 → zI s' 61 0 (b' + j) = zI s 61 0 (b + j)) (h : YM s b w y) : YM s' b' w y := by
  have e' : ∀ j v, j < 420 → zI s 61 0 (b + j) = v → zI s' 61 0 (b' + j) = v := fun j v hj q => (e j hj).trans q
  refine ⟨⟨e' 1 _ (by omega) h.1.1, e' 2 _ (by omega) h.1.2.1, e' 3 _ (by omega) h.1.2.2.1, e' 8 _ (by omega) h.1.2.2.2⟩, fun j hj i hi => ?_, fun j hj => ?_, fun j hj => ?_, fun c hc => ?_⟩
  · have := e (20 + 4 * j + i) (by omega)
    rw [← Nat.add_assoc, ← Nat.add_assoc, ← Nat.add_assoc, ← Nat.add_assoc] at this
    exact this.trans (h.2.1 j hj i hi)
  · have := e (70 + j) (by omega)
    rw [← Nat.add_assoc, ← Nat.add_assoc] at this
    exact this.trans (h.2.2.1 j hj)
  · obtain ⟨a1, a2⟩ := h.2.2.2.1 j hj
    have t1 := e (10 + 2 * j) (by omega)
    have t2 := e (10 + 2 * j + 1) (by omega)
    rw [← Nat.add_assoc, ← Nat.add_assoc] at t1
    rw [← Nat.add_assoc, ← Nat.add_assoc, ← Nat.add_assoc, ← Nat.add_assoc] at t2
    exact ⟨t1.trans a1, t2.trans a2⟩
  · have := e (112 + c) (by omega)
    rw [← Nat.add_assoc, ← Nat.add_assoc] at this
    exact this.trans (h.2.2.2.2 c hc)
theorem mp_uC (s : qm_Hp) (a b n : Nat) : fp MP s (uC s 61 0 a 61 0 b n) := fp_uC (by unfold MP; omega) (fp_refl _ _) _ _ _ _ _
theorem YPi_CP {i : Nat} {s s' : qm_Hp} (h : fp (YPi i) s s') : fp CP s s' := fp_mono (fun k i hk => by unfold YPi at hk; unfold CP; omega) h
theorem fz01 {w : Nat} {y : VW} (h : OKY w y) : y 0 8 = 0 ∨ y 0 8 = 1 := by
  obtain ⟨j, _, hj, e⟩ := h.2.2.2.1
  have : j = 0 ∨ j = 1 := by omega
  rcases this with q | q <;> subst q
  · exact Or.inl e
  · exact Or.inr e
theorem st_image (d : Nat) : STP (d + 40) jC_image jM_image [] := by
  refine stp_rw fun s w y k tp fd fa pl T hC hM ok => ?_
  have okp := ok.1.1
  have hw := okp.1
  have hff := ybec_fp s 1 0
  have hb := c_ybec (d + 38) s 1 0 (by decide) (by rw [hC.1.2.1.2.2.2]; exact fz01 ok.1.2)
  have hP0 : PC (hy_bec s 1 0) 0 w y := PC_fp (fun k hk => by unfold YPi; omega) hff hC.1.1
  refine ⟨nI (spl y w), y, y, tp, fd, fa, pl, T, ⟨ok.1, ok.1, Nat.le_refl _, ok.2.2.2⟩, ⟨hy_bec s 1 0, ?_, YPi_CP hff, ?_⟩, fun s1 g1 => ⟨uC s1 61 0 (420 * 0) 61 0 (420 * 1) 420, ?_, mp_uC _ _ _ _, ?_⟩⟩
  · have hsp := c_splits (d + 39) hP0 okp
    simp (config := {maxSteps := 1000000}) (disch := first | omega | assumption | (simp only [qm_wid_n, qm_wid_I, qm_wid_L, qm_wid_P] <;> omega)) only [e_C_image, b_C_image_0, qy0, qy1, qy2, qy3, qe, qcn, qin, ↓reduceIte, Nat.reduceEqDiff, Nat.reduceLeDiff, Bool.false_eq_true, Nat.reduceAdd, Nat.reduceSub, Nat.reduceMul, Nat.reduceLT, or_self, or_false, false_or, or_true, true_or, and_self, and_true, true_and, and_false, false_and, not_true_eq_false, not_false_eq_true, hb, hsp]
  · obtain ⟨⟨a1, a2⟩, ⟨a3, a4⟩, a5, ⟨a6, a7⟩, a9, ⟨a10, a11⟩, a12⟩ := id hC
    have hw1 : zI (hy_bec s 1 0) 3 1 0 = nI w := (PC_ybec a1 okp (i := 1) (by decide) (a5 1 (by decide))).1
    refine ⟨⟨hP0, YC_fp (fun k hk => by unfold YPi; omega) hff a2⟩, ⟨PC_ybec a1 okp (by decide) (a5 1 (by decide)), YC_bec hw.2 a2⟩, fun p hp => ?_, ⟨(hff.1 1 0 7 (by unfold YPi; omega)).trans a6, fun j hj => (hff.1 52 0 j (by unfold YPi; omega)).trans (a7 j hj)⟩, ?_, ⟨fun t ht => TC_fp (fun k hk => by unfold YPi; omega) hff (a10 t ht), TC_fp (fun k hk => by unfold YPi; omega) hff a11⟩, (hff.2.2 5 0 0 (by unfold YPi; omega)).trans a12⟩
    · by_cases q : p = 1
      · subst q; exact hw1
      · exact (hff.1 3 p 0 (by unfold YPi; omega)).trans (a5 p hp)
    · rw [hff.1 1 0 8 (by unfold YPi; omega), hff.1 6 0 4 (by unfold YPi; omega), hff.1 6 0 5 (by unfold YPi; omega)]
      exact a9
  · have hcp := m_copy (d + 39) s1 0 1 (by decide) (by decide) (by decide)
    have hPM0 : PM (uC s1 61 0 (420 * 0) 61 0 (420 * 1) 420) 0 w y := PM_tr okp g1.2.1.1.1 (fun j hj => cp_out _ _ _ _ (by omega)) g1.2.1.1
    have hsp := r_splits (d + 38) hPM0 okp g1.1.1 (by decide)
    simp (config := {maxSteps := 1000000}) (disch := first | omega | assumption | (simp only [qm_wid_n, qm_wid_I, qm_wid_L, qm_wid_P] <;> omega)) only [e_M_image, b_M_image_0, qy0, qy1, qy2, qy3, qe, qcn, qin, ↓reduceIte, Nat.reduceEqDiff, Nat.reduceLeDiff, Bool.false_eq_true, Nat.reduceAdd, Nat.reduceSub, Nat.reduceMul, Nat.reduceLT, or_self, or_false, false_or, or_true, true_or, and_self, and_true, true_and, and_false, false_and, not_true_eq_false, not_false_eq_true, hcp, hsp]
  · obtain ⟨⟨a1, a2⟩, ⟨a3, a4⟩, ⟨a5, a6⟩, ⟨a7, a8⟩, ⟨a9, a10⟩, a11⟩ := g1
    exact ⟨⟨a1, a2⟩, ⟨PM_tr okp a3.1 (fun j hj => cp_out _ _ _ _ (by omega)) a3, YM_tr hw.2 (fun j hj => cp_out _ _ _ _ (by omega)) a4⟩, ⟨PM_tr okp a3.1 (fun j hj => cp_in s1 0 1 j hj) a3, YM_tr hw.2 (fun j hj => cp_in s1 0 1 j hj) a4⟩, ⟨a7, a8⟩, ⟨a9, a10⟩, fun t ht => TM_eq (fun j => rfl) (a11 t ht)⟩
theorem st_back (d : Nat) : STP (d + 40) jC_back jM_back [] := by
  refine stp_rw fun s w y k tp fd fa pl T hC hM ok => ?_
  have okk := ok.2.1.1
  have hw := okk.1
  have hff := ybec_fp s 0 1
  have hb := c_ybec (d + 38) s 0 1 (by decide) (by rw [hC.2.1.2.1.2.2.2]; exact fz01 ok.2.1.2)
  have hYk : YC (hy_bec s 0 1) 0 w k := YC_bec hw.2 hC.2.1.2
  have hPk : PC (hy_bec s 0 1) 0 w k := PC_ybec hC.2.1.1 okk (by decide) (hC.2.2.1 0 (by decide))
  obtain ⟨n, _, hn, en⟩ := ok.2.1.2.2.1
  have h11 : zI (hy_bec s 0 1) 2 0 11 = nI n := hYk.1.2.1.trans en
  have h12 : zI (hy_bec s 0 1) 2 0 12 = k 0 7 := hYk.1.2.2.1
  have hob : qm_evM (d + 39) jC_obey [qP 1 0] (hy_bec s 0 1) = some (none, uP (hy_bec s 0 1) 5 0 0 (4, ru k)) := by
    have hit := t_isText (d + 37) h11 (k 0 7)
    unfold ru
    rcases ok.2.1.2.2.2.1 with g | ⟨t, u, e1, e2, g1, g2⟩
    · rw [g, if_neg] at hit
      · rw [if_pos g]
        rw [g] at h12
        simp (config := {maxSteps := 1000000}) (disch := first | omega | assumption | (simp only [qm_wid_n, qm_wid_I, qm_wid_L, qm_wid_P] <;> omega)) only [e_C_obey, b_C_obey_0, b_C_obey_1, b_C_obey_2, qy0, qy1, qy2, qy3, qe, qcn, qin, ↓reduceIte, Nat.reduceEqDiff, Nat.reduceLeDiff, Bool.false_eq_true, Nat.reduceAdd, Nat.reduceSub, Nat.reduceMul, Nat.reduceLT, or_self, or_false, false_or, or_true, true_or, and_self, and_true, true_and, and_false, false_and, not_true_eq_false, not_false_eq_true, h12, hit]
      · rintro ⟨q, _⟩; exact absurd q (by decide)
    · have hun : u = n := by
        rw [e2] at en
        exact (nI_eq (by omega) (by omega)).mp en
      subst hun
      rw [e1, if_pos ⟨nI_le (Nat.zero_le _) (by omega), by rw [pk_sub (by omega)]; exact nI_le (by omega) (by omega)⟩] at hit
      rw [e1, if_neg (by rw [i_m1 (by omega)]; exact id), nI_clamp (by omega)]
      rw [e1] at h12
      simp (config := {maxSteps := 1000000}) (disch := first | omega | assumption | (simp only [qm_wid_n, qm_wid_I, qm_wid_L, qm_wid_P] <;> omega)) only [e_C_obey, b_C_obey_0, b_C_obey_1, b_C_obey_2, qy0, qy1, qy2, qy3, qe, qcn, qin, ↓reduceIte, Nat.reduceEqDiff, Nat.reduceLeDiff, Bool.false_eq_true, Nat.reduceAdd, Nat.reduceSub, Nat.reduceMul, Nat.reduceLT, or_self, or_false, false_or, or_true, true_or, and_self, and_true, true_and, and_false, false_and, not_true_eq_false, not_false_eq_true, h12, hit]
  have hfP : fp (fun a j => YPi 0 a j ∨ a = 5) s (uP (hy_bec s 0 1) 5 0 0 (4, ru k)) := by
    refine ⟨fun a b c q => hff.1 a b c (fun g => q (Or.inl g)), fun a b c q => hff.2.1 a b c (fun g => q (Or.inl g)), fun a b c q => ?_⟩
    rw [zP_uP, if_neg (fun z => q (Or.inr z.1))]
    exact hff.2.2 a b c (fun g => q (Or.inl g))
  refine ⟨nI (spl k w), k, k, tp, fd, fa, pl, T, ⟨ok.2.1, ok.2.1, Nat.le_refl _, fun t ht => ok.2.2.2.1 t (by have := ok.2.2.1; omega), ok.2.2.2.2⟩, ⟨uP (hy_bec s 0 1) 5 0 0 (4, ru k), ?_, fp_mono (fun a j hk => by unfold YPi at hk; unfold CP; omega) hfP, ?_⟩, fun s1 g1 => ⟨uC s1 61 0 (420 * 1) 61 0 (420 * 0) 420, ?_, mp_uC _ _ _ _, ?_⟩⟩
  · have hsp := c_splits (d + 39) (s := uP (hy_bec s 0 1) 5 0 0 (4, ru k)) (p := 0) (w := w) (y := k) hPk okk
    simp (config := {maxSteps := 1000000}) (disch := first | omega | assumption | (simp only [qm_wid_n, qm_wid_I, qm_wid_L, qm_wid_P] <;> omega)) only [e_C_back, b_C_back_0, qy0, qy1, qy2, qy3, qe, qcn, qin, ↓reduceIte, Nat.reduceEqDiff, Nat.reduceLeDiff, Bool.false_eq_true, Nat.reduceAdd, Nat.reduceSub, Nat.reduceMul, Nat.reduceLT, or_self, or_false, false_or, or_true, true_or, and_self, and_true, true_and, and_false, false_and, not_true_eq_false, not_false_eq_true, hb, hob, hsp]
  · obtain ⟨⟨a1, a2⟩, ⟨a3, a4⟩, a5, ⟨a6, a7⟩, a9, ⟨a10, a11⟩, a12⟩ := id hC
    have e : ∀ a i j, ¬ (YPi 0 a i ∨ a = 5) → zI (uP (hy_bec s 0 1) 5 0 0 (4, ru k)) a i j = zI s a i j := hfP.1
    refine ⟨⟨hPk, hYk⟩, ⟨PC_fp (fun k hk => by unfold YPi; omega) hfP a3, YC_fp (fun k hk => by unfold YPi; omega) hfP a4⟩, fun p hp => ?_, ⟨(e 1 0 7 (by unfold YPi; omega)).trans a6, fun j hj => (e 52 0 j (by unfold YPi; omega)).trans (a7 j hj)⟩, ?_, ⟨fun t ht => TC_fp (fun k hk => by unfold YPi; omega) hfP (a10 t (by have := ok.2.2.1; omega)), TC_fp (fun k hk => by unfold YPi; omega) hfP a11⟩, by rw [zP_uP, if_pos ⟨rfl, rfl, rfl⟩]⟩
    · by_cases q : p = 0
      · subst q; exact hPk.1
      · exact (e 3 p 0 (by unfold YPi; omega)).trans (a5 p hp)
    · rw [e 1 0 8 (by unfold YPi; omega), e 6 0 4 (by unfold YPi; omega), e 6 0 5 (by unfold YPi; omega)]
      exact a9
  · have hcp := m_copy (d + 39) s1 1 0 (by decide) (by decide) (by decide)
    have hPM0 : PM (uC s1 61 0 (420 * 1) 61 0 (420 * 0) 420) 0 w k := PM_tr okk g1.2.2.1.1.1 (fun j hj => cp_in s1 1 0 j hj) g1.2.2.1.1
    have hsp := r_splits (d + 38) hPM0 okk g1.1.1 (by decide)
    simp (config := {maxSteps := 1000000}) (disch := first | omega | assumption | (simp only [qm_wid_n, qm_wid_I, qm_wid_L, qm_wid_P] <;> omega)) only [e_M_back, b_M_back_0, qy0, qy1, qy2, qy3, qe, qcn, qin, ↓reduceIte, Nat.reduceEqDiff, Nat.reduceLeDiff, Bool.false_eq_true, Nat.reduceAdd, Nat.reduceSub, Nat.reduceMul, Nat.reduceLT, or_self, or_false, false_or, or_true, true_or, and_self, and_true, true_and, and_false, false_and, not_true_eq_false, not_false_eq_true, hcp, hsp]
  · obtain ⟨⟨a1, a2⟩, ⟨a3, a4⟩, ⟨a5, a6⟩, ⟨a7, a8⟩, ⟨a9, a10⟩, a11⟩ := g1
    exact ⟨⟨a1, a2⟩, ⟨PM_tr okk a5.1 (fun j hj => cp_in s1 1 0 j hj) a5, YM_tr hw.2 (fun j hj => cp_in s1 1 0 j hj) a6⟩, ⟨PM_tr okk a5.1 (fun j hj => cp_out _ _ _ _ (by omega)) a5, YM_tr hw.2 (fun j hj => cp_out _ _ _ _ (by omega)) a6⟩, ⟨a7, a8⟩, ⟨a9, a10⟩, fun t ht => TM_eq (fun j => rfl) (a11 t (by have := ok.2.2.1; omega))⟩
