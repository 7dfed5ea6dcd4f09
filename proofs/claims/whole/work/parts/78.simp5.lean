/-! calls: end, by, about, fault -/
theorem RC_c1 {s s' : qm_Hp} {w : Nat} {y k : VW} {tp tp' : Nat → Int32} {fd fd' : Nat} {fa pl : Int32} {T : Nat → TX} (hf : fp (fun k i => k = 1 ∨ k = 52) s s') (h7 : zI s' 1 0 7 = nI fd') (h8 : zI s' 1 0 8 = zI s 1 0 8) (ht : ∀ j, j < fd' → zI s' 52 0 j = tp' j) (h : RC s w y k tp fd fa pl T) : RC s' w y k tp' fd' fa pl T := by
  obtain ⟨⟨a1, a2⟩, ⟨a3, a4⟩, a5, ⟨a6, a7⟩, a9, ⟨a10, a11⟩, a12⟩ := h
  refine ⟨⟨PC_fp (fun k hk => by first | omega | (dsimp only; omega)) hf a1, YC_fp (fun k hk => by first | omega | (dsimp only; omega)) hf a2⟩, ⟨PC_fp (fun k hk => by first | omega | (dsimp only; omega)) hf a3, YC_fp (fun k hk => by first | omega | (dsimp only; omega)) hf a4⟩, fun p hp => (hf.1 3 p 0 (by first | omega | (dsimp only; omega))).trans (a5 p hp), ⟨h7, ht⟩, ?_, ⟨fun t ht => TC_fp (fun k hk => by first | omega | (dsimp only; omega)) hf (a10 t ht), TC_fp (fun k hk => by first | omega | (dsimp only; omega)) hf a11⟩, (hf.2.2 5 0 0 (by first | omega | (dsimp only; omega))).trans a12⟩
  rw [h8, hf.1 6 0 4 (by first | omega | (dsimp only; omega)), hf.1 6 0 5 (by first | omega | (dsimp only; omega))]
  exact a9
theorem RM_t {s s' : qm_Hp} {w : Nat} {y k : VW} {tp tp' : Nat → Int32} {fd fd' : Nat} {fa pl : Int32} {T : Nat → TX} (hw : w ≤ 6) (e9 : ∀ j, (j = 1 ∨ j = 2 ∨ j = 27 ∨ j = 6 ∨ j = 7) → zI s' 9 0 j = zI s 9 0 j) (h5 : zI s' 9 0 5 = nI fd') (ht : ∀ j, j < fd' → zI s' 63 0 j = tp' j) (e61 : ∀ j, zI s' 61 0 j = zI s 61 0 j) (e62 : ∀ j, zI s' 62 0 j = zI s 62 0 j) (h : RM s w y k tp fd fa pl T) : RM s' w y k tp' fd' fa pl T := by
  obtain ⟨⟨a1, a2⟩, ⟨a3, a4⟩, ⟨a5, a6⟩, ⟨a7, a8⟩, ⟨a9, a10⟩, a11⟩ := h
  exact ⟨⟨(e9 2 (by omega)).trans a1, (e9 27 (by omega)).trans a2⟩, ⟨PM_eq (e9 1 (by omega)) (fun j _ => e61 j) a3, YM_eq hw (fun j _ _ _ _ => e61 j) a4⟩, ⟨PM_eq (e9 1 (by omega)) (fun j _ => e61 j) a5, YM_eq hw (fun j _ _ _ _ => e61 j) a6⟩, ⟨h5, ht⟩, ⟨(e9 6 (by omega)).trans a9, (e9 7 (by omega)).trans a10⟩, fun t ht => TM_eq e62 (a11 t ht)⟩
theorem st_end (d : Nat) (a : Int32) : STP (d + 40) jC_end jM_end [qI a] := by
  refine stp_rw fun s w y k tp fd fa pl T hC hM ok => ?_
  have hw := ok.1.1.1
  have h3 := ok.2.2.2.2.1
  have hfd := hC.2.2.2.1.1
  by_cases h1 : nI 0 ≤ a ∧ a ≤ nI fd
  · obtain ⟨n, _, hn, rfl⟩ := inr_rg (by omega) h1.1 h1.2 (Nat.zero_le _)
    refine ⟨nI n, y, k, tp, n, fa, pl, T, ⟨ok.1, ok.2.1, ok.2.2.1, ok.2.2.2.1, by omega, fun j hj => ok.2.2.2.2.2 j (by omega)⟩, ⟨uI s 1 0 7 (nI n), ?_, fp_uI (by unfold CP; omega) (fp_refl _ _) _ _, RC_c1 (fp_uI (by first | omega | (dsimp only; omega)) (fp_refl _ _) _ _) (by rw [zI_uI, if_pos (by decide)]) (by rw [zI_uI, if_neg (by decide)]) (fun j hj => by rw [zI_uI, if_neg (by omega)]; exact hC.2.2.2.1.2 j (by omega)) hC⟩, fun s1 g1 => ⟨uI s1 9 0 5 (nI n), ?_, fp_uI (by unfold MP; omega) (fp_refl _ _) _ _, RM_t hw.2 (fun j hj => by rw [zI_uI, if_neg (by omega)]) (by rw [zI_uI, if_pos (by decide)]) (fun j hj => by rw [zI_uI, if_neg (by omega)]; exact g1.2.2.2.1.2 j (by omega)) (fun j => by rw [zI_uI, if_neg (by omega)]) (fun j => by rw [zI_uI, if_neg (by omega)]) g1⟩⟩
    · simp (config := {maxSteps := 1000000}) (disch := first | omega | assumption | (simp only [qm_wid_n, qm_wid_I, qm_wid_L, qm_wid_P] <;> omega)) only [e_C_end, b_C_end_0, b_C_end_1, qy0, qy1, qy2, qy3, qe, qcn, qin, ↓reduceIte, Nat.reduceEqDiff, Nat.reduceLeDiff, Bool.false_eq_true, Nat.reduceAdd, Nat.reduceSub, Nat.reduceMul, Nat.reduceLT, or_self, or_false, false_or, or_true, true_or, and_self, and_true, true_and, and_false, false_and, not_true_eq_false, not_false_eq_true, t_within, hfd]
    · have hm := g1.2.2.2.1.1
      simp (config := {maxSteps := 1000000}) (disch := first | omega | assumption | (simp only [qm_wid_n, qm_wid_I, qm_wid_L, qm_wid_P] <;> omega)) only [e_M_end, b_M_end_0, b_M_end_1, qy0, qy1, qy2, qy3, qe, qcn, qin, ↓reduceIte, Nat.reduceEqDiff, Nat.reduceLeDiff, Bool.false_eq_true, Nat.reduceAdd, Nat.reduceSub, Nat.reduceMul, Nat.reduceLT, or_self, or_false, false_or, or_true, true_or, and_self, and_true, true_and, and_false, false_and, not_true_eq_false, not_false_eq_true, t_isIn, hm]
  · refine nochg ok hC N1 ?_ (fun s1 g1 => ?_)
    · simp (config := {maxSteps := 1000000}) (disch := first | omega | assumption | (simp only [qm_wid_n, qm_wid_I, qm_wid_L, qm_wid_P] <;> omega)) only [e_C_end, b_C_end_0, qy0, qy1, qy2, qy3, qe, qcn, qin, ↓reduceIte, Nat.reduceEqDiff, Nat.reduceLeDiff, Bool.false_eq_true, Nat.reduceAdd, Nat.reduceSub, Nat.reduceMul, Nat.reduceLT, or_self, or_false, false_or, or_true, true_or, and_self, and_true, true_and, and_false, false_and, not_true_eq_false, not_false_eq_true, t_within, hfd, h1]
    · have hm := g1.2.2.2.1.1
      simp (config := {maxSteps := 1000000}) (disch := first | omega | assumption | (simp only [qm_wid_n, qm_wid_I, qm_wid_L, qm_wid_P] <;> omega)) only [e_M_end, b_M_end_0, qy0, qy1, qy2, qy3, qe, qcn, qin, ↓reduceIte, Nat.reduceEqDiff, Nat.reduceLeDiff, Bool.false_eq_true, Nat.reduceAdd, Nat.reduceSub, Nat.reduceMul, Nat.reduceLT, or_self, or_false, false_or, or_true, true_or, and_self, and_true, true_and, and_false, false_and, not_true_eq_false, not_false_eq_true, t_isIn, hm, h1]
theorem t_isText (d : Nat) {s : qm_Hp} {n : Nat} (h : zI s 2 0 11 = nI n) (x : Int32) : qm_evM (d + 1) jC_isText [qP 1 0, qI x] s = some (some (qI (if nI 0 ≤ x ∧ x ≤ nI n - nI 1 then nI 1 else nI 0)), s) := by
  by_cases h1 : 1 ≤ n
  · rw [pk_sub h1]
    simp (config := {maxSteps := 1000000}) (disch := first | omega | assumption | (simp only [qm_wid_n, qm_wid_I, qm_wid_L, qm_wid_P] <;> omega)) only [e_C_isText, b_C_isText_0, qy0, qy1, qy2, qy3, qe, qcn, qin, ↓reduceIte, Nat.reduceEqDiff, Nat.reduceLeDiff, Bool.false_eq_true, Nat.reduceAdd, Nat.reduceSub, Nat.reduceMul, Nat.reduceLT, or_self, or_false, false_or, or_true, true_or, and_self, and_true, true_and, and_false, false_and, not_true_eq_false, not_false_eq_true, t_within, h]
  · have : n = 0 := by omega
    subst this
    simp (config := {maxSteps := 1000000}) (disch := first | omega | assumption | (simp only [qm_wid_n, qm_wid_I, qm_wid_L, qm_wid_P] <;> omega)) only [e_C_isText, b_C_isText_0, qy0, qy1, qy2, qy3, qe, qcn, qin, ↓reduceIte, Nat.reduceEqDiff, Nat.reduceLeDiff, Bool.false_eq_true, Nat.reduceAdd, Nat.reduceSub, Nat.reduceMul, Nat.reduceLT, or_self, or_false, false_or, or_true, true_or, and_self, and_true, true_and, and_false, false_and, not_true_eq_false, not_false_eq_true, t_within, h]
theorem nt_of {y : VW} {n : Nat} (h : y 0 6 = nI n) (hn : n ≤ 4) : nt y = n := by unfold nt; rw [h, nI_clamp (by omega)]
theorem by_ok {w : Nat} {y k : VW} {tp : Nat → Int32} {fd : Nat} {T : Nat → TX} (ok : OKG w y k tp fd T) (v : Int32) (n : Nat) (en : y 0 6 = nI n) (hn : n ≤ 4) (hv : v = N1 ∨ ∃ t, t < n ∧ v = nI t) : OKG w (vset y 0 7 v) k tp fd T := by
  have e6 : vset y 0 7 v 0 6 = y 0 6 := vset_ne (by omega)
  have hnt : nt (vset y 0 7 v) = nt y := by unfold nt; rw [e6]
  have hl : vlike w y (vset y 0 7 v) := ⟨fun i hi => vset_ne (by omega), fun c _ => vset_ne (by omega), fun f c z hf _ _ => vset_ne (by omega)⟩
  have h := ok.1.2
  refine ⟨⟨OKP_like hl ok.1.1, ⟨by rw [vset_ne (by omega)]; exact h.1, by rw [e6]; exact h.2.1, ?_, by rw [vset_ne (by omega)]; exact h.2.2.2.1, fun j hj i hi => by rw [vset_ne (by omega)]; exact h.2.2.2.2.1 j hj i hi, fun j hj => by rw [vset_ne (by omega)]; exact h.2.2.2.2.2.1 j hj, fun j hj => by rw [vset_ne (by omega), vset_ne (by omega)]; exact h.2.2.2.2.2.2.1 j hj, fun c hc => by rw [vset_ne (by omega)]; exact h.2.2.2.2.2.2.2 c hc⟩⟩, ok.2.1, by rw [hnt]; exact ok.2.2.1, fun t ht => ok.2.2.2.1 t (by rw [hnt] at ht; exact ht), ok.2.2.2.2⟩
  rw [vset_eq, e6]
  rcases hv with hv | ⟨t, ht, hv⟩
  · exact Or.inl hv
  · exact Or.inr ⟨t, n, hv, en, ht, hn⟩
theorem by_RC {s : qm_Hp} {w : Nat} {y k : VW} {tp : Nat → Int32} {fd : Nat} {fa pl : Int32} {T : Nat → TX} (v : Int32) (t : Nat) (ht : ru (vset y 0 7 v) = t) (h : RC s w y k tp fd fa pl T) : RC (uP (uI s 2 0 12 v) 5 0 0 (4, t)) w (vset y 0 7 v) k tp fd fa pl T := by
  obtain ⟨⟨a1, a2⟩, ⟨a3, a4⟩, a5, ⟨a6, a7⟩, a9, ⟨a10, a11⟩, a12⟩ := h
  have hl : vlike w y (vset y 0 7 v) := ⟨fun i hi => vset_ne (by omega), fun c _ => vset_ne (by omega), fun f c z hf _ _ => vset_ne (by omega)⟩
  have hnt : nt (vset y 0 7 v) = nt y := by unfold nt; rw [vset_ne (by omega)]
  have hf : fp (fun k i => (k = 2 ∧ i = 0) ∨ k = 5) s (uP (uI s 2 0 12 v) 5 0 0 (4, t)) := by
    have h1 : fp (fun k i => (k = 2 ∧ i = 0) ∨ k = 5) s (uI s 2 0 12 v) := fp_uI (by first | omega | (dsimp only; omega)) (fp_refl _ _) _ _
    refine ⟨fun a b c q => h1.1 a b c q, fun a b c q => h1.2.1 a b c q, fun a b c q => ?_⟩
    rw [zP_uP, if_neg (fun z => q (by first | omega | (dsimp only; omega)))]
    exact h1.2.2 a b c q
  have hY : YC (uP (uI s 2 0 12 v) 5 0 0 (4, t)) 0 w (vset y 0 7 v) := YC_s a2 7 (by decide) v
  refine ⟨⟨PC_like hl (PC_fp (fun k hk => by first | omega | (dsimp only; omega)) hf a1), hY⟩, ⟨PC_fp (fun k hk => by first | omega | (dsimp only; omega)) hf a3, YC_fp (fun k hk => by first | omega | (dsimp only; omega)) hf a4⟩, fun p hp => (hf.1 3 p 0 (by first | omega | (dsimp only; omega))).trans (a5 p hp), ⟨(hf.1 1 0 7 (by first | omega | (dsimp only; omega))).trans a6, fun j hj => (hf.1 52 0 j (by first | omega | (dsimp only; omega))).trans (a7 j hj)⟩, ?_, ⟨fun t' ht' => TC_fp (fun k hk => by first | omega | (dsimp only; omega)) hf (a10 t' (by rw [hnt] at ht'; exact ht')), TC_fp (fun k hk => by first | omega | (dsimp only; omega)) hf a11⟩, ?_⟩
  · rw [hf.1 1 0 8 (by first | omega | (dsimp only; omega)), hf.1 6 0 4 (by first | omega | (dsimp only; omega)), hf.1 6 0 5 (by first | omega | (dsimp only; omega))]
    exact a9
  · rw [ht, zP_uP, if_pos ⟨rfl, rfl, rfl⟩]
theorem by_RM {s : qm_Hp} {w : Nat} {y k : VW} {tp : Nat → Int32} {fd : Nat} {fa pl : Int32} {T : Nat → TX} (hw : w ≤ 6) (v : Int32) (h : RM s w y k tp fd fa pl T) : RM (uI s 61 0 3 v) w (vset y 0 7 v) k tp fd fa pl T := by
  obtain ⟨⟨a1, a2⟩, ⟨a3, a4⟩, ⟨a5, a6⟩, ⟨a7, a8⟩, ⟨a9, a10⟩, a11⟩ := h
  have hl : vlike w y (vset y 0 7 v) := ⟨fun i hi => vset_ne (by omega), fun c _ => vset_ne (by omega), fun f c z hf _ _ => vset_ne (by omega)⟩
  have hnt : nt (vset y 0 7 v) = nt y := by unfold nt; rw [vset_ne (by omega)]
  have e : ∀ j, j ≠ 3 → zI (uI s 61 0 3 v) 61 0 j = zI s 61 0 j := fun j hj => by rw [zI_uI, if_neg (by omega)]
  have hY := YM_u hw a4 0 7 3 (by unfold ymn; omega) v
  refine ⟨⟨a1, a2⟩, ⟨PM_like hl ⟨a3.1, ⟨(e _ (by omega)).trans a3.2.1.1, (e _ (by omega)).trans a3.2.1.2.1, (e _ (by omega)).trans a3.2.1.2.2.1, (e _ (by omega)).trans a3.2.1.2.2.2.1, (e _ (by omega)).trans a3.2.1.2.2.2.2⟩, fun c hc => (e _ (by omega)).trans (a3.2.2.1 c hc), fun f c z hf' hc hz => (e _ (by omega)).trans (a3.2.2.2 f c z hf' hc hz)⟩, hY⟩, ⟨PM_eq (s := s) (s' := uI s 61 0 3 v) rfl (fun j hj => e j (by omega)) a5, YM_eq hw (fun j h1 h2 h3 h4 => e j (by omega)) a6⟩, ⟨a7, a8⟩, ⟨a9, a10⟩, fun t ht => TM_eq (fun j => rfl) (a11 t (by rw [hnt] at ht; exact ht))⟩
theorem st_by (d : Nat) (a : Int32) : STP (d + 40) jC_by jM_by [qI a] := by
  refine stp_rw fun s w y k tp fd fa pl T hC hM ok => ?_
  have hw := ok.1.1.1
  obtain ⟨n, _, hn, en⟩ := ok.1.2.2.1
  have hcn : zI s 2 0 11 = nI n := hC.1.2.1.2.1.trans en
  have hCP : ∀ v t, fp CP s (uP (uI s 2 0 12 v) 5 0 0 (4, t)) := fun v t => by
    have h1 : fp CP s (uI s 2 0 12 v) := fp_uI (by unfold CP; omega) (fp_refl _ _) _ _
    refine ⟨fun a b c q => h1.1 a b c q, fun a b c q => h1.2.1 a b c q, fun a b c q => ?_⟩
    rw [zP_uP, if_neg (fun z => q (by unfold CP; omega))]
    exact h1.2.2 a b c q
  have hmn : ∀ s1, RM s1 w y k tp fd fa pl T → zI s1 61 0 2 = nI n := fun s1 g1 => g1.2.1.2.1.2.1.trans en
  rcases wth_or a n (by omega) with ⟨t, ht, rfl, hq⟩ | hq
  · refine ⟨nI 1, vset y 0 7 (nI t), k, tp, fd, fa, pl, T, by_ok ok _ n en hn (Or.inr ⟨t, ht, rfl⟩), ⟨_, ?_, hCP (nI t) t, by_RC (nI t) t ?_ hC⟩, fun s1 g1 => ⟨uI s1 61 0 3 (nI t), ?_, mp_u61 _ _ _, by_RM hw.2 _ g1⟩⟩
    · have hit : ∀ s', zI s' 2 0 11 = nI n → _ := fun s' q => t_isText (d + 38) q (nI t)
      have hit1 := hit s hcn
      rw [if_pos hq] at hit1
      have hit2 := t_isText (d + 37) (s := uI s 2 0 12 (nI t)) (n := n) (by rw [zI_uI, if_neg (by decide)]; exact hcn) (nI t)
      rw [if_pos hq] at hit2
      simp (config := {maxSteps := 1000000}) (disch := first | omega | assumption | (simp only [qm_wid_n, qm_wid_I, qm_wid_L, qm_wid_P] <;> omega)) only [e_C_by, b_C_by_0, b_C_by_1, e_C_obey, b_C_obey_0, b_C_obey_1, b_C_obey_2, qy0, qy1, qy2, qy3, qe, qcn, qin, ↓reduceIte, Nat.reduceEqDiff, Nat.reduceLeDiff, Bool.false_eq_true, Nat.reduceAdd, Nat.reduceSub, Nat.reduceMul, Nat.reduceLT, or_self, or_false, false_or, or_true, true_or, and_self, and_true, true_and, and_false, false_and, not_true_eq_false, not_false_eq_true, hit1, hit2, zI_uI]
    · unfold ru
      rw [vset_eq, if_neg (by rw [i_m1 (by omega)]; exact id), nI_clamp (by omega)]
    · simp (config := {maxSteps := 1000000}) (disch := first | omega | assumption | (simp only [qm_wid_n, qm_wid_I, qm_wid_L, qm_wid_P] <;> omega)) only [e_M_by, b_M_by_0, b_M_by_1, qy0, qy1, qy2, qy3, qe, qcn, qin, ↓reduceIte, Nat.reduceEqDiff, Nat.reduceLeDiff, Bool.false_eq_true, Nat.reduceAdd, Nat.reduceSub, Nat.reduceMul, Nat.reduceLT, or_self, or_false, false_or, or_true, true_or, and_self, and_true, true_and, and_false, false_and, not_true_eq_false, not_false_eq_true, t_isIn, hmn s1 g1]
  · by_cases hN : a = N1
    · subst hN
      refine ⟨nI 1, vset y 0 7 N1, k, tp, fd, fa, pl, T, by_ok ok _ n en hn (Or.inl rfl), ⟨_, ?_, hCP N1 4, by_RC N1 4 ?_ hC⟩, fun s1 g1 => ⟨uI s1 61 0 3 N1, ?_, mp_u61 _ _ _, by_RM hw.2 _ g1⟩⟩
      · have hit2 := t_isText (d + 37) (s := uI s 2 0 12 N1) (n := n) (by rw [zI_uI, if_neg (by decide)]; exact hcn) N1
        rw [if_neg hq] at hit2
        simp (config := {maxSteps := 1000000}) (disch := first | omega | assumption | (simp only [qm_wid_n, qm_wid_I, qm_wid_L, qm_wid_P] <;> omega)) only [e_C_by, b_C_by_0, b_C_by_1, e_C_obey, b_C_obey_0, b_C_obey_1, b_C_obey_2, qy0, qy1, qy2, qy3, qe, qcn, qin, ↓reduceIte, Nat.reduceEqDiff, Nat.reduceLeDiff, Bool.false_eq_true, Nat.reduceAdd, Nat.reduceSub, Nat.reduceMul, Nat.reduceLT, or_self, or_false, false_or, or_true, true_or, and_self, and_true, true_and, and_false, false_and, not_true_eq_false, not_false_eq_true, hit2, zI_uI]
      · unfold ru
        rw [vset_eq, if_pos rfl]
      · have hle : N1 ≤ nI n - nI 1 := by
          rw [fa_le, pk_sub_toInt (by omega) (by decide), N1_i]
          omega
        by_cases h1 : 1 ≤ n
        · simp (config := {maxSteps := 1000000}) (disch := first | omega | assumption | (simp only [qm_wid_n, qm_wid_I, qm_wid_L, qm_wid_P] <;> omega)) only [e_M_by, b_M_by_0, b_M_by_1, qy0, qy1, qy2, qy3, qe, qcn, qin, ↓reduceIte, Nat.reduceEqDiff, Nat.reduceLeDiff, Bool.false_eq_true, Nat.reduceAdd, Nat.reduceSub, Nat.reduceMul, Nat.reduceLT, or_self, or_false, false_or, or_true, true_or, and_self, and_true, true_and, and_false, false_and, not_true_eq_false, not_false_eq_true, t_isIn, hmn s1 g1]
        · have : n = 0 := by omega
          subst this
          simp (config := {maxSteps := 1000000}) (disch := first | omega | assumption | (simp only [qm_wid_n, qm_wid_I, qm_wid_L, qm_wid_P] <;> omega)) only [e_M_by, b_M_by_0, b_M_by_1, qy0, qy1, qy2, qy3, qe, qcn, qin, ↓reduceIte, Nat.reduceEqDiff, Nat.reduceLeDiff, Bool.false_eq_true, Nat.reduceAdd, Nat.reduceSub, Nat.reduceMul, Nat.reduceLT, or_self, or_false, false_or, or_true, true_or, and_self, and_true, true_and, and_false, false_and, not_true_eq_false, not_false_eq_true, t_isIn, hmn s1 g1, hle]
    · refine nochg ok hC (nI 0) ?_ (fun s1 g1 => ?_)
      · have hit1 := t_isText (d + 38) hcn a
        rw [if_neg hq] at hit1
        simp (config := {maxSteps := 1000000}) (disch := first | omega | assumption | (simp only [qm_wid_n, qm_wid_I, qm_wid_L, qm_wid_P] <;> omega)) only [e_C_by, b_C_by_0, b_C_by_1, qy0, qy1, qy2, qy3, qe, qcn, qin, ↓reduceIte, Nat.reduceEqDiff, Nat.reduceLeDiff, Bool.false_eq_true, Nat.reduceAdd, Nat.reduceSub, Nat.reduceMul, Nat.reduceLT, or_self, or_false, false_or, or_true, true_or, and_self, and_true, true_and, and_false, false_and, not_true_eq_false, not_false_eq_true, hit1, hN]
      · have hq2 : ¬ (N1 ≤ a ∧ a ≤ nI n - nI 1) := fun g => hq ⟨by
          have g1 := g.1
          rw [fa_le, N1_i] at g1
          have hne : a.toInt ≠ -1 := fun z => hN (by rw [fa_eq, z, N1_i])
          rw [fa_le, nI_toInt (by decide)]
          omega, g.2⟩
        by_cases h1 : 1 ≤ n
        · rw [pk_sub h1] at hq2
          simp (config := {maxSteps := 1000000}) (disch := first | omega | assumption | (simp only [qm_wid_n, qm_wid_I, qm_wid_L, qm_wid_P] <;> omega)) only [e_M_by, b_M_by_0, b_M_by_1, qy0, qy1, qy2, qy3, qe, qcn, qin, ↓reduceIte, Nat.reduceEqDiff, Nat.reduceLeDiff, Bool.false_eq_true, Nat.reduceAdd, Nat.reduceSub, Nat.reduceMul, Nat.reduceLT, or_self, or_false, false_or, or_true, true_or, and_self, and_true, true_and, and_false, false_and, not_true_eq_false, not_false_eq_true, t_isIn, hmn s1 g1, hq2]
        · have : n = 0 := by omega
          subst this
          simp (config := {maxSteps := 1000000}) (disch := first | omega | assumption | (simp only [qm_wid_n, qm_wid_I, qm_wid_L, qm_wid_P] <;> omega)) only [e_M_by, b_M_by_0, b_M_by_1, qy0, qy1, qy2, qy3, qe, qcn, qin, ↓reduceIte, Nat.reduceEqDiff, Nat.reduceLeDiff, Bool.false_eq_true, Nat.reduceAdd, Nat.reduceSub, Nat.reduceMul, Nat.reduceLT, or_self, or_false, false_or, or_true, true_or, and_self, and_true, true_and, and_false, false_and, not_true_eq_false, not_false_eq_true, t_isIn, hmn s1 g1, hq2]
