/-! the reference's laws -/
theorem bd_rg {x : Int32} {a b : Nat} (h : rg x a b) (hb : b ≤ 1000000) : bd x := by
  obtain ⟨k, _, hk, rfl⟩ := h
  exact bd_nI (by omega)
theorem nbs_le (y : VW) (w c z : Nat) : nbs y w c z ≤ 4 := by
  unfold nbs
  have : ∀ (p : Prop) [Decidable p], (if p then 1 else 0) ≤ 1 := fun p _ => by
    by_cases q : p
    · rw [if_pos q]; exact Nat.le_refl _
    · rw [if_neg q]; exact Nat.zero_le _
  have h1 := this (0 < z)
  have h2 := this (z + 1 < cn y c)
  have h3 := this (0 < c ∧ z < cn y (c - 1))
  have h4 := this (c + 1 < w ∧ z < cn y (c + 1))
  omega
theorem bd_ite {p : Prop} [Decidable p] {a b : Int32} (ha : bd a) (hb : bd b) : bd (if p then a else b) := by
  by_cases q : p
  · rw [if_pos q]; exact ha
  · rw [if_neg q]; exact hb
theorem tl_le {w : Nat} {y : VW} (ok : OKP w y) : ∀ k, k ≤ w → tl y k ≤ 8
  | 0, _ => Nat.zero_le _
  | k + 1, h => by
    rw [tl_s]
    have h8 := OK_n ok (c := k) (by omega)
    have := tl_le ok k (by omega)
    by_cases q : tl y k < cn y k
    · rw [if_pos q]; exact h8
    · rw [if_neg q]; exact this
theorem ev_bdL {w : Nat} {y : VW} (W : Nat → Int32) (ok : OKP w y) {c z : Nat} (hc : c < w) (hz : z < cn y c) (hW : ∀ i, i < 4 → rg (W i) 0 40) {v : Nat} (hv : v < 13) : bd (ev y w W c z v) := by
  have h8 := OK_n ok hc
  have q := ok.2.2.2 c z hc hz
  have hv : v = 0 ∨ v = 1 ∨ v = 2 ∨ v = 3 ∨ v = 4 ∨ v = 5 ∨ v = 6 ∨ v = 7 ∨ v = 8 ∨ v = 9 ∨ v = 10 ∨ v = 11 ∨ v = 12 := by omega
  rcases hv with h | h | h | h | h | h | h | h | h | h | h | h | h <;> subst h
  · exact bd_rg q.2.2.1 (by decide)
  · exact bd_rg q.2.1 (by decide)
  · exact bd_rg q.1 (by decide)
  · exact bd_rg q.2.2.2.1 (by decide)
  · exact bd_ite (bd_nI (by omega)) (bd_nI (by omega))
  · exact bd_ite (bd_nI (by omega)) (bd_nI (by omega))
  · exact bd_ite (bd_nI (by have := nbs_le y w c z; omega)) (bd_nI (by omega))
  · exact bd_ite (bd_nI (by omega)) (bd_nI (by omega))
  · exact bd_rg (hW 0 (by decide)) (by decide)
  · exact bd_rg (hW 1 (by decide)) (by decide)
  · exact bd_rg (hW 2 (by decide)) (by decide)
  · exact bd_rg (hW 3 (by decide)) (by decide)
  · exact bd_rg ok.2.1.1 (by decide)
theorem W0_rg : ∀ i, i < 4 → rg (W0 i) 0 40 := fun i _ => ⟨0, Nat.zero_le _, Nat.zero_le _, rfl⟩
theorem ev_bdS {w : Nat} {y : VW} (ok : OKP w y) {v : Nat} (hv : 12 ≤ v) (hv2 : v < 17) : bd (ev y w W0 0 0 v) := by
  have hw := ok.1
  have hv : v = 12 ∨ v = 13 ∨ v = 14 ∨ v = 15 ∨ v = 16 := by omega
  rcases hv with h | h | h | h | h <;> subst h
  · exact bd_rg ok.2.1.1 (by decide)
  · exact bd_nI (by omega)
  · exact bd_nI (by have := tl_le ok w (Nat.le_refl _); omega)
  · exact bd_rg ok.2.1.2.2.1 (by decide)
  · exact bd_rg ok.2.1.2.2.2.1 (by decide)
theorem r_name (d : Nat) {s : qm_Hp} {b w c z : Nat} {y : VW} (hP : PM s b w y) (ok : OKP w y) (hb : zI s 9 0 2 = nI b) (hb2 : b ≤ 2940) (hc : c < w) (hz : z < cn y c) : qm_evM (d + 2) jM_name [qP 9 0, qI (nI c), qI (nI z)] s = some (none, hp_name s b w c z) := by
  have h8 := OK_n ok hc
  exact m_name d s b w c z hP.1 ok.1.2 hb hb2 hc (by omega)
theorem mem2 {K L : List Nat} (h : ∀ k, k ∈ K → k ∈ L) {s s' : qm_Hp} (f : fr K s s') : fr L s s' := fr_mono h f
theorem r_thick (d : Nat) {s : qm_Hp} {b w c z : Nat} {y : VW} {τ : TX} (hP : PM s b w y) (ok : OKP w y) (hb : zI s 9 0 2 = nI b) (hb2 : b ≤ 2940) (hL : LM s τ) (okt : OKT τ) (hc : c < w) (hz : z < cn y c) : ∃ s', qm_evM (d + 4) jM_thickOf [qP 9 0, qI (nI c), qI (nI z)] s = some (some (qI (thick τ y w c z)), s') ∧ fr [65, 66, 67] s s' := by
  have f1 := mn_fr s b w c z
  have n0 := mn_ev W0 hP ok hc hz 0 (by omega)
  have n1 := mn_ev W0 hP ok hc hz 1 (by omega)
  have hnm := r_name (d + 1) hP ok hb hb2 hc hz
  obtain ⟨s', q1, q2⟩ := r_sumOf d 1 (ev y w W0 c z) 1 999 (dthick (y 3 (8 * c + z)) (y 4 (8 * c + z))) (by decide) (by decide) (LM_fr (K := [65]) (by decide) f1 hL) okt (by decide) (fun v hv => by
    unfold nmok at hv
    exact ⟨mn_ev W0 hP ok hc hz v (by omega), ev_bdL W0 ok hc hz W0_rg (by omega)⟩)
  refine ⟨s', ?_, fr_trans (mem2 (by decide) f1) (mem2 (by decide) q2)⟩
  have e0 : ev y w W0 c z 0 = y 4 (8 * c + z) := rfl
  have e1 : ev y w W0 c z 1 = y 3 (8 * c + z) := rfl
  rw [e0] at n0
  rw [e1] at n1
  unfold thick
  unfold dthick at q1 ⊢
  by_cases h3 : y 4 (8 * c + z) < nI 300
  · have h3' := Int32.not_le.mpr h3
    rw [if_pos h3] at q1 ⊢
    simp (config := {maxSteps := 1000000}) (disch := first | omega | assumption | (simp only [qm_wid_n, qm_wid_I, qm_wid_L, qm_wid_P] <;> omega)) only [e_M_thickOf, b_M_thickOf_0, b_M_thickOf_1, b_M_thickOf_2, qy0, qy1, qy2, qy3, qe, qcn, qin, ↓reduceIte, Nat.reduceEqDiff, Nat.reduceLeDiff, Bool.false_eq_true, Nat.reduceAdd, Nat.reduceSub, Nat.reduceMul, Nat.reduceLT, or_self, or_false, false_or, or_true, true_or, and_self, and_true, true_and, and_false, false_and, not_true_eq_false, not_false_eq_true, hnm, n0, n1, h3', q1]
  · have h3' := Int32.not_lt.mp h3
    rw [if_neg h3] at q1 ⊢
    simp (config := {maxSteps := 1000000}) (disch := first | omega | assumption | (simp only [qm_wid_n, qm_wid_I, qm_wid_L, qm_wid_P] <;> omega)) only [e_M_thickOf, b_M_thickOf_0, b_M_thickOf_1, b_M_thickOf_2, qy0, qy1, qy2, qy3, qe, qcn, qin, ↓reduceIte, Nat.reduceEqDiff, Nat.reduceLeDiff, Bool.false_eq_true, Nat.reduceAdd, Nat.reduceSub, Nat.reduceMul, Nat.reduceLT, or_self, or_false, false_or, or_true, true_or, and_self, and_true, true_and, and_false, false_and, not_true_eq_false, not_false_eq_true, hnm, n0, n1, h3', q1]
theorem r_heat (d : Nat) {s : qm_Hp} {b w c z : Nat} {y : VW} {τ : TX} (hP : PM s b w y) (ok : OKP w y) (hb : zI s 9 0 2 = nI b) (hb2 : b ≤ 2940) (hL : LM s τ) (okt : OKT τ) (hc : c < w) (hz : z < cn y c) : ∃ s', qm_evM (d + 4) jM_heatOf [qP 9 0, qI (nI c), qI (nI z)] s = some (some (qI (heat τ y w c z)), s') ∧ fr [65, 66, 67] s s' := by
  have f1 := mn_fr s b w c z
  have n0 := mn_ev W0 hP ok hc hz 0 (by omega)
  have n1 := mn_ev W0 hP ok hc hz 1 (by omega)
  have hnm := r_name (d + 1) hP ok hb hb2 hc hz
  obtain ⟨s', q1, q2⟩ := r_sumOf d 4 (ev y w W0 c z) 0 9999 (y 3 (8 * c + z) * (nI 2500 - y 4 (8 * c + z)) / nI 100) (by decide) (by decide) (LM_fr (K := [65]) (by decide) f1 hL) okt (by decide) (fun v hv => by
    unfold nmok at hv
    exact ⟨mn_ev W0 hP ok hc hz v (by omega), ev_bdL W0 ok hc hz W0_rg (by omega)⟩)
  refine ⟨s', ?_, fr_trans (mem2 (by decide) f1) (mem2 (by decide) q2)⟩
  have e0 : ev y w W0 c z 0 = y 4 (8 * c + z) := rfl
  have e1 : ev y w W0 c z 1 = y 3 (8 * c + z) := rfl
  rw [e0] at n0
  rw [e1] at n1
  unfold heat
  simp (config := {maxSteps := 1000000}) (disch := first | omega | assumption | (simp only [qm_wid_n, qm_wid_I, qm_wid_L, qm_wid_P] <;> omega)) only [e_M_heatOf, b_M_heatOf_0, qy0, qy1, qy2, qy3, qe, qcn, qin, ↓reduceIte, Nat.reduceEqDiff, Nat.reduceLeDiff, Bool.false_eq_true, Nat.reduceAdd, Nat.reduceSub, Nat.reduceMul, Nat.reduceLT, or_self, or_false, false_or, or_true, true_or, and_self, and_true, true_and, and_false, false_and, not_true_eq_false, not_false_eq_true, hnm, n0, n1, q1]
theorem r_count (d : Nat) {s : qm_Hp} {b w c : Nat} {y : VW} (hP : PM s b w y) (ok : OKP w y) (hb : zI s 9 0 2 = nI b) (hb2 : b ≤ 2940) (hc : c < w) : qm_evM d jM_count [qP 9 0, qI (nI c)] s = some (some (qI (nI (cn y c))), s) := by
  have hw := ok.1
  rw [m_count d s b c hb (by omega), PM_c hP hc]
theorem r_stand (d : Nat) {s : qm_Hp} {b w : Nat} {y : VW} {τ : TX} (hP : PM s b w y) (ok : OKP w y) (hb : zI s 9 0 2 = nI b) (hb2 : b ≤ 2940) (hL : LM s τ) (okt : OKT τ) : ∃ s', qm_evM (d + 4) jM_standOf [qP 9 0] s = some (some (qI (stand τ y w)), s') ∧ fr [65, 66, 67] s s' := by
  have hw := ok.1
  obtain ⟨w1, ⟨w2, w3, w4, w5, w6⟩, w7, w8⟩ := id hP
  generalize hs1 : uI (uI (uI (uI (uI s 65 0 12 (y 0 0)) 65 0 13 (nI w)) 65 0 14 (nI (tl y w))) 65 0 15 (y 0 2)) 65 0 16 (y 0 3) = s1
  have f1 : fr [65] s s1 := by
    rw [← hs1]
    repeat' (first | exact fr_refl _ _ | refine fr_uI (by decide) ?_ _ _ _)
  obtain ⟨s', q1, q2⟩ := r_sumOf d 2 (ev y w W0 0 0) 0 9999 (nI 10 * nI w + nI 20 * y 0 2 + nI 15 * y 0 3) (by decide) (by decide) (LM_fr (K := [65]) (by decide) f1 hL) okt (by decide) (fun v hv => by
    unfold nmok at hv
    refine ⟨?_, ev_bdS ok (by omega) (by omega)⟩
    have hv : v = 12 ∨ v = 13 ∨ v = 14 ∨ v = 15 ∨ v = 16 := by omega
    rw [← hs1]
    rcases hv with h | h | h | h | h <;> subst h <;> simp only [zI_uI, Nat.reduceEqDiff, and_false, and_true, and_self, ↓reduceIte] <;> rfl)
  refine ⟨s', ?_, fr_trans (mem2 (by decide) f1) (mem2 (by decide) q2)⟩
  have lp := q_up (w := w) (fun k => qm_evB (d + 4) jM_standOf 1 [qP 9 0, qI (nI (tl y k)), qI (nI k)] [] s) (R := some (some (qI (stand τ y w)), s')) ?_ ?_ 0 (Nat.zero_le _)
  · simp (config := {maxSteps := 1000000}) (disch := first | omega | assumption | (simp only [qm_wid_n, qm_wid_I, qm_wid_L, qm_wid_P] <;> omega)) only [e_M_standOf, b_M_standOf_0, qy0, qy1, qy2, qy3, qe, qcn, qin, ↓reduceIte, Nat.reduceEqDiff, Nat.reduceLeDiff, Bool.false_eq_true, Nat.reduceAdd, Nat.reduceSub, Nat.reduceMul, Nat.reduceLT, or_self, or_false, false_or, or_true, true_or, and_self, and_true, true_and, and_false, false_and, not_true_eq_false, not_false_eq_true]
    exact lp
  · have m15 : zI s1 65 0 15 = y 0 2 := by
      rw [← hs1]; simp only [zI_uI, Nat.reduceEqDiff, and_false, and_true, and_self, ↓reduceIte]
    have m16 : zI s1 65 0 16 = y 0 3 := by
      rw [← hs1]; simp only [zI_uI, Nat.reduceEqDiff, and_false, and_true, and_self, ↓reduceIte]
    have h0 : b + 0 = b := rfl
    unfold stand
    rw [pk_mul] at q1 ⊢
    simp (config := {maxSteps := 1000000}) (disch := first | omega | assumption | (simp only [qm_wid_n, qm_wid_I, qm_wid_L, qm_wid_P] <;> omega)) only [b_M_standOf_1, b_M_standOf_4, qy0, qy1, qy2, qy3, qe, qcn, qin, ↓reduceIte, Nat.reduceEqDiff, Nat.reduceLeDiff, Bool.false_eq_true, Nat.reduceAdd, Nat.reduceSub, Nat.reduceMul, Nat.reduceLT, or_self, or_false, false_or, or_true, true_or, and_self, and_true, true_and, and_false, false_and, not_true_eq_false, not_false_eq_true, w1, hb, w2, w4, w5, zI_uI, h0, hs1, m15, m16, q1]
  · intro k hk
    have hct := r_count (d + 3) hP ok hb hb2 hk
    have t8 := tl_le ok k (by omega)
    have h8 := OK_n ok hk
    refine (b_M_standOf_1 ..).trans ?_
    rw [tl_s]
    by_cases q : tl y k < cn y k
    · rw [if_pos q]
      simp (config := {maxSteps := 1000000}) (disch := first | omega | assumption | (simp only [qm_wid_n, qm_wid_I, qm_wid_L, qm_wid_P] <;> omega)) only [b_M_standOf_2, b_M_standOf_3, qy0, qy1, qy2, qy3, qe, qcn, qin, ↓reduceIte, Nat.reduceEqDiff, Nat.reduceLeDiff, Bool.false_eq_true, Nat.reduceAdd, Nat.reduceSub, Nat.reduceMul, Nat.reduceLT, or_self, or_false, false_or, or_true, true_or, and_self, and_true, true_and, and_false, false_and, not_true_eq_false, not_false_eq_true, w1, hct]
    · rw [if_neg q]
      simp (config := {maxSteps := 1000000}) (disch := first | omega | assumption | (simp only [qm_wid_n, qm_wid_I, qm_wid_L, qm_wid_P] <;> omega)) only [b_M_standOf_2, b_M_standOf_3, qy0, qy1, qy2, qy3, qe, qcn, qin, ↓reduceIte, Nat.reduceEqDiff, Nat.reduceLeDiff, Bool.false_eq_true, Nat.reduceAdd, Nat.reduceSub, Nat.reduceMul, Nat.reduceLT, or_self, or_false, false_or, or_true, true_or, and_self, and_true, true_and, and_false, false_and, not_true_eq_false, not_false_eq_true, w1, hct]
theorem PM_scr {s s' : qm_Hp} {b w : Nat} {y : VW} (hf : fr [65, 66, 67] s s') (h : PM s b w y) : PM s' b w y := PM_fr (K := [65, 66, 67]) (by decide) (hf.1 9 0 1 (by decide)) hf h
theorem LM_scr {s s' : qm_Hp} {τ : TX} (hf : fr [65, 66, 67] s s') (h : LM s τ) : LM s' τ := LM_fr (K := [65, 66, 67]) (by decide) hf h
theorem r_height (d : Nat) {s : qm_Hp} {b w c : Nat} {y : VW} {τ : TX} (hP : PM s b w y) (ok : OKP w y) (hb : zI s 9 0 2 = nI b) (hb2 : b ≤ 2940) (hL : LM s τ) (okt : OKT τ) (hc : c < w) : ∃ s', qm_evM (d + 5) jM_heightOf [qP 9 0, qI (nI c)] s = some (some (qI (height τ y w c)), s') ∧ fr [65, 66, 67] s s' := by
  have h8 := OK_n ok hc
  have hw6 := ok.1.2
  obtain ⟨x, e, q1⟩ := q_lp (cn y c) (fun k (x : qm_Hp) => qm_evB (d + 5) jM_heightOf 1 [qP 9 0, qI (nI c), qI (su (fun z => thick τ y w c z) k), qI (nI k)] [] x) (fun k x => fr [65, 66, 67] s x) (fun k x hk hx => by
    have hPx := PM_scr hx hP
    have hbx : zI x 9 0 2 = nI b := (hx.1 9 0 2 (by decide)).trans hb
    obtain ⟨x', g1, g2⟩ := r_thick d hPx ok hbx hb2 (LM_scr hx hL) okt hc hk
    refine ⟨x', ?_, fr_trans hx g2⟩
    have hct := r_count (d + 4) hPx ok hbx hb2 hc
    refine (b_M_heightOf_1 ..).trans ?_
    simp (config := {maxSteps := 1000000}) (disch := first | omega | assumption | (simp only [qm_wid_n, qm_wid_I, qm_wid_L, qm_wid_P] <;> omega)) only [qy0, qy1, qy2, qy3, qe, qcn, qin, ↓reduceIte, Nat.reduceEqDiff, Nat.reduceLeDiff, Bool.false_eq_true, Nat.reduceAdd, Nat.reduceSub, Nat.reduceMul, Nat.reduceLT, or_self, or_false, false_or, or_true, true_or, and_self, and_true, true_and, and_false, false_and, not_true_eq_false, not_false_eq_true, hct, g1, su]) 0 s (Nat.zero_le _) (fr_refl _ _)
  refine ⟨x, ?_, q1⟩
  have hct := r_count (d + 4) (PM_scr q1 hP) ok ((q1.1 9 0 2 (by decide)).trans hb) hb2 hc
  simp (config := {maxSteps := 1000000}) (disch := first | omega | assumption | (simp only [qm_wid_n, qm_wid_I, qm_wid_L, qm_wid_P] <;> omega)) only [e_M_heightOf, b_M_heightOf_0, qy0, qy1, qy2, qy3, qe, qcn, qin, ↓reduceIte, Nat.reduceEqDiff, Nat.reduceLeDiff, Bool.false_eq_true, Nat.reduceAdd, Nat.reduceSub, Nat.reduceMul, Nat.reduceLT, or_self, or_false, false_or, or_true, true_or, and_self, and_true, true_and, and_false, false_and, not_true_eq_false, not_false_eq_true]
  refine e.trans ?_
  simp (config := {maxSteps := 1000000}) (disch := first | omega | assumption | (simp only [qm_wid_n, qm_wid_I, qm_wid_L, qm_wid_P] <;> omega)) only [b_M_heightOf_1, b_M_heightOf_2, qy0, qy1, qy2, qy3, qe, qcn, qin, ↓reduceIte, Nat.reduceEqDiff, Nat.reduceLeDiff, Bool.false_eq_true, Nat.reduceAdd, Nat.reduceSub, Nat.reduceMul, Nat.reduceLT, or_self, or_false, false_or, or_true, true_or, and_self, and_true, true_and, and_false, false_and, not_true_eq_false, not_false_eq_true, hct, height]
theorem r_lean (d : Nat) {s : qm_Hp} {b w : Nat} {y : VW} {τ : TX} (hP : PM s b w y) (ok : OKP w y) (hb : zI s 9 0 2 = nI b) (hb2 : b ≤ 2940) (hL : LM s τ) (okt : OKT τ) : ∃ s', qm_evM (d + 6) jM_leanOf [qP 9 0] s = some (some (qI (lean τ y w)), s') ∧ fr [65, 66, 67] s s' := by
  have hw := ok.1
  obtain ⟨s1, g1, g2⟩ := r_height d hP ok hb hb2 hL okt (c := w - 1) (by omega)
  obtain ⟨s2, g3, g4⟩ := r_height d (PM_scr g2 hP) ok ((g2.1 9 0 2 (by decide)).trans hb) hb2 (LM_scr g2 hL) okt (c := 0) (by omega)
  refine ⟨s2, ?_, fr_trans g2 g4⟩
  have hw1 := hP.1
  simp (config := {maxSteps := 1000000}) (disch := first | omega | assumption | (simp only [qm_wid_n, qm_wid_I, qm_wid_L, qm_wid_P] <;> omega)) only [e_M_leanOf, b_M_leanOf_0, qy0, qy1, qy2, qy3, qe, qcn, qin, ↓reduceIte, Nat.reduceEqDiff, Nat.reduceLeDiff, Bool.false_eq_true, Nat.reduceAdd, Nat.reduceSub, Nat.reduceMul, Nat.reduceLT, or_self, or_false, false_or, or_true, true_or, and_self, and_true, true_and, and_false, false_and, not_true_eq_false, not_false_eq_true, hw1, g1, g3, lean]
