/-! the reference's week, whole -/
/-- only row b's week, fall and splits, and scratch, have changed -/
def fm (b : Nat) (s s' : qm_Hp) : Prop := fr [61, 65, 66, 67, 68] s s' ∧ ∀ j, j ≠ b → j ≠ b + 7 → (j < b + 130 ∨ b + 420 ≤ j) → zI s' 61 0 j = zI s 61 0 j
theorem fm_refl (b : Nat) (s : qm_Hp) : fm b s s := ⟨fr_refl _ _, fun _ _ _ _ => rfl⟩
theorem fm_trans {b : Nat} {s1 s2 s3 : qm_Hp} (h1 : fm b s1 s2) (h2 : fm b s2 s3) : fm b s1 s3 := ⟨fr_trans h1.1 h2.1, fun j a c e => (h2.2 j a c e).trans (h1.2 j a c e)⟩
theorem fm_scr {b : Nat} {s s' : qm_Hp} (h : fr [65, 66, 67, 68] s s') : fm b s s' := ⟨mem2 (by decide) h, fun j _ _ _ => h.1 61 0 j (by decide)⟩
theorem fm_u {b : Nat} {s s' : qm_Hp} (h : fm b s s') (j : Nat) (v : Int32) (hj : j = b ∨ j = b + 7 ∨ (b + 130 ≤ j ∧ j < b + 420)) : fm b s (uI s' 61 0 j v) := by
  refine ⟨fr_uI (by decide) h.1 _ _ _, fun i a c e => ?_⟩
  rw [zI_uI, if_neg (fun g => by omega)]
  exact h.2 i a c e
theorem fm_9 {b : Nat} {s s' : qm_Hp} (h : fm b s s') (j : Nat) : zI s' 9 0 j = zI s 9 0 j := h.1.1 9 0 j (by decide)
theorem LM_fm {b : Nat} {s s' : qm_Hp} {τ : TX} (h : fm b s s') (hb : b = 0 ∨ 420 ≤ b) (hL : LM s τ) : LM s' τ :=
  LM_eq (h.2 3 (by omega) (by omega) (by omega)) (fun j => h.1.1 62 0 j (by decide)) hL
theorem PM_put {s : qm_Hp} {b w : Nat} {y : VW} (h : PM s b w y) (ok : OKP w y) (f j : Nat) (hf : f < 6) (v : Int32) : PM (uI s 61 0 (b + 130 + 6 * j + f) v) b w (vset y (2 + f) j v) := by
  have hw := ok.1
  have hv : ∀ i, vset y (2 + f) j v 0 i = y 0 i := fun i => if_neg (fun z => by omega)
  refine ⟨h.1, ⟨?_, ?_, ?_, ?_, ?_⟩, fun c hc => ?_, fun f' c z hf' hc hz => ?_⟩
  · rw [zI_uI, if_neg (fun g => by omega), hv]; exact h.2.1.1
  · rw [zI_uI, if_neg (fun g => by omega), hv]; exact h.2.1.2.1
  · rw [zI_uI, if_neg (fun g => by omega), hv]; exact h.2.1.2.2.1
  · rw [zI_uI, if_neg (fun g => by omega), hv]; exact h.2.1.2.2.2.1
  · rw [zI_uI, if_neg (fun g => by omega), hv]; exact h.2.1.2.2.2.2
  · rw [zI_uI, if_neg (fun g => by omega), cn_vset (by omega)]; exact h.2.2.1 c hc
  · rw [cn_vset (by omega)] at hz
    rw [zI_uI]
    unfold vset
    by_cases q : f' = f ∧ 8 * c + z = j
    · rw [if_pos ⟨rfl, rfl, by rw [q.1, q.2]⟩, if_pos ⟨by omega, q.2⟩]
    · rw [if_neg (fun g => q (by omega)), if_neg (fun g => q ⟨by omega, g.2⟩)]
      exact h.2.2.2 f' c z hf' hc hz
def msl (i : Nat) : Nat := match i with | 0 => 0 | 1 => 7 | 2 => 4 | 3 => 5 | _ => 6
theorem PM_sc {s : qm_Hp} {b w : Nat} {y : VW} (h : PM s b w y) (i : Nat) (hi : i < 5) (v : Int32) : PM (uI s 61 0 (b + msl i) v) b w (vset y 0 i v) := by
  have hm : msl i ≤ 7 := by
    have : i = 0 ∨ i = 1 ∨ i = 2 ∨ i = 3 ∨ i = 4 := by omega
    rcases this with q | q | q | q | q <;> subst q <;> decide
  have hs : ∀ i', i' < 5 → zI s 61 0 (b + msl i') = y 0 i' := fun i' hi' => by
    have : i' = 0 ∨ i' = 1 ∨ i' = 2 ∨ i' = 3 ∨ i' = 4 := by omega
    rcases this with q | q | q | q | q <;> subst q
    · exact h.2.1.1
    · exact h.2.1.2.1
    · exact h.2.1.2.2.1
    · exact h.2.1.2.2.2.1
    · exact h.2.1.2.2.2.2
  have hv : ∀ i', i' < 5 → zI (uI s 61 0 (b + msl i) v) 61 0 (b + msl i') = vset y 0 i v 0 i' := fun i' hi' => by
    rw [zI_uI]
    unfold vset
    by_cases q : i' = i
    · rw [if_pos ⟨rfl, rfl, by rw [q]⟩, if_pos ⟨rfl, q⟩]
    · rw [if_neg (fun g => q ?_), if_neg (fun g => q g.2)]
      · exact hs i' hi'
      · have g3 : msl i' = msl i := by have := g.2.2; omega
        have a1 : i' = 0 ∨ i' = 1 ∨ i' = 2 ∨ i' = 3 ∨ i' = 4 := by omega
        have a2 : i = 0 ∨ i = 1 ∨ i = 2 ∨ i = 3 ∨ i = 4 := by omega
        rcases a1 with a1 | a1 | a1 | a1 | a1 <;> rcases a2 with a2 | a2 | a2 | a2 | a2 <;> subst a1 <;> subst a2 <;> first | rfl | exact absurd g3 (by decide)
  refine ⟨h.1, ⟨hv 0 (by omega), hv 1 (by omega), hv 2 (by omega), hv 3 (by omega), hv 4 (by omega)⟩, fun c hc => ?_, fun f' c z hf' hc hz => ?_⟩
  · rw [zI_uI, if_neg (fun g => by omega), cn_vset (by decide)]; exact h.2.2.1 c hc
  · rw [cn_vset (by decide)] at hz
    rw [zI_uI, if_neg (fun g => by omega)]
    exact (h.2.2.2 f' c z hf' hc hz).trans (if_neg (fun g => by omega)).symm
theorem r_at0 (d : Nat) {s : qm_Hp} {b : Nat} (hb : zI s 9 0 2 = nI b) (c z : Nat) : qm_evM d jM_at0 [qP 9 0, qI (nI c), qI (nI z)] s = some (some (qI (nI (b + 130 + 6 * (8 * c + z)))), s) := m_at0 d s b c z hb
theorem r_goA (d : Nat) {s : qm_Hp} {b w k : Nat} {y : VW} {τ : TX} {W : Nat → Int32} (hP : PM s b w y) (ok : OKP w y) (hb : zI s 9 0 2 = nI b) (hb2 : b ≤ 2940) (hL : LM s τ) (okt : OKT τ) (hk : k < 12) (hW : ∀ i, i < 4 → zI s 61 0 (20 + 4 * k + i) = W i) (hWr : ∀ i, i < 4 → rg (W i) 0 40) : ∃ s' g4, qm_evM (d + 7) jM_goBy [qP 9 0, qI (nI k)] s = qm_evB (d + 7) jM_goBy 8 [qP 9 0, qI (nI k), qI (nI (20 + 4 * k)), qI (nI w), g4] [] s' ∧ PM s' b w (mid τ w W y (8 * w)) ∧ fm b s s' := by
  have hw := ok.1
  -- the waters, all worked out
  obtain ⟨⟨x, g4⟩, e, q1, q2⟩ := q_lp w (fun c (x : qm_Hp × qm_AV) => qm_evB (d + 7) jM_goBy 1 [qP 9 0, qI (nI k), qI (nI (20 + 4 * k)), qI (nI c), x.2] [] x.1) (fun c x => fr [65, 66, 67, 68] s x.1 ∧ ∀ c' z', c' < c → z' < cn y c' → zI x.1 68 0 (8 * c' + z') = drd τ y w W c' z') (fun c x hc hx => by
    obtain ⟨x, a4⟩ := x
    obtain ⟨i1, i2⟩ := hx
    have h8 := OK_n ok hc
    have hw1 : zI x 9 0 1 = nI w := (i1.1 9 0 1 (by decide)).trans hP.1
    obtain ⟨x', e', j1, j2'⟩ := q_lp (cn y c) (fun z (x : qm_Hp) => qm_evB (d + 7) jM_goBy 2 [qP 9 0, qI (nI k), qI (nI (20 + 4 * k)), qI (nI c), qI (nI z)] [] x) (fun z x => fr [65, 66, 67, 68] s x ∧ ∀ c' z', z' < cn y c' → (c' < c ∨ (c' = c ∧ z' < z)) → zI x 68 0 (8 * c' + z') = drd τ y w W c' z') (fun z x hz hx => by
      obtain ⟨k1, k2⟩ := hx
      have hPx := PM_fr (K := [65, 66, 67, 68]) (by decide) (k1.1 9 0 1 (by decide)) k1 hP
      have hbx : zI x 9 0 2 = nI b := (k1.1 9 0 2 (by decide)).trans hb
      obtain ⟨x', r1, r2⟩ := r_dried (d + 3) hPx ok hbx hb2 (LM_fr (K := [65, 66, 67, 68]) (by decide) k1 hL) okt hc hz hk (fun i hi => (k1.1 61 0 _ (by decide)).trans (hW i hi)) hWr
      have hct := r_count (d + 6) hPx ok hbx hb2 hc
      refine ⟨uI x' 68 0 (8 * c + z) (drd τ y w W c z), ?_, fr_uI (by decide) (fr_trans k1 (mem2 (by decide) r2)) _ _ _, fun c' z' h1 h2 => ?_⟩
      · refine (b_M_goBy_2 ..).trans ?_
        simp (config := {maxSteps := 1000000}) (disch := first | omega | assumption | (simp only [qm_wid_n, qm_wid_I, qm_wid_L, qm_wid_P] <;> omega)) only [qy0, qy1, qy2, qy3, qe, qcn, qin, ↓reduceIte, Nat.reduceEqDiff, Nat.reduceLeDiff, Bool.false_eq_true, Nat.reduceAdd, Nat.reduceSub, Nat.reduceMul, Nat.reduceLT, or_self, or_false, false_or, or_true, true_or, and_self, and_true, true_and, and_false, false_and, not_true_eq_false, not_false_eq_true, hct, r1]
      · rw [zI_uI]
        by_cases q : 8 * c' + z' = 8 * c + z
        · have h8' : c' < w → z' < 8 := fun hc' => by have := OK_n ok hc'; omega
          have : c' = c ∧ z' = z := by
            rcases h2 with h2 | h2
            · have := h8' (by omega); omega
            · omega
          rw [if_pos ⟨rfl, rfl, q⟩, this.1, this.2]
        · rw [if_neg (fun g => q g.2.2), r2.1 68 0 _ (by decide)]
          exact k2 c' z' h1 (by omega)) 0 x (Nat.zero_le _) ⟨i1, fun c' z' h1 h2 => i2 c' z' (by omega) h1⟩
    have hct := r_count (d + 6) (PM_fr (K := [65, 66, 67, 68]) (by decide) (j1.1 9 0 1 (by decide)) j1 hP) ok ((j1.1 9 0 2 (by decide)).trans hb) hb2 hc
    refine ⟨(x', qI (nI (cn y c))), ?_, j1, fun c' z' h1 h2 => j2' c' z' h2 (by
      rcases Nat.lt_or_ge c' c with q | q
      · exact Or.inl q
      · have : c' = c := by omega
        subst this
        exact Or.inr ⟨rfl, h2⟩)⟩
    refine (b_M_goBy_1 ..).trans ?_
    simp (config := {maxSteps := 1000000}) (disch := first | omega | assumption | (simp only [qm_wid_n, qm_wid_I, qm_wid_L, qm_wid_P] <;> omega)) only [qy0, qy1, qy2, qy3, qe, qcn, qin, ↓reduceIte, Nat.reduceEqDiff, Nat.reduceLeDiff, Bool.false_eq_true, Nat.reduceAdd, Nat.reduceSub, Nat.reduceMul, Nat.reduceLT, or_self, or_false, false_or, or_true, true_or, and_self, and_true, true_and, and_false, false_and, not_true_eq_false, not_false_eq_true, hw1]
    refine e'.trans ?_
    refine (b_M_goBy_2 ..).trans ?_
    simp (config := {maxSteps := 1000000}) (disch := first | omega | assumption | (simp only [qm_wid_n, qm_wid_I, qm_wid_L, qm_wid_P] <;> omega)) only [b_M_goBy_3, qy0, qy1, qy2, qy3, qe, qcn, qin, ↓reduceIte, Nat.reduceEqDiff, Nat.reduceLeDiff, Bool.false_eq_true, Nat.reduceAdd, Nat.reduceSub, Nat.reduceMul, Nat.reduceLT, or_self, or_false, false_or, or_true, true_or, and_self, and_true, true_and, and_false, false_and, not_true_eq_false, not_false_eq_true, hct]) 0 (s, qU) (Nat.zero_le _) ⟨fr_refl _ _, fun c' z' h1 _ => by omega⟩
  have hPx := PM_fr (K := [65, 66, 67, 68]) (by decide) (q1.1 9 0 1 (by decide)) q1 hP
  have hw1x : zI x 9 0 1 = nI w := hPx.1
  have hm0 : PM x b w (mid τ w W y (8 * 0)) := by
    have e : mid τ w W y (8 * 0) = y := by
      funext a j
      exact mid_ne (Or.inr (Nat.zero_le _))
    rw [e]
    exact hPx
  -- and written
  obtain ⟨⟨x2, g5⟩, e2, p1, p2, p3⟩ := q_lp w (fun c (x : qm_Hp × qm_AV) => qm_evB (d + 7) jM_goBy 5 [qP 9 0, qI (nI k), qI (nI (20 + 4 * k)), qI (nI c), x.2] [] x.1) (fun c x => PM x.1 b w (mid τ w W y (8 * c)) ∧ fm b s x.1 ∧ ∀ c' z', c' < w → z' < cn y c' → zI x.1 68 0 (8 * c' + z') = drd τ y w W c' z') (fun c x hc hx => by
    obtain ⟨x, a4⟩ := x
    obtain ⟨i1, i2, i3⟩ := hx
    have h8 := OK_n ok hc
    have hw1 : zI x 9 0 1 = nI w := i1.1
    obtain ⟨x', e', j1, j2', j3⟩ := q_lp (cn y c) (fun z (x : qm_Hp) => qm_evB (d + 7) jM_goBy 6 [qP 9 0, qI (nI k), qI (nI (20 + 4 * k)), qI (nI c), qI (nI z)] [] x) (fun z x => PM x b w (mid τ w W y (8 * c + z)) ∧ fm b s x ∧ ∀ c' z', c' < w → z' < cn y c' → zI x 68 0 (8 * c' + z') = drd τ y w W c' z') (fun z x hz hx => by
      obtain ⟨k1, k2, k3⟩ := hx
      have hbx : zI x 9 0 2 = nI b := (fm_9 k2 2).trans hb
      have hct := r_count (d + 6) k1 (mid_ok _ ok) hbx hb2 hc
      rw [mid_cn] at hct
      have hat := r_at0 (d + 6) hbx c z
      have hwt := k3 c z hc hz
      refine ⟨uI x 61 0 (b + 130 + 6 * (8 * c + z) + 2) (drd τ y w W c z), ?_, ?_, fm_u k2 _ _ (by omega), fun c' z' h1 h2 => by rw [zI_uI, if_neg (fun g => by omega)]; exact k3 c' z' h1 h2⟩
      · refine (b_M_goBy_6 ..).trans ?_
        simp (config := {maxSteps := 1000000}) (disch := first | omega | assumption | (simp only [qm_wid_n, qm_wid_I, qm_wid_L, qm_wid_P] <;> omega)) only [qy0, qy1, qy2, qy3, qe, qcn, qin, ↓reduceIte, Nat.reduceEqDiff, Nat.reduceLeDiff, Bool.false_eq_true, Nat.reduceAdd, Nat.reduceSub, Nat.reduceMul, Nat.reduceLT, or_self, or_false, false_or, or_true, true_or, and_self, and_true, true_and, and_false, false_and, not_true_eq_false, not_false_eq_true, hct, hat, hwt]
      · have := PM_put k1 (mid_ok _ ok) 2 (8 * c + z) (by decide) (drd τ y w W c z)
        rw [show 2 + 2 = 4 from rfl, mid_s τ w W y c z (by omega)] at this
        exact this) 0 x (Nat.zero_le _) ⟨i1, i2, i3⟩
    have hct := r_count (d + 6) j1 (mid_ok _ ok) ((fm_9 j2' 2).trans hb) hb2 hc
    rw [mid_cn] at hct
    refine ⟨(x', qI (nI (cn y c))), ?_, PM_like (mid_col ok c 8 h8 (Nat.le_refl _)) j1, j2', j3⟩
    refine (b_M_goBy_5 ..).trans ?_
    simp (config := {maxSteps := 1000000}) (disch := first | omega | assumption | (simp only [qm_wid_n, qm_wid_I, qm_wid_L, qm_wid_P] <;> omega)) only [qy0, qy1, qy2, qy3, qe, qcn, qin, ↓reduceIte, Nat.reduceEqDiff, Nat.reduceLeDiff, Bool.false_eq_true, Nat.reduceAdd, Nat.reduceSub, Nat.reduceMul, Nat.reduceLT, or_self, or_false, false_or, or_true, true_or, and_self, and_true, true_and, and_false, false_and, not_true_eq_false, not_false_eq_true, hw1]
    refine e'.trans ?_
    refine (b_M_goBy_6 ..).trans ?_
    simp (config := {maxSteps := 1000000}) (disch := first | omega | assumption | (simp only [qm_wid_n, qm_wid_I, qm_wid_L, qm_wid_P] <;> omega)) only [b_M_goBy_7, qy0, qy1, qy2, qy3, qe, qcn, qin, ↓reduceIte, Nat.reduceEqDiff, Nat.reduceLeDiff, Bool.false_eq_true, Nat.reduceAdd, Nat.reduceSub, Nat.reduceMul, Nat.reduceLT, or_self, or_false, false_or, or_true, true_or, and_self, and_true, true_and, and_false, false_and, not_true_eq_false, not_false_eq_true, hct]) 0 (x, g4) (Nat.zero_le _) ⟨hm0, fm_scr q1, fun c' z' h1 h2 => q2 c' z' h1 h2⟩
  have hw2x : zI x2 9 0 1 = nI w := p1.1
  refine ⟨x2, g5, ?_, p1, p2⟩
  simp (config := {maxSteps := 1000000}) (disch := first | omega | assumption | (simp only [qm_wid_n, qm_wid_I, qm_wid_L, qm_wid_P] <;> omega)) only [e_M_goBy, b_M_goBy_0, qy0, qy1, qy2, qy3, qe, qcn, qin, ↓reduceIte, Nat.reduceEqDiff, Nat.reduceLeDiff, Bool.false_eq_true, Nat.reduceAdd, Nat.reduceSub, Nat.reduceMul, Nat.reduceLT, or_self, or_false, false_or, or_true, true_or, and_self, and_true, true_and, and_false, false_and, not_true_eq_false, not_false_eq_true]
  refine e.trans ?_
  refine (b_M_goBy_1 ..).trans ?_
  simp (config := {maxSteps := 1000000}) (disch := first | omega | assumption | (simp only [qm_wid_n, qm_wid_I, qm_wid_L, qm_wid_P] <;> omega)) only [b_M_goBy_4, qy0, qy1, qy2, qy3, qe, qcn, qin, ↓reduceIte, Nat.reduceEqDiff, Nat.reduceLeDiff, Bool.false_eq_true, Nat.reduceAdd, Nat.reduceSub, Nat.reduceMul, Nat.reduceLT, or_self, or_false, false_or, or_true, true_or, and_self, and_true, true_and, and_false, false_and, not_true_eq_false, not_false_eq_true, hw1x]
  refine e2.trans ?_
  refine (b_M_goBy_5 ..).trans ?_
  simp (config := {maxSteps := 1000000}) (disch := first | omega | assumption | (simp only [qm_wid_n, qm_wid_I, qm_wid_L, qm_wid_P] <;> omega)) only [qy0, qy1, qy2, qy3, qe, qcn, qin, ↓reduceIte, Nat.reduceEqDiff, Nat.reduceLeDiff, Bool.false_eq_true, Nat.reduceAdd, Nat.reduceSub, Nat.reduceMul, Nat.reduceLT, or_self, or_false, false_or, or_true, true_or, and_self, and_true, true_and, and_false, false_and, not_true_eq_false, not_false_eq_true, hw2x]
theorem dry_like {τ : TX} {w : Nat} {W : Nat → Int32} {y : VW} (ok : OKP w y) : vlike w (vset (mid τ w W y (8 * w)) 0 0 (y 0 0 + nI 1)) (dryv τ w W y) := by
  refine ⟨fun i hi => ?_, fun c hc => ?_, fun f c z hf hc hz => ?_⟩
  · unfold vset dryv
    by_cases h : i = 0
    · subst h; rfl
    · rw [if_neg (by decide), if_neg (fun g => h g.2), if_neg (fun g => h g.2), mid_ne (Or.inl (by decide))]
  · unfold vset dryv
    rw [if_neg (by decide), if_neg (fun g => by omega), if_neg (fun g => by omega), mid_ne (Or.inl (by decide))]
  · rw [cn_vset (by decide), mid_cn] at hz
    have h8 := OK_n ok hc
    rw [vset_ne (by omega)]
    unfold dryv mid
    by_cases q : 2 + f = 4
    · rw [if_pos q, if_pos ⟨q, by omega⟩]
    · rw [if_neg q, if_neg (fun g => by omega), if_neg (fun g => q g.1)]
/-- behind the splits: the week -/
theorem r_goB (d : Nat) {s : qm_Hp} {b w k : Nat} {y : VW} {τ : TX} {W : Nat → Int32} (hP : PM s b w y) (ok : OKP w y) (hb : zI s 9 0 2 = nI b) (hb2 : b ≤ 2940) (hL : LM s τ) (okt : OKT τ) (hk : k < 12) (hW : ∀ i, i < 4 → zI s 61 0 (20 + 4 * k + i) = W i) (hWr : ∀ i, i < 4 → rg (W i) 0 40) (hl : zI s 9 0 27 = nI 1) : ∃ s', qm_evM (d + 7) jM_goBy [qP 9 0, qI (nI k)] s = some (none, s') ∧ PM s' b w (dryv τ w W y) ∧ fm b s s' := by
  obtain ⟨x, g4, e, h1, h2⟩ := r_goA d hP ok hb hb2 hL okt hk hW hWr
  have hbx : zI x 9 0 2 = nI b := (fm_9 h2 2).trans hb
  have hlx : zI x 9 0 27 = nI 1 := (fm_9 h2 27).trans hl
  have hwk : zI x 61 0 b = y 0 0 := h1.2.1.1
  have h7 : zI x 61 0 (b + 7) = y 0 1 := h1.2.1.2.1
  have b0 : b + 0 = b := rfl
  have hne : (b + 7 = b) = False := eq_false (by omega)
  refine ⟨uI x 61 0 b (y 0 0 + nI 1), ?_, PM_like (dry_like ok) (PM_sc h1 0 (by decide) _), fm_u h2 _ _ (by omega)⟩
  rw [e]
  by_cases hf : nI 0 ≤ y 0 1
  · simp (config := {maxSteps := 1000000}) (disch := first | omega | assumption | (simp only [qm_wid_n, qm_wid_I, qm_wid_L, qm_wid_P] <;> omega)) only [b_M_goBy_8, b_M_goBy_9, qy0, qy1, qy2, qy3, qe, qcn, qin, ↓reduceIte, Nat.reduceEqDiff, Nat.reduceLeDiff, Bool.false_eq_true, Nat.reduceAdd, Nat.reduceSub, Nat.reduceMul, Nat.reduceLT, or_self, or_false, false_or, or_true, true_or, and_self, and_true, true_and, and_false, false_and, not_true_eq_false, not_false_eq_true, hbx, b0, hwk, zI_uI, h7, hf]
  · simp (config := {maxSteps := 1000000}) (disch := first | omega | assumption | (simp only [qm_wid_n, qm_wid_I, qm_wid_L, qm_wid_P] <;> omega)) only [b_M_goBy_8, b_M_goBy_9, qy0, qy1, qy2, qy3, qe, qcn, qin, ↓reduceIte, Nat.reduceEqDiff, Nat.reduceLeDiff, Bool.false_eq_true, Nat.reduceAdd, Nat.reduceSub, Nat.reduceMul, Nat.reduceLT, or_self, or_false, false_or, or_true, true_or, and_self, and_true, true_and, and_false, false_and, not_true_eq_false, not_false_eq_true, hbx, b0, hwk, zI_uI, h7, hf, hlx]
theorem r_goBy (d : Nat) {s : qm_Hp} {b w k i : Nat} {y : VW} {τ : TX} {W : Nat → Int32} (hP : PM s b w y) (ok : OKP w y) (hb : zI s 9 0 2 = nI b) (hb2 : b ≤ 2940) (hb3 : b = 0 ∨ 420 ≤ b) (hL : LM s τ) (okt : OKT τ) (hk : k < 12) (hW : ∀ i, i < 4 → zI s 61 0 (20 + 4 * k + i) = W i) (hWr : ∀ i, i < 4 → rg (W i) 0 40) (hl : zI s 9 0 27 = nI 0) (hi : y 0 0 = nI i) (hi2 : i < 399) : ∃ s', qm_evM (d + 7) jM_goBy [qP 9 0, qI (nI k)] s = some (none, s') ∧ PM s' b w (passv τ w W y) ∧ fm b s s' := by
  obtain ⟨x, g4, e, h1, h2⟩ := r_goA d hP ok hb hb2 hL okt hk hW hWr
  have hbx : zI x 9 0 2 = nI b := (fm_9 h2 2).trans hb
  have hlx : zI x 9 0 27 = nI 0 := (fm_9 h2 27).trans hl
  have hwk : zI x 61 0 b = y 0 0 := h1.2.1.1
  have h7 : zI x 61 0 (b + 7) = y 0 1 := h1.2.1.2.1
  have b0 : b + 0 = b := rfl
  have okd := ok_dry (τ := τ) (W := W) ok hi hi2
  have hP1 : PM (uI x 61 0 b (y 0 0 + nI 1)) b w (dryv τ w W y) := PM_like (dry_like ok) (PM_sc h1 0 (by decide) _)
  have f1 : fm b s (uI x 61 0 b (y 0 0 + nI 1)) := fm_u h2 _ _ (by omega)
  have hf01 : dryv τ w W y 0 1 = y 0 1 := rfl
  unfold passv
  by_cases hf : nI 0 ≤ y 0 1
  · refine ⟨uI x 61 0 b (y 0 0 + nI 1), ?_, ?_, f1⟩
    · rw [e]
      simp (config := {maxSteps := 1000000}) (disch := first | omega | assumption | (simp only [qm_wid_n, qm_wid_I, qm_wid_L, qm_wid_P] <;> omega)) only [b_M_goBy_8, b_M_goBy_9, qy0, qy1, qy2, qy3, qe, qcn, qin, ↓reduceIte, Nat.reduceEqDiff, Nat.reduceLeDiff, Bool.false_eq_true, Nat.reduceAdd, Nat.reduceSub, Nat.reduceMul, Nat.reduceLT, or_self, or_false, false_or, or_true, true_or, and_self, and_true, true_and, and_false, false_and, not_true_eq_false, not_false_eq_true, hbx, b0, hwk, zI_uI, h7, hf]
    · rw [fall_no (fun g => by rw [hf01] at g; rw [g.1] at hf; exact absurd hf (by decide))]
      exact hP1
  · have hfn : y 0 1 = N1 := (fl_iff ok).mp (Int32.not_le.mp hf)
    have e8 : qm_evB (d + 7) jM_goBy 8 [qP 9 0, qI (nI k), qI (nI (20 + 4 * k)), qI (nI w), g4] [] x = qm_evB (d + 7) jM_goBy 10 [qP 9 0, qI (nI k), qI (nI (20 + 4 * k)), qI (nI w), g4] [] (uI x 61 0 b (y 0 0 + nI 1)) := by
      simp (config := {maxSteps := 1000000}) (disch := first | omega | assumption | (simp only [qm_wid_n, qm_wid_I, qm_wid_L, qm_wid_P] <;> omega)) only [b_M_goBy_8, qy0, qy1, qy2, qy3, qe, qcn, qin, ↓reduceIte, Nat.reduceEqDiff, Nat.reduceLeDiff, Bool.false_eq_true, Nat.reduceAdd, Nat.reduceSub, Nat.reduceMul, Nat.reduceLT, or_self, or_false, false_or, or_true, true_or, and_self, and_true, true_and, and_false, false_and, not_true_eq_false, not_false_eq_true, hbx, b0, hwk, zI_uI, h7, hf, hlx]
    generalize uI x 61 0 b (y 0 0 + nI 1) = x1 at e8 hP1 f1
    have hb1 : zI x1 9 0 2 = nI b := (fm_9 f1 2).trans hb
    have hL1 := LM_fm f1 hb3 hL
    generalize dryv τ w W y = y1 at hP1 okd hf01
    obtain ⟨x2, a1, a2⟩ := r_lean d hP1 okd hb1 hb2 hL1 okt
    have hP2 := PM_scr a2 hP1
    have hb2x : zI x2 9 0 2 = nI b := (a2.1 9 0 2 (by decide)).trans hb1
    obtain ⟨x3, c1, c2⟩ := r_stand (d + 2) hP2 okd hb2x hb2 (LM_scr a2 hL1) okt
    have hP3 := PM_scr c2 hP2
    have hb3x : zI x3 9 0 2 = nI b := (c2.1 9 0 2 (by decide)).trans hb2x
    have f3 : fm b s x3 := fm_trans f1 (fm_scr (mem2 (by decide) (fr_trans a2 c2)))
    have hwk3 : zI x3 61 0 b = y1 0 0 := hP3.2.1.1
    have fi := fall_iff (τ := τ) okd
    by_cases hq : stand τ y1 w < lean τ y1 w
    · refine ⟨uI x3 61 0 (b + 7) (y1 0 0), ?_, ?_, fm_u f3 _ _ (by omega)⟩
      · rw [e, e8]
        simp (config := {maxSteps := 1000000}) (disch := first | omega | assumption | (simp only [qm_wid_n, qm_wid_I, qm_wid_L, qm_wid_P] <;> omega)) only [b_M_goBy_10, b_M_goBy_11, b_M_goBy_12, qy0, qy1, qy2, qy3, qe, qcn, qin, ↓reduceIte, Nat.reduceEqDiff, Nat.reduceLeDiff, Bool.false_eq_true, Nat.reduceAdd, Nat.reduceSub, Nat.reduceMul, Nat.reduceLT, or_self, or_false, false_or, or_true, true_or, and_self, and_true, true_and, and_false, false_and, not_true_eq_false, not_false_eq_true, a1, c1, hq, hb3x, b0, hwk3]
      · rw [fall_yes ⟨hf01.trans hfn, fi.mpr (Or.inl hq)⟩]
        exact PM_sc hP3 1 (by decide) _
    · by_cases hq2 : -(stand τ y1 w) ≤ lean τ y1 w
      · refine ⟨x3, ?_, ?_, f3⟩
        · rw [e, e8]
          simp (config := {maxSteps := 1000000}) (disch := first | omega | assumption | (simp only [qm_wid_n, qm_wid_I, qm_wid_L, qm_wid_P] <;> omega)) only [b_M_goBy_10, b_M_goBy_12, qy0, qy1, qy2, qy3, qe, qcn, qin, ↓reduceIte, Nat.reduceEqDiff, Nat.reduceLeDiff, Bool.false_eq_true, Nat.reduceAdd, Nat.reduceSub, Nat.reduceMul, Nat.reduceLT, or_self, or_false, false_or, or_true, true_or, and_self, and_true, true_and, and_false, false_and, not_true_eq_false, not_false_eq_true, a1, c1, hq, hq2]
        · rw [fall_no (fun g => (fi.mp g.2).elim hq (fun q => q hq2))]
          exact hP3
      · refine ⟨uI x3 61 0 (b + 7) (y1 0 0), ?_, ?_, fm_u f3 _ _ (by omega)⟩
        · rw [e, e8]
          simp (config := {maxSteps := 1000000}) (disch := first | omega | assumption | (simp only [qm_wid_n, qm_wid_I, qm_wid_L, qm_wid_P] <;> omega)) only [b_M_goBy_10, b_M_goBy_11, b_M_goBy_12, qy0, qy1, qy2, qy3, qe, qcn, qin, ↓reduceIte, Nat.reduceEqDiff, Nat.reduceLeDiff, Bool.false_eq_true, Nat.reduceAdd, Nat.reduceSub, Nat.reduceMul, Nat.reduceLT, or_self, or_false, false_or, or_true, true_or, and_self, and_true, true_and, and_false, false_and, not_true_eq_false, not_false_eq_true, a1, c1, hq, hq2, hb3x, b0, hwk3]
        · rw [fall_yes ⟨hf01.trans hfn, fi.mpr (Or.inr hq2)⟩]
          exact PM_sc hP3 1 (by decide) _
