/-! a split taken out -/
def vrm (y : VW) (c z : Nat) : VW := fun a j => if a = 1 ∧ j = c then nI (cn y c - 1) else if (2 ≤ a ∧ a ≤ 7) ∧ j / 8 = c ∧ z ≤ j % 8 then y a (j + 1) else y a j
theorem vrm_ne {y : VW} {c z a j : Nat} (h1 : ¬ (a = 1 ∧ j = c)) (h2 : ¬ ((2 ≤ a ∧ a ≤ 7) ∧ j / 8 = c ∧ z ≤ j % 8)) : vrm y c z a j = y a j := by unfold vrm; rw [if_neg h1, if_neg h2]
theorem vrm_up {y : VW} {c z a z' : Nat} (ha : 2 ≤ a ∧ a ≤ 7) (hz : z ≤ z') (h8 : z' < 8) : vrm y c z a (8 * c + z') = y a (8 * c + (z' + 1)) := by
  unfold vrm
  rw [if_neg (by omega), if_pos ⟨ha, by omega, by omega⟩, Nat.add_assoc]
theorem cn_vrm {y : VW} {c z : Nat} (h : cn y c ≤ 8) (c' : Nat) : cn (vrm y c z) c' = if c' = c then cn y c - 1 else cn y c' := by
  unfold cn vrm
  by_cases q : c' = c
  · rw [if_pos ⟨rfl, q⟩, if_pos q]
    exact nI_clamp (by omega)
  · rw [if_neg (fun g => q g.2), if_neg q, if_neg (fun g => by omega)]
theorem vp_rm {y : VW} {c z : Nat} : vp y (vrm y c z) := fun a j h => vrm_ne (by omega) (by omega)
theorem OKP_rm {w c z : Nat} {y : VW} (ok : OKP w y) (hc : c < w) (hz : z < cn y c) : OKP w (vrm y c z) := by
  have h8 := OK_n ok hc
  have hv : ∀ i, vrm y c z 0 i = y 0 i := fun i => vrm_ne (by omega) (by omega)
  refine ⟨ok.1, ?_, fun c' hc' => ?_, fun c' z' hc' hz' => ?_⟩
  · simp only [hv]; exact ok.2.1
  · rw [cn_vrm h8]
    by_cases q : c' = c
    · rw [if_pos q]
      refine ⟨by omega, ?_⟩
      unfold vrm
      rw [if_pos ⟨rfl, q⟩]
    · rw [if_neg q, vrm_ne (fun g => q g.2) (by omega)]; exact ok.2.2.1 c' hc'
  · rw [cn_vrm h8] at hz'
    have h8' := OK_n ok hc'
    by_cases q : c' = c
    · rw [if_pos q] at hz'
      subst q
      by_cases q2 : z ≤ z'
      · have o := ok.2.2.2 c' (z' + 1) hc' (by omega)
        unfold OKs at *
        rw [vrm_up (by omega) q2 (by omega), vrm_up (by omega) q2 (by omega), vrm_up (by omega) q2 (by omega), vrm_up (by omega) q2 (by omega), vrm_up (by omega) q2 (by omega), vrm_up (by omega) q2 (by omega)]
        exact o
      · exact OKs_like (fun f hf => vrm_ne (by omega) (by omega)) (ok.2.2.2 c' z' hc' (by omega))
    · rw [if_neg q] at hz'
      exact OKs_like (fun f hf => vrm_ne (by omega) (by omega)) (ok.2.2.2 c' z' hc' hz')
theorem spl_cong {y y' : VW} : ∀ n, (∀ c, c < n → cn y' c = cn y c) → spl y' n = spl y n
  | 0, _ => rfl
  | n + 1, h => by
    show spl y' n + cn y' n = spl y n + cn y n
    rw [spl_cong n (fun c hc => h c (by omega)), h n (by omega)]
theorem spl_rm {y : VW} {c z : Nat} (h8 : cn y c ≤ 8) (hz : z < cn y c) : ∀ n, c < n → spl (vrm y c z) n + 1 = spl y n
  | 0, h => absurd h (Nat.not_lt_zero _)
  | n + 1, h => by
    show spl (vrm y c z) n + cn (vrm y c z) n + 1 = spl y n + cn y n
    rw [cn_vrm h8]
    by_cases q : n = c
    · have e1 : spl (vrm y c z) n = spl y n := spl_cong n (fun c' hc' => by rw [cn_vrm h8, if_neg (by omega)])
      rw [if_pos q, e1, q]
      omega
    · rw [if_neg q]
      have := spl_rm h8 hz n (by omega)
      omega
/-- one place down -/
def hbd (s : qm_Hp) (p j : Nat) : qm_Hp := uI (uI (uI (uI (uI (uI s 11 p j (zI s 11 p (j + 1))) 12 p j (zI s 12 p (j + 1))) 13 p j (zI s 13 p (j + 1))) 14 p j (zI s 14 p (j + 1))) 15 p j (zI s 15 p (j + 1))) 16 p j (zI s 16 p (j + 1))
theorem c_bring (d : Nat) (s : qm_Hp) (p j : Nat) (hj : j + 1 < 48) : qm_evM d jP_bringDown [qP 3 p, qI (nI j)] s = some (none, hbd s p j) := by
  unfold hbd
  simp (config := {maxSteps := 1000000}) (disch := first | omega | assumption | (simp only [qm_wid_n, qm_wid_I, qm_wid_L, qm_wid_P] <;> omega)) only [e_P_bringDown, b_P_bringDown_0, qy0, qy1, qy2, qy3, qe, qcn, qin, ↓reduceIte, Nat.reduceEqDiff, Nat.reduceLeDiff, Bool.false_eq_true, Nat.reduceAdd, Nat.reduceSub, Nat.reduceMul, Nat.reduceLT, or_self, or_false, false_or, or_true, true_or, and_self, and_true, true_and, and_false, false_and, not_true_eq_false, not_false_eq_true, zI_uI]
theorem hbd_a (s : qm_Hp) (p j f j' : Nat) (hf : f < 6) : zI (hbd s p j) (11 + f) p j' = if j' = j then zI s (11 + f) p (j + 1) else zI s (11 + f) p j' := by
  unfold hbd
  have : f = 0 ∨ f = 1 ∨ f = 2 ∨ f = 3 ∨ f = 4 ∨ f = 5 := by omega
  rcases this with h | h | h | h | h | h <;> subst h <;> simp only [zI_uI, Nat.reduceAdd, Nat.reduceEqDiff, false_and, true_and, ↓reduceIte]
theorem hbd_o (s : qm_Hp) (p j k i j' : Nat) (h : k < 11 ∨ 17 ≤ k) : zI (hbd s p j) k i j' = zI s k i j' := by
  unfold hbd
  simp (disch := omega) only [zI_uI, n_eqF, false_and, ↓reduceIte]
theorem hbd_fp (s s' : qm_Hp) (p j : Nat) (h : fp (PP p) s s') : fp (PP p) s (hbd s' p j) := by
  unfold hbd
  repeat' (first | exact h | refine fp_uI (by unfold PP; omega) ?_ _ _)
theorem c_remove (d : Nat) {s : qm_Hp} {p w c z : Nat} {y : VW} (hP : PC s p w y) (ok : OKP w y) (hc : c < w) (hz : z < cn y c) : ∃ s', qm_evM (d + 1) jP_remove [qP 3 p, qI (nI c), qI (nI z)] s = some (none, s') ∧ PC s' p w (vrm y c z) ∧ fp (PP p) s s' := by
  have hw6 := ok.1.2
  have h8 := OK_n ok hc
  have hcn := PC_c hP hc
  have hh := t_holds_y d hP ok hc hz
  obtain ⟨x, e, _, q1, q2, q3⟩ := q_lp (cn y c - 1) (fun i (x : qm_Hp) => qm_evB (d + 1) jP_remove 2 [qP 3 p, qI (nI c), qI (nI z), qI (nI i)] [] x) (fun i x => z ≤ i ∧ fp (PP p) s x ∧ (∀ k i j, k < 11 ∨ 17 ≤ k → zI x k i j = zI s k i j) ∧ (∀ f j, f < 6 → zI x (11 + f) p j = if 8 * c + z ≤ j ∧ j < 8 * c + i then zI s (11 + f) p (j + 1) else zI s (11 + f) p j)) (fun i x hi hx => by
    obtain ⟨i0, i1, i2, i3⟩ := hx
    have hcx : zI x 17 p c = nI (cn y c) := (i2 17 p c (by omega)).trans hcn
    have hbr := c_bring d x p (8 * c + i) (by omega)
    refine ⟨hbd x p (8 * c + i), ?_, by omega, hbd_fp _ _ _ _ i1, fun k i' j hk => (hbd_o x p _ k i' j hk).trans (i2 k i' j hk), fun f j hf => ?_⟩
    · refine (b_P_remove_2 ..).trans ?_
      simp (config := {maxSteps := 1000000}) (disch := first | omega | assumption | (simp only [qm_wid_n, qm_wid_I, qm_wid_L, qm_wid_P] <;> omega)) only [qy0, qy1, qy2, qy3, qe, qcn, qin, ↓reduceIte, Nat.reduceEqDiff, Nat.reduceLeDiff, Bool.false_eq_true, Nat.reduceAdd, Nat.reduceSub, Nat.reduceMul, Nat.reduceLT, or_self, or_false, false_or, or_true, true_or, and_self, and_true, true_and, and_false, false_and, not_true_eq_false, not_false_eq_true, hcx, t_place, hbr]
    · rw [hbd_a x p _ f j hf, i3 f _ hf, i3 f _ hf]
      by_cases g : j = 8 * c + i
      · subst g
        by_cases g2 : z ≤ i
        · rw [if_pos rfl, if_neg (by omega), if_pos (by omega)]
        · rw [if_pos rfl, if_neg (by omega), if_neg (by omega)]
          exact absurd g2 (by omega)
      · rw [if_neg g]
        by_cases g2 : 8 * c + z ≤ j ∧ j < 8 * c + i
        · rw [if_pos g2, if_pos (by omega)]
        · rw [if_neg g2, if_neg (by omega)]) z s (by omega) ⟨Nat.le_refl _, fp_refl _ _, fun _ _ _ _ => rfl, fun f j hf => by rw [if_neg (by omega)]⟩
  have hcx : zI x 17 p c = nI (cn y c) := (q2 17 p c (by omega)).trans hcn
  have hs : ∀ j, zI (uI x 17 p c (nI (cn y c - 1))) 3 p j = zI s 3 p j := fun j => by rw [zI_uI, if_neg (by omega)]; exact q2 3 p j (by omega)
  have hv : ∀ i, vrm y c z 0 i = y 0 i := fun i => vrm_ne (by omega) (by omega)
  refine ⟨uI x 17 p c (nI (cn y c - 1)), ?_, ⟨?_, ⟨?_, ?_, ?_, ?_, ?_⟩, fun c' hc' => ?_, fun f c' z' hf hc' hz' => ?_⟩, fp_uI (by unfold PP; omega) q1 _ _⟩
  · simp (config := {maxSteps := 1000000}) (disch := first | omega | assumption | (simp only [qm_wid_n, qm_wid_I, qm_wid_L, qm_wid_P] <;> omega)) only [e_P_remove, b_P_remove_0, b_P_remove_1, qy0, qy1, qy2, qy3, qe, qcn, qin, ↓reduceIte, Nat.reduceEqDiff, Nat.reduceLeDiff, Bool.false_eq_true, Nat.reduceAdd, Nat.reduceSub, Nat.reduceMul, Nat.reduceLT, or_self, or_false, false_or, or_true, true_or, and_self, and_true, true_and, and_false, false_and, not_true_eq_false, not_false_eq_true, hh]
    refine e.trans ?_
    simp (config := {maxSteps := 1000000}) (disch := first | omega | assumption | (simp only [qm_wid_n, qm_wid_I, qm_wid_L, qm_wid_P] <;> omega)) only [b_P_remove_2, b_P_remove_3, qy0, qy1, qy2, qy3, qe, qcn, qin, ↓reduceIte, Nat.reduceEqDiff, Nat.reduceLeDiff, Bool.false_eq_true, Nat.reduceAdd, Nat.reduceSub, Nat.reduceMul, Nat.reduceLT, or_self, or_false, false_or, or_true, true_or, and_self, and_true, true_and, and_false, false_and, not_true_eq_false, not_false_eq_true, hcx]
  · rw [hs]; exact hP.1
  · rw [hs, hv]; exact hP.2.1.1
  · rw [hs, hv]; exact hP.2.1.2.1
  · rw [hs, hv]; exact hP.2.1.2.2.1
  · rw [hs, hv]; exact hP.2.1.2.2.2.1
  · rw [hs, hv]; exact hP.2.1.2.2.2.2
  · rw [cn_vrm h8]
    by_cases q : c' = c
    · rw [if_pos q, zI_uI, if_pos ⟨rfl, rfl, q⟩]
    · rw [if_neg q, zI_uI, if_neg (fun g => q g.2.2), q2 17 p c' (by omega)]
      exact hP.2.2.1 c' hc'
  · rw [cn_vrm h8] at hz'
    have h8' := OK_n ok hc'
    rw [zI_uI, if_neg (by omega), q3 f _ hf]
    by_cases q : c' = c
    · rw [if_pos q] at hz'
      subst q
      by_cases g : z ≤ z'
      · rw [if_pos (by omega), vrm_up (by omega) g (by omega), Nat.add_assoc]
        exact hP.2.2.2 f c' (z' + 1) hf hc' (by omega)
      · rw [if_neg (by omega), vrm_ne (by omega) (by omega)]
        exact hP.2.2.2 f c' z' hf hc' (by omega)
    · rw [if_neg q] at hz'
      rw [if_neg (by omega), vrm_ne (by omega) (by omega)]
      exact hP.2.2.2 f c' z' hf hc' hz'
/-- the reference's rows but b's counts and splits -/
def fc (b : Nat) (s s' : qm_Hp) : Prop := fr [61, 65, 66, 67, 68] s s' ∧ ∀ j, j ≠ b → j ≠ b + 7 → (j < b + 120 ∨ b + 420 ≤ j) → zI s' 61 0 j = zI s 61 0 j
theorem r_takeOff (d : Nat) {s : qm_Hp} {b w c z : Nat} {y : VW} (hP : PM s b w y) (ok : OKP w y) (hb : zI s 9 0 2 = nI b) (hb2 : b ≤ 2940) (hc : c < w) (hz : z < cn y c) : ∃ s', qm_evM (d + 1) jM_takeOff [qP 9 0, qI (nI c), qI (nI z)] s = some (none, s') ∧ PM s' b w (vrm y c z) ∧ fc b s s' := by
  have hw6 := ok.1.2
  have h8 := OK_n ok hc
  have hcn := PM_c hP hc
  obtain ⟨⟨x, x4⟩, e, _, q1, q2⟩ := q_lp (cn y c - 1) (fun i (x : qm_Hp × qm_AV) => qm_evB (d + 1) jM_takeOff 1 [qP 9 0, qI (nI c), qI (nI z), qI (nI i), x.2] [] x.1) (fun i x => z ≤ i ∧ fr [61] s x.1 ∧ (∀ j, zI x.1 61 0 j = if b + 130 + 6 * (8 * c + z) ≤ j ∧ j < b + 130 + 6 * (8 * c + i) then zI s 61 0 (j + 6) else zI s 61 0 j)) (fun i x hi hx => by
    obtain ⟨x, x4⟩ := x
    obtain ⟨i0, i1, i2⟩ := hx
    dsimp only at i1 i2
    obtain ⟨x', e', j1, j2⟩ := q_lp 6 (fun ee (x : qm_Hp) => qm_evB (d + 1) jM_takeOff 2 [qP 9 0, qI (nI c), qI (nI z), qI (nI i), qI (nI ee)] [] x) (fun ee x => fr [61] s x ∧ (∀ j, zI x 61 0 j = if b + 130 + 6 * (8 * c + z) ≤ j ∧ j < b + 130 + 6 * (8 * c + i) + ee then zI s 61 0 (j + 6) else zI s 61 0 j)) (fun ee x he hx => by
      obtain ⟨k1, k2⟩ := hx
      have hbx : zI x 9 0 2 = nI b := (k1.1 9 0 2 (by decide)).trans hb
      have ha1 := r_at0 d hbx c i
      have ha2 := r_at0 d hbx c (i + 1)
      have hrd : zI x 61 0 (b + 130 + 6 * (8 * c + (i + 1)) + ee) = zI s 61 0 (b + 130 + 6 * (8 * c + (i + 1)) + ee) := by rw [k2, if_neg (by omega)]
      refine ⟨uI x 61 0 (b + 130 + 6 * (8 * c + i) + ee) (zI s 61 0 (b + 130 + 6 * (8 * c + (i + 1)) + ee)), ?_, fr_uI (by decide) k1 _ _ _, fun j => ?_⟩
      · refine (b_M_takeOff_2 ..).trans ?_
        simp (config := {maxSteps := 1000000}) (disch := first | omega | assumption | (simp only [qm_wid_n, qm_wid_I, qm_wid_L, qm_wid_P] <;> omega)) only [qy0, qy1, qy2, qy3, qe, qcn, qin, ↓reduceIte, Nat.reduceEqDiff, Nat.reduceLeDiff, Bool.false_eq_true, Nat.reduceAdd, Nat.reduceSub, Nat.reduceMul, Nat.reduceLT, or_self, or_false, false_or, or_true, true_or, and_self, and_true, true_and, and_false, false_and, not_true_eq_false, not_false_eq_true, ha1, ha2, hrd]
      · rw [zI_uI, k2]
        by_cases g : j = b + 130 + 6 * (8 * c + i) + ee
        · rw [if_pos ⟨rfl, rfl, g⟩, g]
          by_cases g2 : z ≤ i
          · rw [if_pos (by omega)]
            congr 1
            omega
          · exact absurd g2 (by omega)
        · rw [if_neg (fun q => g q.2.2)]
          by_cases g2 : b + 130 + 6 * (8 * c + z) ≤ j ∧ j < b + 130 + 6 * (8 * c + i) + ee
          · rw [if_pos g2, if_pos (by omega)]
          · rw [if_neg g2, if_neg (by omega)]) 0 x (Nat.zero_le _) ⟨i1, fun j => i2 j⟩
    have hbx : zI x 9 0 2 = nI b := (i1.1 9 0 2 (by decide)).trans hb
    have hct : qm_evM d jM_count [qP 9 0, qI (nI c)] x = some (some (qI (nI (cn y c))), x) := by
      rw [m_count d x b c hbx (by omega), i2, if_neg (by omega), hcn]
    refine ⟨(x', qI (nI 6)), ?_, by omega, j1, fun j => ?_⟩
    · refine (b_M_takeOff_1 ..).trans ?_
      simp (config := {maxSteps := 1000000}) (disch := first | omega | assumption | (simp only [qm_wid_n, qm_wid_I, qm_wid_L, qm_wid_P] <;> omega)) only [qy0, qy1, qy2, qy3, qe, qcn, qin, ↓reduceIte, Nat.reduceEqDiff, Nat.reduceLeDiff, Bool.false_eq_true, Nat.reduceAdd, Nat.reduceSub, Nat.reduceMul, Nat.reduceLT, or_self, or_false, false_or, or_true, true_or, and_self, and_true, true_and, and_false, false_and, not_true_eq_false, not_false_eq_true, hct]
      refine e'.trans ?_
      refine (b_M_takeOff_2 ..).trans ?_
      simp (config := {maxSteps := 1000000}) (disch := first | omega | assumption | (simp only [qm_wid_n, qm_wid_I, qm_wid_L, qm_wid_P] <;> omega)) only [b_M_takeOff_3, qy0, qy1, qy2, qy3, qe, qcn, qin, ↓reduceIte, Nat.reduceEqDiff, Nat.reduceLeDiff, Bool.false_eq_true, Nat.reduceAdd, Nat.reduceSub, Nat.reduceMul, Nat.reduceLT, or_self, or_false, false_or, or_true, true_or, and_self, and_true, true_and, and_false, false_and, not_true_eq_false, not_false_eq_true]
    · rw [j2 j]
      by_cases g2 : b + 130 + 6 * (8 * c + z) ≤ j ∧ j < b + 130 + 6 * (8 * c + i) + 6
      · rw [if_pos g2, if_pos (by omega)]
      · rw [if_neg g2, if_neg (by omega)]) z (s, qU) (by omega) ⟨Nat.le_refl _, fr_refl _ _, fun j => by rw [if_neg (by omega)]⟩
  dsimp only at q1 q2
  have hbx : zI x 9 0 2 = nI b := (q1.1 9 0 2 (by decide)).trans hb
  have h120 : zI x 61 0 (b + 120 + c) = nI (cn y c) := by rw [q2, if_neg (by omega), hcn]
  have hct : qm_evM d jM_count [qP 9 0, qI (nI c)] x = some (some (qI (nI (cn y c))), x) := by
    rw [m_count d x b c hbx (by omega), h120]
  have hv : ∀ i, vrm y c z 0 i = y 0 i := fun i => vrm_ne (by omega) (by omega)
  have e0 : ∀ j, j ≠ b + 120 + c → zI (uI x 61 0 (b + 120 + c) (nI (cn y c - 1))) 61 0 j = if b + 130 + 6 * (8 * c + z) ≤ j ∧ j < b + 130 + 6 * (8 * c + (cn y c - 1)) then zI s 61 0 (j + 6) else zI s 61 0 j := fun j hj => by
    rw [zI_uI, if_neg (fun g => hj g.2.2)]; exact q2 j
  refine ⟨uI x 61 0 (b + 120 + c) (nI (cn y c - 1)), ?_, ⟨?_, ⟨?_, ?_, ?_, ?_, ?_⟩, fun c' hc' => ?_, fun f c' z' hf hc' hz' => ?_⟩, ?_, fun j j1 j2 j3 => ?_⟩
  · simp (config := {maxSteps := 1000000}) (disch := first | omega | assumption | (simp only [qm_wid_n, qm_wid_I, qm_wid_L, qm_wid_P] <;> omega)) only [e_M_takeOff, b_M_takeOff_0, qy0, qy1, qy2, qy3, qe, qcn, qin, ↓reduceIte, Nat.reduceEqDiff, Nat.reduceLeDiff, Bool.false_eq_true, Nat.reduceAdd, Nat.reduceSub, Nat.reduceMul, Nat.reduceLT, or_self, or_false, false_or, or_true, true_or, and_self, and_true, true_and, and_false, false_and, not_true_eq_false, not_false_eq_true]
    refine e.trans ?_
    simp (config := {maxSteps := 1000000}) (disch := first | omega | assumption | (simp only [qm_wid_n, qm_wid_I, qm_wid_L, qm_wid_P] <;> omega)) only [b_M_takeOff_1, b_M_takeOff_4, qy0, qy1, qy2, qy3, qe, qcn, qin, ↓reduceIte, Nat.reduceEqDiff, Nat.reduceLeDiff, Bool.false_eq_true, Nat.reduceAdd, Nat.reduceSub, Nat.reduceMul, Nat.reduceLT, or_self, or_false, false_or, or_true, true_or, and_self, and_true, true_and, and_false, false_and, not_true_eq_false, not_false_eq_true, hct, hbx, h120]
  · exact (q1.1 9 0 1 (by decide)).trans hP.1
  · rw [e0 _ (by omega), if_neg (by omega), hv]; exact hP.2.1.1
  · rw [e0 _ (by omega), if_neg (by omega), hv]; exact hP.2.1.2.1
  · rw [e0 _ (by omega), if_neg (by omega), hv]; exact hP.2.1.2.2.1
  · rw [e0 _ (by omega), if_neg (by omega), hv]; exact hP.2.1.2.2.2.1
  · rw [e0 _ (by omega), if_neg (by omega), hv]; exact hP.2.1.2.2.2.2
  · rw [cn_vrm h8]
    by_cases q : c' = c
    · rw [if_pos q, zI_uI, if_pos ⟨rfl, rfl, by rw [q]⟩]
    · rw [if_neg q, e0 _ (by omega), if_neg (by omega)]
      exact hP.2.2.1 c' hc'
  · rw [cn_vrm h8] at hz'
    have h8' := OK_n ok hc'
    rw [e0 _ (by omega)]
    by_cases q : c' = c
    · rw [if_pos q] at hz'
      subst q
      by_cases g : z ≤ z'
      · rw [if_pos (by omega), vrm_up (by omega) g (by omega), ← hP.2.2.2 f c' (z' + 1) hf hc' (by omega)]
        congr 1
        omega
      · rw [if_neg (by omega), vrm_ne (by omega) (by omega)]
        exact hP.2.2.2 f c' z' hf hc' (by omega)
    · rw [if_neg q] at hz'
      rw [if_neg (by omega), vrm_ne (by omega) (by omega)]
      exact hP.2.2.2 f c' z' hf hc' hz'
  · exact fr_mono (by decide) (fr_uI (by decide) q1 _ _ _)
  · rw [e0 j (by omega), if_neg (by omega)]
