/-! the class: a split dried, a week -/
theorem c_beside (d : Nat) {s : qm_Hp} {p w c z : Nat} {y : VW} (hP : PC s p w y) (ok : OKP w y) (hc : c < w) (hz : z < cn y c) : qm_evM (d + 1) jP_besideOf [qP 3 p, qI (nI c), qI (nI z)] s = some (some (qI (if y 0 1 = N1 then nI (nbs y w c z) else nI 4)), s) := by
  have := s_beside d s p w c z hP.1 ok.1.2 hc
  rw [← lk_bs hP ok hc hz]
  exact this
theorem c_dried (d : Nat) {s : qm_Hp} {p w c z : Nat} {y : VW} {τ : TX} {W : Nat → Int32} (hP : PC s p w y) (ok : OKP w y) (hL : LC s τ) (okt : OKT τ) (hc : c < w) (hz : z < cn y c) (hW : zI s 41 0 8 = W 0 ∧ zI s 41 0 9 = W 1 ∧ zI s 41 0 10 = W 2 ∧ zI s 41 0 11 = W 3) : ∃ s' v, qm_evM (d + 4) jL_driedBy [qP 5 0, qP 3 p, qI (nI c), qI (nI z)] s = some (some (qI v), s') ∧ ck (y 4 (8 * c + z) - v) (nI 0) (nI 2000) = drd τ y w W c z ∧ fr [41, 42] s s' ∧ (∀ v, 8 ≤ v → v ≤ 11 → zI s' 41 0 v = zI s 41 0 v) := by
  have h20 := okt.1
  have h8 := OK_n ok hc
  have hw6 := ok.1.2
  obtain ⟨t, hT, hTC⟩ := id hL
  have hcl := c_clauseOf (d + 1) hTC 0 (by decide)
  unfold drd
  by_cases hf : fnd τ 0 < τ.1
  · have hs := fnd_is hf
    obtain ⟨s', q1, q2, q3, q4⟩ := c_lv (d + 1) (d + 1) W hP ok hL okt hc hz hf (by omega) (by omega) (fun _ => hW)
    rw [if_pos hf] at hcl ⊢
    refine ⟨s', _, ?_, rfl, q3, q4⟩
    simp (config := {maxSteps := 1000000}) (disch := first | omega | assumption | (simp only [qm_wid_n, qm_wid_I, qm_wid_L, qm_wid_P] <;> omega)) only [e_L_driedBy, b_L_driedBy_0, qy0, qy1, qy2, qy3, qe, qcn, qin, ↓reduceIte, Nat.reduceEqDiff, Nat.reduceLeDiff, Bool.false_eq_true, Nat.reduceAdd, Nat.reduceSub, Nat.reduceMul, Nat.reduceLT, or_self, or_false, false_or, or_true, true_or, and_self, and_true, true_and, and_false, false_and, not_true_eq_false, not_false_eq_true, hT, hcl, q1, q2]
  · rw [if_neg hf] at hcl ⊢
    refine ⟨s, _, ?_, rfl, fr_refl _ _, fun _ _ _ => rfl⟩
    have g1 := PC_bk hP hc hz
    have g2 := PC_wt hP hc hz
    obtain ⟨w1, w2, w3, w4⟩ := hW
    have hb := c_beside (d + 2) hP ok hc hz
    have htp := t_isTop (d + 2) s p c z (by omega)
    have hcn := PC_c hP hc
    have h9 := hP.2.1.2.1
    rw [h9, hcn] at htp
    have e5 : ev y w W c z 5 = if y 0 1 = N1 ∧ z + 1 < cn y c then nI 0 else nI 1 := rfl
    have e6 : ev y w W c z 6 = if y 0 1 = N1 then nI (nbs y w c z) else nI 4 := rfl
    unfold dless
    rw [e5, e6]
    generalize (if y 0 1 = N1 then nI (nbs y w c z) else nI 4) = nb at hb ⊢
    by_cases hb0 : y 5 (8 * c + z) = nI 0
    · by_cases htop : y 0 1 = N1 ∧ z + 1 < cn y c
      · have hn : ¬ (¬ y 0 1 = N1 ∨ nI (cn y c) ≤ nI (z + 1)) := fun q => q.elim (fun g => g htop.1) (fun g => nI_ge htop.2 (by omega) g)
        rw [if_neg hn] at htp
        rw [if_pos htop]
        simp (config := {maxSteps := 1000000}) (disch := first | omega | assumption | (simp only [qm_wid_n, qm_wid_I, qm_wid_L, qm_wid_P] <;> omega)) only [e_L_driedBy, b_L_driedBy_0, b_L_driedBy_1, b_L_driedBy_2, b_L_driedBy_3, b_L_driedBy_4, b_L_driedBy_5, qy0, qy1, qy2, qy3, qe, qcn, qin, ↓reduceIte, Nat.reduceEqDiff, Nat.reduceLeDiff, Bool.false_eq_true, Nat.reduceAdd, Nat.reduceSub, Nat.reduceMul, Nat.reduceLT, or_self, or_false, false_or, or_true, true_or, and_self, and_true, true_and, and_false, false_and, not_true_eq_false, not_false_eq_true, hT, hcl, t_place, g1, g2, w1, w2, w3, w4, hb, htp, hb0]
      · have hn : ¬ y 0 1 = N1 ∨ nI (cn y c) ≤ nI (z + 1) := by
          by_cases q : y 0 1 = N1
          · exact Or.inr (nI_le (by have : ¬ z + 1 < cn y c := fun g => htop ⟨q, g⟩; omega) (by omega))
          · exact Or.inl q
        rw [if_pos hn] at htp
        rw [if_neg htop]
        simp (config := {maxSteps := 1000000}) (disch := first | omega | assumption | (simp only [qm_wid_n, qm_wid_I, qm_wid_L, qm_wid_P] <;> omega)) only [e_L_driedBy, b_L_driedBy_0, b_L_driedBy_1, b_L_driedBy_2, b_L_driedBy_3, b_L_driedBy_4, b_L_driedBy_5, qy0, qy1, qy2, qy3, qe, qcn, qin, ↓reduceIte, Nat.reduceEqDiff, Nat.reduceLeDiff, Bool.false_eq_true, Nat.reduceAdd, Nat.reduceSub, Nat.reduceMul, Nat.reduceLT, or_self, or_false, false_or, or_true, true_or, and_self, and_true, true_and, and_false, false_and, not_true_eq_false, not_false_eq_true, hT, hcl, t_place, g1, g2, w1, w2, w3, w4, hb, htp, hb0]
    · have hn : ¬ (y 5 (8 * c + z) = nI 0 ∧ (if y 0 1 = N1 ∧ z + 1 < cn y c then nI 0 else nI 1) = nI 1) := fun q => hb0 q.1
      rw [if_neg hn]
      simp (config := {maxSteps := 1000000}) (disch := first | omega | assumption | (simp only [qm_wid_n, qm_wid_I, qm_wid_L, qm_wid_P] <;> omega)) only [e_L_driedBy, b_L_driedBy_0, b_L_driedBy_1, b_L_driedBy_2, b_L_driedBy_3, b_L_driedBy_4, b_L_driedBy_5, qy0, qy1, qy2, qy3, qe, qcn, qin, ↓reduceIte, Nat.reduceEqDiff, Nat.reduceLeDiff, Bool.false_eq_true, Nat.reduceAdd, Nat.reduceSub, Nat.reduceMul, Nat.reduceLT, or_self, or_false, false_or, or_true, true_or, and_self, and_true, true_and, and_false, false_and, not_true_eq_false, not_false_eq_true, hT, hcl, t_place, g1, g2, w1, w2, w3, w4, hb, hb0]
/-- a week half gone: the places below m are dried -/
def mid (τ : TX) (w : Nat) (W : Nat → Int32) (y : VW) (m : Nat) : VW := fun a j => if a = 4 ∧ j < m then drd τ y w W (j / 8) (j % 8) else y a j
theorem mid_ne {τ : TX} {w : Nat} {W : Nat → Int32} {y : VW} {m a j : Nat} (h : a ≠ 4 ∨ m ≤ j) : mid τ w W y m a j = y a j := if_neg (fun z => by omega)
theorem mid_cn (τ : TX) (w : Nat) (W : Nat → Int32) (y : VW) (m c : Nat) : cn (mid τ w W y m) c = cn y c := by unfold cn; rw [mid_ne (Or.inl (by decide))]
theorem mid_ok {τ : TX} {w : Nat} {W : Nat → Int32} {y : VW} (m : Nat) (ok : OKP w y) : OKP w (mid τ w W y m) := by
  refine ⟨ok.1, ?_, fun c hc => ?_, fun c z hc hz => ?_⟩
  · simp only [mid_ne (a := 0) (Or.inl (by decide : (0 : Nat) ≠ 4))]; exact ok.2.1
  · rw [mid_cn, mid_ne (Or.inl (by decide))]; exact ok.2.2.1 c hc
  · rw [mid_cn] at hz
    have q := ok.2.2.2 c z hc hz
    unfold OKs at *
    rw [mid_ne (a := 2) (Or.inl (by decide)), mid_ne (a := 3) (Or.inl (by decide)), mid_ne (a := 5) (Or.inl (by decide)), mid_ne (a := 6) (Or.inl (by decide)), mid_ne (a := 7) (Or.inl (by decide))]
    refine ⟨q.1, q.2.1, ?_, q.2.2.2⟩
    by_cases h : 8 * c + z < m
    · show rg (if 4 = 4 ∧ 8 * c + z < m then _ else _) 0 2000
      rw [if_pos ⟨rfl, h⟩]; exact drd_rg _ _ _ _ _ _
    · rw [mid_ne (Or.inr (by omega))]; exact q.2.2.1
theorem mid_s (τ : TX) (w : Nat) (W : Nat → Int32) (y : VW) (c z : Nat) (hz : z < 8) : vset (mid τ w W y (8 * c + z)) 4 (8 * c + z) (drd τ y w W c z) = mid τ w W y (8 * c + (z + 1)) := by
  funext a j
  unfold vset mid
  by_cases h : a = 4 ∧ j = 8 * c + z
  · have e1 : j / 8 = c := by omega
    have e2 : j % 8 = z := by omega
    rw [if_pos h, if_pos ⟨h.1, by omega⟩, e1, e2]
  · rw [if_neg h]
    by_cases h2 : a = 4 ∧ j < 8 * c + z
    · rw [if_pos h2, if_pos ⟨h2.1, by omega⟩]
    · rw [if_neg h2, if_neg (fun q => h2 ⟨q.1, by have : ¬ j = 8 * c + z := fun g => h ⟨q.1, g⟩; omega⟩)]
theorem mid_col {τ : TX} {w : Nat} {W : Nat → Int32} {y : VW} (ok : OKP w y) (c : Nat) (n : Nat) (hn : cn y c ≤ n) (h8 : n ≤ 8) : vlike w (mid τ w W y (8 * c + cn y c)) (mid τ w W y (8 * c + n)) := by
  refine ⟨fun i _ => by rw [mid_ne (Or.inl (by decide)), mid_ne (Or.inl (by decide))], fun c' _ => by rw [mid_ne (Or.inl (by decide)), mid_ne (Or.inl (by decide))], fun f c' z hf hc' hz => ?_⟩
  rw [mid_cn] at hz
  have h88 := OK_n ok hc'
  unfold mid
  by_cases h : 8 * c' + z < 8 * c + cn y c
  · by_cases q : 2 + f = 4
    · rw [if_pos ⟨q, by omega⟩, if_pos ⟨q, h⟩]
    · rw [if_neg (fun g => q g.1), if_neg (fun g => q g.1)]
  · refine (if_neg (fun g => ?_)).trans (if_neg (fun g => h g.2)).symm
    have h9 : 8 * c' + z < 8 * c + n := g.2
    have hc2 : c' ≤ c := by omega
    rcases Nat.lt_or_ge c' c with h5 | h5
    · have h10 : 8 * c' + z < 8 * c + 8 := by omega
      omega
    · have : c' = c := by omega
      subst this
      omega
