/-! the reference's tokens: words and signs -/
def pkc (w : Int64) (b : Nat) : Int64 := (w <<< ((nI 8).toInt64 &&& 63)) ||| (nI b).toInt64
def rwd (B : Nat → Nat) (f : Nat) : Nat → Nat → Int64 → Int64
  | 0, _, w => w
  | n + 1, j, w => if isL (B j) = true then rwd B f n (j + 1) (if j - f < 7 then pkc w (B j) else w) else w
theorem nl_y1 (D : Nat) {s : qm_Hp} {f j b : Nat} {w : Int64} {x1 x2 : qm_AV} (hj : j ≤ 300) (hf : f ≤ j) (h7 : j - f < 7) (h8 : zI s 9 0 8 = nI j) (h9 : zI s 9 0 9 = nI f) (h12 : zL s 9 0 12 = w) (by1 : qm_evM D jM_byteAt [qP 9 0, qI (nI j)] s = some (some (qI (nI b)), s)) (ily : qm_evM D jM_isLetter [qI (nI b)] s = some (some (qI (nI 1)), s)) : qm_evB (D + 1) jM_nextToken 7 [qP 9 0, x1, x2] [] s = qm_evB (D + 1) jM_nextToken 7 [qP 9 0, x1, x2] [] (uI (uL s 9 0 12 (pkc w b)) 9 0 8 (nI (j + 1))) := by
  refine (b_M_nextToken_7 ..).trans ?_
  simp (config := {maxSteps := 1000000}) (disch := first | omega | assumption | (simp only [qm_wid_n, qm_wid_I, qm_wid_L, qm_wid_P]; omega) | (simp only [qm_wid_n, qm_wid_I, qm_wid_L, qm_wid_P]; done) | fail) only [b_M_nextToken_8, qy0, qy1, qy2, qy3, qe, qcn, qin, ↓reduceIte, Nat.reduceEqDiff, Nat.reduceLeDiff, Bool.false_eq_true, Nat.reduceAdd, Nat.reduceSub, Nat.reduceMul, Nat.reduceLT, or_self, or_false, false_or, or_true, true_or, and_self, and_true, true_and, and_false, false_and, not_true_eq_false, not_false_eq_true, h8, h9, h12, by1, ily, zI_uI, zI_uL, pkc]
theorem nl_y2 (D : Nat) {s : qm_Hp} {f j b : Nat} {x1 x2 : qm_AV} (hj : j ≤ 300) (hf : f ≤ j) (h7 : ¬ j - f < 7) (h8 : zI s 9 0 8 = nI j) (h9 : zI s 9 0 9 = nI f) (by1 : qm_evM D jM_byteAt [qP 9 0, qI (nI j)] s = some (some (qI (nI b)), s)) (ily : qm_evM D jM_isLetter [qI (nI b)] s = some (some (qI (nI 1)), s)) : qm_evB (D + 1) jM_nextToken 7 [qP 9 0, x1, x2] [] s = qm_evB (D + 1) jM_nextToken 7 [qP 9 0, x1, x2] [] (uI s 9 0 8 (nI (j + 1))) := by
  refine (b_M_nextToken_7 ..).trans ?_
  simp (config := {maxSteps := 1000000}) (disch := first | omega | assumption | (simp only [qm_wid_n, qm_wid_I, qm_wid_L, qm_wid_P]; omega) | (simp only [qm_wid_n, qm_wid_I, qm_wid_L, qm_wid_P]; done) | fail) only [b_M_nextToken_8, qy0, qy1, qy2, qy3, qe, qcn, qin, ↓reduceIte, Nat.reduceEqDiff, Nat.reduceLeDiff, Bool.false_eq_true, Nat.reduceAdd, Nat.reduceSub, Nat.reduceMul, Nat.reduceLT, or_self, or_false, false_or, or_true, true_or, and_self, and_true, true_and, and_false, false_and, not_true_eq_false, not_false_eq_true, h8, h9, by1, ily, zI_uI]
theorem nl_n1 (D : Nat) {s : qm_Hp} {f j : Nat} {b : Int32} {x1 x2 : qm_AV} (hj : j ≤ 300) (hf : f ≤ j) (h7 : j - f ≤ 7) (h8 : zI s 9 0 8 = nI j) (h9 : zI s 9 0 9 = nI f) (by1 : qm_evM D jM_byteAt [qP 9 0, qI (nI j)] s = some (some (qI b), s)) (ily : qm_evM D jM_isLetter [qI b] s = some (some (qI (nI 0)), s)) : qm_evB (D + 1) jM_nextToken 7 [qP 9 0, x1, x2] [] s = some (none, s) := by
  refine (b_M_nextToken_7 ..).trans ?_
  simp (config := {maxSteps := 1000000}) (disch := first | omega | assumption | (simp only [qm_wid_n, qm_wid_I, qm_wid_L, qm_wid_P]; omega) | (simp only [qm_wid_n, qm_wid_I, qm_wid_L, qm_wid_P]; done) | fail) only [b_M_nextToken_9, b_M_nextToken_19, qy0, qy1, qy2, qy3, qe, qcn, qin, ↓reduceIte, Nat.reduceEqDiff, Nat.reduceLeDiff, Bool.false_eq_true, Nat.reduceAdd, Nat.reduceSub, Nat.reduceMul, Nat.reduceLT, or_self, or_false, false_or, or_true, true_or, and_self, and_true, true_and, and_false, false_and, not_true_eq_false, not_false_eq_true, h8, h9, by1, ily]
theorem nl_n2 (D : Nat) {s : qm_Hp} {f j : Nat} {b : Int32} {x1 x2 : qm_AV} (hj : j ≤ 300) (hf : f ≤ j) (h7 : 7 < j - f) (h8 : zI s 9 0 8 = nI j) (h9 : zI s 9 0 9 = nI f) (by1 : qm_evM D jM_byteAt [qP 9 0, qI (nI j)] s = some (some (qI b), s)) (ily : qm_evM D jM_isLetter [qI b] s = some (some (qI (nI 0)), s)) : qm_evB (D + 1) jM_nextToken 7 [qP 9 0, x1, x2] [] s = some (none, uL s 9 0 12 0) := by
  refine (b_M_nextToken_7 ..).trans ?_
  simp (config := {maxSteps := 1000000}) (disch := first | omega | assumption | (simp only [qm_wid_n, qm_wid_I, qm_wid_L, qm_wid_P]; omega) | (simp only [qm_wid_n, qm_wid_I, qm_wid_L, qm_wid_P]; done) | fail) only [b_M_nextToken_9, b_M_nextToken_19, qy0, qy1, qy2, qy3, qe, qcn, qin, ↓reduceIte, Nat.reduceEqDiff, Nat.reduceLeDiff, Bool.false_eq_true, Nat.reduceAdd, Nat.reduceSub, Nat.reduceMul, Nat.reduceLT, or_self, or_false, false_or, or_true, true_or, and_self, and_true, true_and, and_false, false_and, not_true_eq_false, not_false_eq_true, h8, h9, by1, ily]
  rfl
theorem ng_l (D : Nat) {x : qm_Hp} {p b : Nat} {x1 x2 : qm_AV} (hp : p ≤ 300) (hb : b < 256) (h8 : zI x 9 0 8 = nI p) (by1 : qm_evM D jM_byteAt [qP 9 0, qI (nI p)] (uI x 9 0 9 (nI p)) = some (some (qI (nI b)), uI x 9 0 9 (nI p))) (idn : qm_evM D jM_isDigit [qI (nI b)] (uI x 9 0 9 (nI p)) = some (some (qI (nI 0)), uI x 9 0 9 (nI p))) (ily : qm_evM D jM_isLetter [qI (nI b)] (uI x 9 0 9 (nI p)) = some (some (qI (nI 1)), uI x 9 0 9 (nI p))) : qm_evB (D + 1) jM_nextToken 2 [qP 9 0, x1, x2] [] x = qm_evB (D + 1) jM_nextToken 7 [qP 9 0, qI (nI b), x2] [] (uL (uI (uI x 9 0 9 (nI p)) 9 0 10 (nI 2)) 9 0 12 0) := by
  simp (config := {maxSteps := 1000000}) (disch := first | omega | assumption | (simp only [qm_wid_n, qm_wid_I, qm_wid_L, qm_wid_P]; omega) | (simp only [qm_wid_n, qm_wid_I, qm_wid_L, qm_wid_P]; done) | fail) only [b_M_nextToken_2, b_M_nextToken_3, b_M_nextToken_6, qy0, qy1, qy2, qy3, qe, qcn, qin, ↓reduceIte, Nat.reduceEqDiff, Nat.reduceLeDiff, Bool.false_eq_true, Nat.reduceAdd, Nat.reduceSub, Nat.reduceMul, Nat.reduceLT, or_self, or_false, false_or, or_true, true_or, and_self, and_true, true_and, and_false, false_and, not_true_eq_false, not_false_eq_true, h8, by1, idn, ily, zI_uI]
  rfl
theorem r_isL1 (d : Nat) (s : qm_Hp) : qm_evM (d + 1) jM_isLetter [qI N1] s = some (some (qI (nI 0)), s) := by
  have h : ¬ (nI 97 ≤ N1 ∧ N1 ≤ nI 122) := by decide
  have h2 : ¬ (nI 65 ≤ N1 ∧ N1 ≤ nI 90) := by decide
  simp (config := {maxSteps := 1000000}) (disch := first | omega | assumption | (simp only [qm_wid_n, qm_wid_I, qm_wid_L, qm_wid_P]; omega) | (simp only [qm_wid_n, qm_wid_I, qm_wid_L, qm_wid_P]; done) | fail) only [e_M_isLetter, b_M_isLetter_0, b_M_isLetter_1, b_M_isLetter_2, b_M_isLetter_3, qy0, qy1, qy2, qy3, qe, qcn, qin, ↓reduceIte, Nat.reduceEqDiff, Nat.reduceLeDiff, Bool.false_eq_true, Nat.reduceAdd, Nat.reduceSub, Nat.reduceMul, Nat.reduceLT, or_self, or_false, false_or, or_true, true_or, and_self, and_true, true_and, and_false, false_and, not_true_eq_false, not_false_eq_true, t_isIn, h, h2]
theorem ng_g (D : Nat) {x : qm_Hp} {p b : Nat} {x1 x2 : qm_AV} (hp : p ≤ 300) (hb : b < 256) (h8 : zI x 9 0 8 = nI p) (by1 : qm_evM D jM_byteAt [qP 9 0, qI (nI p)] (uI x 9 0 9 (nI p)) = some (some (qI (nI b)), uI x 9 0 9 (nI p))) (idn : qm_evM D jM_isDigit [qI (nI b)] (uI x 9 0 9 (nI p)) = some (some (qI (nI 0)), uI x 9 0 9 (nI p))) (ily : qm_evM D jM_isLetter [qI (nI b)] (uI x 9 0 9 (nI p)) = some (some (qI (nI 0)), uI x 9 0 9 (nI p))) : qm_evB (D + 1) jM_nextToken 2 [qP 9 0, x1, x2] [] x = qm_evB (D + 1) jM_nextToken 10 [qP 9 0, qI (nI b), x2] [] (uI x 9 0 9 (nI p)) := by
  simp (config := {maxSteps := 1000000}) (disch := first | omega | assumption | (simp only [qm_wid_n, qm_wid_I, qm_wid_L, qm_wid_P]; omega) | (simp only [qm_wid_n, qm_wid_I, qm_wid_L, qm_wid_P]; done) | fail) only [b_M_nextToken_2, b_M_nextToken_3, b_M_nextToken_6, qy0, qy1, qy2, qy3, qe, qcn, qin, ↓reduceIte, Nat.reduceEqDiff, Nat.reduceLeDiff, Bool.false_eq_true, Nat.reduceAdd, Nat.reduceSub, Nat.reduceMul, Nat.reduceLT, or_self, or_false, false_or, or_true, true_or, and_self, and_true, true_and, and_false, false_and, not_true_eq_false, not_false_eq_true, h8, by1, idn, ily, zI_uI]
theorem nl_l (D : Nat) {B : Nat → Nat} {L f : Nat} {x1 x2 : qm_AV} : ∀ n j w s, j + n = L → f ≤ j → BYM B L s → zI s 9 0 8 = nI j → zI s 9 0 9 = nI f → zL s 9 0 12 = w → ∃ s', qm_evB (D + 2) jM_nextToken 7 [qP 9 0, x1, x2] [] s = some (none, s') ∧ NF (fun j => j = 8) s s' ∧ zI s' 9 0 8 = nI (rwn B isL n j) ∧ zL s' 9 0 12 = if 7 < rwn B isL n j - f then 0 else rwd B f n j w := by
  have stop : ∀ j w s (b : Int32), j ≤ 300 → f ≤ j → zI s 9 0 8 = nI j → zI s 9 0 9 = nI f → zL s 9 0 12 = w → qm_evM (D + 1) jM_byteAt [qP 9 0, qI (nI j)] s = some (some (qI b), s) → qm_evM (D + 1) jM_isLetter [qI b] s = some (some (qI (nI 0)), s) → ∃ s', qm_evB (D + 2) jM_nextToken 7 [qP 9 0, x1, x2] [] s = some (none, s') ∧ NF (fun j => j = 8) s s' ∧ zI s' 9 0 8 = nI j ∧ zL s' 9 0 12 = if 7 < j - f then 0 else w := by
    intro j w s b hj hf h8 h9 h12 by1 il
    by_cases c : 7 < j - f
    · rw [if_pos c]
      refine ⟨_, nl_n2 (D + 1) hj hf c h8 h9 by1 il, ⟨fun _ _ _ _ => rfl, fun k i j' q => ?_, fun _ _ _ => rfl⟩, h8, ?_⟩
      · rw [zL_uL, if_neg (fun g => q ⟨g.1, g.2.2⟩)]
      · rw [zL_uL, if_pos ⟨rfl, rfl, rfl⟩]
    · rw [if_neg c]
      exact ⟨s, nl_n1 (D + 1) hj hf (by omega) h8 h9 by1 il, NF_refl _ _, h8, h12⟩
  intro n
  induction n with
  | zero =>
    intro j w s hj hf hB h8 h9 h12
    have e : j = L := by omega
    subst e
    exact stop j w s N1 hB.2.1 hf h8 h9 h12 (r_byN (D + 1) hB) (r_isL1 D s)
  | succ n ih =>
    intro j w s hj hf hB h8 h9 h12
    have hL := hB.2.1
    have b1 := r_byY (D + 1) hB (by omega : j < L)
    unfold rwn rwd
    by_cases q : isL (B j) = true
    · rw [if_pos q, if_pos q]
      by_cases c : j - f < 7
      · rw [if_pos c]
        have F0 : NF (fun j => j = 8) s (uL s 9 0 12 (pkc w (B j))) := ⟨fun _ _ _ _ => rfl, fun k i j' q => by rw [zL_uL, if_neg (fun g => q ⟨g.1, g.2.2⟩)], fun _ _ _ => rfl⟩
        have F := NF_u F0 8 (nI (j + 1)) rfl
        obtain ⟨s', e, F2, r⟩ := ih (j + 1) (pkc w (B j)) _ (by omega) (by omega) (BYM_NF (by decide) F hB) (by rw [zI_uI, if_pos ⟨rfl, rfl, rfl⟩]) (by rw [zI_uI, if_neg (by omega)]; exact h9) (by rw [zL_uI, zL_uL, if_pos ⟨rfl, rfl, rfl⟩])
        exact ⟨s', (nl_y1 (D + 1) (by omega) hf c h8 h9 h12 b1 (r_isLY D s q)).trans e, NF_tr F F2, r⟩
      · rw [if_neg c]
        have F := NF_u (NF_refl (fun j => j = 8) s) 8 (nI (j + 1)) rfl
        obtain ⟨s', e, F2, r⟩ := ih (j + 1) w _ (by omega) (by omega) (BYM_NF (by decide) F hB) (by rw [zI_uI, if_pos ⟨rfl, rfl, rfl⟩]) (by rw [zI_uI, if_neg (by omega)]; exact h9) h12
        exact ⟨s', (nl_y2 (D + 1) (by omega) hf c h8 h9 b1 (r_isLY D s q)).trans e, NF_tr F F2, r⟩
    · rw [if_neg q, if_neg q]
      exact stop j w s _ (by omega) hf h8 h9 h12 b1 (r_isLN D s (hB.2.2 j (by omega)).2 q)
theorem ns_a (D : Nat) {x : qm_Hp} {p b : Nat} {x2 : qm_AV} (hp : p ≤ 300) (h8 : zI x 9 0 8 = nI p) (hb : b = 61 ∨ b = 35 ∨ b = 43 ∨ b = 45 ∨ b = 42 ∨ b = 47 ∨ b = 40 ∨ b = 41 ∨ b = 59 ∨ b = 44) : qm_evB D jM_nextToken 10 [qP 9 0, qI (nI b), x2] [] x = some (none, uI (uI x 9 0 8 (nI (p + 1))) 9 0 10 (nI b)) := by
  rcases hb with rfl | rfl | rfl | rfl | rfl | rfl | rfl | rfl | rfl | rfl <;> simp (config := {maxSteps := 1000000}) (disch := first | omega | assumption | (simp only [qm_wid_n, qm_wid_I, qm_wid_L, qm_wid_P]; omega) | (simp only [qm_wid_n, qm_wid_I, qm_wid_L, qm_wid_P]; done) | fail) only [b_M_nextToken_10, b_M_nextToken_11, b_M_nextToken_13, b_M_nextToken_15, b_M_nextToken_19, qy0, qy1, qy2, qy3, qe, qcn, qin, ↓reduceIte, Nat.reduceEqDiff, Nat.reduceLeDiff, Bool.false_eq_true, Nat.reduceAdd, Nat.reduceSub, Nat.reduceMul, Nat.reduceLT, or_self, or_false, false_or, or_true, true_or, and_self, and_true, true_and, and_false, false_and, not_true_eq_false, not_false_eq_true, h8, zI_uI]
theorem ns_o (D : Nat) {x : qm_Hp} {p b : Nat} {x2 : qm_AV} (hp : p ≤ 300) (hb8 : b < 256) (h8 : zI x 9 0 8 = nI p) (h1 : b ≠ 60) (h2 : b ≠ 62) (hb : ¬ (b = 61 ∨ b = 35 ∨ b = 43 ∨ b = 45 ∨ b = 42 ∨ b = 47 ∨ b = 40 ∨ b = 41 ∨ b = 59 ∨ b = 44)) : qm_evB D jM_nextToken 10 [qP 9 0, qI (nI b), x2] [] x = some (none, uI (uI x 9 0 8 (nI (p + 1))) 9 0 10 (nI 3)) := by
  have e1 : b ≠ 61 := by omega
  have e2 : b ≠ 35 := by omega
  have e3 : b ≠ 43 := by omega
  have e4 : b ≠ 45 := by omega
  have e5 : b ≠ 42 := by omega
  have e6 : b ≠ 47 := by omega
  have e7 : b ≠ 40 := by omega
  have e8 : b ≠ 41 := by omega
  have e9 : b ≠ 59 := by omega
  have e10 : b ≠ 44 := by omega
  clear hb
  simp (config := {maxSteps := 1000000}) (disch := first | omega | assumption | (simp only [qm_wid_n, qm_wid_I, qm_wid_L, qm_wid_P]; omega) | (simp only [qm_wid_n, qm_wid_I, qm_wid_L, qm_wid_P]; done) | fail) only [b_M_nextToken_10, b_M_nextToken_12, b_M_nextToken_13, b_M_nextToken_14, b_M_nextToken_15, b_M_nextToken_19, qy0, qy1, qy2, qy3, qe, qcn, qin, ↓reduceIte, Nat.reduceEqDiff, Nat.reduceLeDiff, Bool.false_eq_true, Nat.reduceAdd, Nat.reduceSub, Nat.reduceMul, Nat.reduceLT, or_self, or_false, false_or, or_true, true_or, and_self, and_true, true_and, and_false, false_and, not_true_eq_false, not_false_eq_true, h8, zI_uI]
theorem ns_y (D : Nat) {x : qm_Hp} {p b : Nat} {x2 : qm_AV} (hp : p ≤ 300) (h8 : zI x 9 0 8 = nI p) (hb : b = 60 ∨ b = 62) (by1 : qm_evM D jM_byteAt [qP 9 0, qI (nI (p + 1))] (uI (uI x 9 0 8 (nI (p + 1))) 9 0 10 (nI b)) = some (some (qI (nI 61)), uI (uI x 9 0 8 (nI (p + 1))) 9 0 10 (nI b))) : qm_evB (D + 1) jM_nextToken 10 [qP 9 0, qI (nI b), x2] [] x = some (none, uI (uI (uI (uI x 9 0 8 (nI (p + 1))) 9 0 10 (nI b)) 9 0 8 (nI (p + 2))) 9 0 10 (nI (if b = 60 then 4 else 5))) := by
  rcases hb with rfl | rfl
  · simp (config := {maxSteps := 1000000}) (disch := first | omega | assumption | (simp only [qm_wid_n, qm_wid_I, qm_wid_L, qm_wid_P]; omega) | (simp only [qm_wid_n, qm_wid_I, qm_wid_L, qm_wid_P]; done) | fail) only [b_M_nextToken_10, b_M_nextToken_11, b_M_nextToken_13, b_M_nextToken_15, b_M_nextToken_16, b_M_nextToken_18, b_M_nextToken_19, qy0, qy1, qy2, qy3, qe, qcn, qin, ↓reduceIte, Nat.reduceEqDiff, Nat.reduceLeDiff, Bool.false_eq_true, Nat.reduceAdd, Nat.reduceSub, Nat.reduceMul, Nat.reduceLT, or_self, or_false, false_or, or_true, true_or, and_self, and_true, true_and, and_false, false_and, not_true_eq_false, not_false_eq_true, h8, zI_uI, by1]
  · simp (config := {maxSteps := 1000000}) (disch := first | omega | assumption | (simp only [qm_wid_n, qm_wid_I, qm_wid_L, qm_wid_P]; omega) | (simp only [qm_wid_n, qm_wid_I, qm_wid_L, qm_wid_P]; done) | fail) only [b_M_nextToken_10, b_M_nextToken_11, b_M_nextToken_13, b_M_nextToken_15, b_M_nextToken_16, b_M_nextToken_17, b_M_nextToken_18, b_M_nextToken_19, qy0, qy1, qy2, qy3, qe, qcn, qin, ↓reduceIte, Nat.reduceEqDiff, Nat.reduceLeDiff, Bool.false_eq_true, Nat.reduceAdd, Nat.reduceSub, Nat.reduceMul, Nat.reduceLT, or_self, or_false, false_or, or_true, true_or, and_self, and_true, true_and, and_false, false_and, not_true_eq_false, not_false_eq_true, h8, zI_uI, by1]
theorem ns_n (D : Nat) {x : qm_Hp} {p b : Nat} {c : Int32} {x2 : qm_AV} (hp : p ≤ 300) (h8 : zI x 9 0 8 = nI p) (hb : b = 60 ∨ b = 62) (hc : ¬ c = nI 61) (by1 : qm_evM D jM_byteAt [qP 9 0, qI (nI (p + 1))] (uI (uI x 9 0 8 (nI (p + 1))) 9 0 10 (nI b)) = some (some (qI c), uI (uI x 9 0 8 (nI (p + 1))) 9 0 10 (nI b))) : qm_evB (D + 1) jM_nextToken 10 [qP 9 0, qI (nI b), x2] [] x = some (none, uI (uI x 9 0 8 (nI (p + 1))) 9 0 10 (nI b)) := by
  rcases hb with rfl | rfl
  · simp (config := {maxSteps := 1000000}) (disch := first | omega | assumption | (simp only [qm_wid_n, qm_wid_I, qm_wid_L, qm_wid_P]; omega) | (simp only [qm_wid_n, qm_wid_I, qm_wid_L, qm_wid_P]; done) | fail) only [b_M_nextToken_10, b_M_nextToken_11, b_M_nextToken_13, b_M_nextToken_15, b_M_nextToken_16, b_M_nextToken_19, qy0, qy1, qy2, qy3, qe, qcn, qin, ↓reduceIte, Nat.reduceEqDiff, Nat.reduceLeDiff, Bool.false_eq_true, Nat.reduceAdd, Nat.reduceSub, Nat.reduceMul, Nat.reduceLT, or_self, or_false, false_or, or_true, true_or, and_self, and_true, true_and, and_false, false_and, not_true_eq_false, not_false_eq_true, h8, zI_uI, by1, hc]
  · simp (config := {maxSteps := 1000000}) (disch := first | omega | assumption | (simp only [qm_wid_n, qm_wid_I, qm_wid_L, qm_wid_P]; omega) | (simp only [qm_wid_n, qm_wid_I, qm_wid_L, qm_wid_P]; done) | fail) only [b_M_nextToken_10, b_M_nextToken_11, b_M_nextToken_13, b_M_nextToken_15, b_M_nextToken_16, b_M_nextToken_19, qy0, qy1, qy2, qy3, qe, qcn, qin, ↓reduceIte, Nat.reduceEqDiff, Nat.reduceLeDiff, Bool.false_eq_true, Nat.reduceAdd, Nat.reduceSub, Nat.reduceMul, Nat.reduceLT, or_self, or_false, false_or, or_true, true_or, and_self, and_true, true_and, and_false, false_and, not_true_eq_false, not_false_eq_true, h8, zI_uI, by1, hc]
