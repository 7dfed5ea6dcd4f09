/-! the reference's tokens: end, numbers, signs -/
def rvn (B : Nat → Nat) : Nat → Nat → Nat → Nat
  | 0, _, v => v
  | n + 1, j, v => if isD (B j) = true then rvn B n (j + 1) (if v < 100000 then 10 * v + B j - 48 else v) else v
def NF (S : Nat → Prop) (x x' : qm_Hp) : Prop := (∀ k i j, ¬ (k = 9 ∧ S j) → zI x' k i j = zI x k i j) ∧ (∀ k i j, ¬ (k = 9 ∧ j = 12) → zL x' k i j = zL x k i j) ∧ (∀ k i j, zP x' k i j = zP x k i j)
theorem NF_refl (S : Nat → Prop) (x : qm_Hp) : NF S x x := ⟨fun _ _ _ _ => rfl, fun _ _ _ _ => rfl, fun _ _ _ => rfl⟩
theorem NF_tr {S : Nat → Prop} {x1 x2 x3 : qm_Hp} (h1 : NF S x1 x2) (h2 : NF S x2 x3) : NF S x1 x3 := ⟨fun k i j h => (h2.1 k i j h).trans (h1.1 k i j h), fun k i j h => (h2.2.1 k i j h).trans (h1.2.1 k i j h), fun k i j => (h2.2.2 k i j).trans (h1.2.2 k i j)⟩
theorem NF_u {S : Nat → Prop} {x x' : qm_Hp} (h : NF S x x') (j : Nat) (v : Int32) (hj : S j) : NF S x (uI x' 9 0 j v) := ⟨fun k i j' q => by rw [zI_uI, if_neg (fun g => q ⟨g.1, by rw [g.2.2]; exact hj⟩)]; exact h.1 k i j' q, h.2.1, h.2.2⟩
theorem NF_w {S S' : Nat → Prop} {x x' : qm_Hp} (hS : ∀ j, S j → S' j) (h : NF S x x') : NF S' x x' := ⟨fun k i j q => h.1 k i j (fun g => q ⟨g.1, hS j g.2⟩), h.2.1, h.2.2⟩
theorem BYM_NF {S : Nat → Prop} {B : Nat → Nat} {L : Nat} {x x' : qm_Hp} (hS : ¬ S 5) (h : NF S x x') (g : BYM B L x) : BYM B L x' := ⟨(h.1 9 0 5 (fun q => hS q.2)).trans g.1, g.2.1, fun j hj => ⟨(h.1 63 0 j (fun q => absurd q.1 (by decide))).trans (g.2.2 j hj).1, (g.2.2 j hj).2⟩⟩
theorem nd_y1 (D : Nat) {s : qm_Hp} {j v b : Nat} {x1 x2 : qm_AV} (hj : j ≤ 300) (hv : v < 100000) (hb : 48 ≤ b ∧ b ≤ 57) (h8 : zI s 9 0 8 = nI j) (h11 : zI s 9 0 11 = nI v) (by1 : qm_evM D jM_byteAt [qP 9 0, qI (nI j)] s = some (some (qI (nI b)), s)) (idy : qm_evM D jM_isDigit [qI (nI b)] s = some (some (qI (nI 1)), s)) : qm_evB (D + 1) jM_nextToken 4 [qP 9 0, x1, x2] [] s = qm_evB (D + 1) jM_nextToken 4 [qP 9 0, x1, x2] [] (uI (uI s 9 0 11 (nI (10 * v + b - 48))) 9 0 8 (nI (j + 1))) := by
  refine (b_M_nextToken_4 ..).trans ?_
  simp (config := {maxSteps := 1000000}) (disch := first | omega | assumption | (simp only [qm_wid_n, qm_wid_I, qm_wid_L, qm_wid_P]; omega) | (simp only [qm_wid_n, qm_wid_I, qm_wid_L, qm_wid_P]; done) | fail) only [b_M_nextToken_5, qy0, qy1, qy2, qy3, qe, qcn, qin, ↓reduceIte, Nat.reduceEqDiff, Nat.reduceLeDiff, Bool.false_eq_true, Nat.reduceAdd, Nat.reduceSub, Nat.reduceMul, Nat.reduceLT, or_self, or_false, false_or, or_true, true_or, and_self, and_true, true_and, and_false, false_and, not_true_eq_false, not_false_eq_true, h8, h11, by1, idy, zI_uI]
theorem nd_y2 (D : Nat) {s : qm_Hp} {j v b : Nat} {x1 x2 : qm_AV} (hj : j ≤ 300) (hv : 100000 ≤ v ∧ v ≤ 1000000) (h8 : zI s 9 0 8 = nI j) (h11 : zI s 9 0 11 = nI v) (by1 : qm_evM D jM_byteAt [qP 9 0, qI (nI j)] s = some (some (qI (nI b)), s)) (idy : qm_evM D jM_isDigit [qI (nI b)] s = some (some (qI (nI 1)), s)) : qm_evB (D + 1) jM_nextToken 4 [qP 9 0, x1, x2] [] s = qm_evB (D + 1) jM_nextToken 4 [qP 9 0, x1, x2] [] (uI s 9 0 8 (nI (j + 1))) := by
  refine (b_M_nextToken_4 ..).trans ?_
  simp (config := {maxSteps := 1000000}) (disch := first | omega | assumption | (simp only [qm_wid_n, qm_wid_I, qm_wid_L, qm_wid_P]; omega) | (simp only [qm_wid_n, qm_wid_I, qm_wid_L, qm_wid_P]; done) | fail) only [b_M_nextToken_5, qy0, qy1, qy2, qy3, qe, qcn, qin, ↓reduceIte, Nat.reduceEqDiff, Nat.reduceLeDiff, Bool.false_eq_true, Nat.reduceAdd, Nat.reduceSub, Nat.reduceMul, Nat.reduceLT, or_self, or_false, false_or, or_true, true_or, and_self, and_true, true_and, and_false, false_and, not_true_eq_false, not_false_eq_true, h8, h11, by1, idy, zI_uI]
theorem nd_n (D : Nat) {s : qm_Hp} {j : Nat} {b : Int32} {x1 x2 : qm_AV} (h8 : zI s 9 0 8 = nI j) (by1 : qm_evM D jM_byteAt [qP 9 0, qI (nI j)] s = some (some (qI b), s)) (idy : qm_evM D jM_isDigit [qI b] s = some (some (qI (nI 0)), s)) : qm_evB (D + 1) jM_nextToken 4 [qP 9 0, x1, x2] [] s = some (none, s) := by
  refine (b_M_nextToken_4 ..).trans ?_
  simp (config := {maxSteps := 1000000}) (disch := first | omega | assumption | (simp only [qm_wid_n, qm_wid_I, qm_wid_L, qm_wid_P]; omega) | (simp only [qm_wid_n, qm_wid_I, qm_wid_L, qm_wid_P]; done) | fail) only [b_M_nextToken_19, qy0, qy1, qy2, qy3, qe, qcn, qin, ↓reduceIte, Nat.reduceEqDiff, Nat.reduceLeDiff, Bool.false_eq_true, Nat.reduceAdd, Nat.reduceSub, Nat.reduceMul, Nat.reduceLT, or_self, or_false, false_or, or_true, true_or, and_self, and_true, true_and, and_false, false_and, not_true_eq_false, not_false_eq_true, h8, by1, idy]
theorem nd_l (D : Nat) {B : Nat → Nat} {L : Nat} {x1 x2 : qm_AV} : ∀ n j v s, j + n = L → BYM B L s → zI s 9 0 8 = nI j → zI s 9 0 11 = nI v → v ≤ 1000000 → ∃ s', qm_evB (D + 2) jM_nextToken 4 [qP 9 0, x1, x2] [] s = some (none, s') ∧ NF (fun j => j = 8 ∨ j = 11) s s' ∧ zI s' 9 0 8 = nI (rwn B isD n j) ∧ zI s' 9 0 11 = nI (rvn B n j v) := by
  intro n
  induction n with
  | zero =>
    intro j v s hj hB h8 h11 hv
    have e : j = L := by omega
    subst e
    exact ⟨s, nd_n (D + 1) h8 (r_byN (D + 1) hB) (r_isD1 D s), NF_refl _ _, h8, h11⟩
  | succ n ih =>
    intro j v s hj hB h8 h11 hv
    have hL := hB.2.1
    have b1 := r_byY (D + 1) hB (by omega : j < L)
    unfold rwn rvn
    by_cases q : isD (B j) = true
    · rw [if_pos q, if_pos q]
      have hb : 48 ≤ B j ∧ B j ≤ 57 := of_decide_eq_true q
      by_cases c : v < 100000
      · rw [if_pos c]
        have F := NF_u (NF_u (NF_refl (fun j => j = 8 ∨ j = 11) s) 11 (nI (10 * v + B j - 48)) (Or.inr rfl)) 8 (nI (j + 1)) (Or.inl rfl)
        obtain ⟨s', e, F2, r⟩ := ih (j + 1) (10 * v + B j - 48) _ (by omega) (BYM_NF (by decide) F hB) (by rw [zI_uI, if_pos ⟨rfl, rfl, rfl⟩]) (by rw [zI_uI, if_neg (by omega), zI_uI, if_pos ⟨rfl, rfl, rfl⟩]) (by omega)
        exact ⟨s', (nd_y1 (D + 1) (by omega) c hb h8 h11 b1 (r_isDY D s q)).trans e, NF_tr F F2, r⟩
      · rw [if_neg c]
        have F := NF_u (NF_refl (fun j => j = 8 ∨ j = 11) s) 8 (nI (j + 1)) (Or.inl rfl)
        obtain ⟨s', e, F2, r⟩ := ih (j + 1) v _ (by omega) (BYM_NF (by decide) F hB) (by rw [zI_uI, if_pos ⟨rfl, rfl, rfl⟩]) (by rw [zI_uI, if_neg (by omega)]; exact h11) hv
        exact ⟨s', (nd_y2 (D + 1) (by omega) ⟨by omega, hv⟩ h8 h11 b1 (r_isDY D s q)).trans e, NF_tr F F2, r⟩
    · rw [if_neg q, if_neg q]
      exact ⟨s, nd_n (D + 1) h8 b1 (r_isDN D s (hB.2.2 j (by omega)).2 q), NF_refl _ _, h8, h11⟩
/-- the reference's number against the class's -/
theorem rvn_nv (B : Nat → Nat) : ∀ n j v v', ((v = v' ∧ v' ≤ 9999) ∨ (9999 < v ∧ v' = 10000)) → ((rvn B n j v = nv B n j v' ∧ nv B n j v' ≤ 9999) ∨ (9999 < rvn B n j v ∧ nv B n j v' = 10000))
  | 0, _, _, _, h => h
  | n + 1, j, v, v', h => by
    unfold rvn nv
    by_cases q : isD (B j) = true
    · rw [if_pos q, if_pos q]
      have hb : 48 ≤ B j ∧ B j ≤ 57 := of_decide_eq_true q
      refine rvn_nv B n _ _ _ ?_
      by_cases c : v < 100000
      · rw [if_pos c]; omega
      · rw [if_neg c]; omega
    · rw [if_neg q, if_neg q]; exact h
theorem ng_e (D : Nat) {x : qm_Hp} {p : Nat} {x1 x2 : qm_AV} (hp : p ≤ 300) (h8 : zI x 9 0 8 = nI p) (by1 : qm_evM D jM_byteAt [qP 9 0, qI (nI p)] (uI x 9 0 9 (nI p)) = some (some (qI N1), uI x 9 0 9 (nI p))) : qm_evB (D + 1) jM_nextToken 2 [qP 9 0, x1, x2] [] x = some (none, uI (uI x 9 0 9 (nI p)) 9 0 10 (nI 0)) := by
  have h1 : ¬ nI 0 ≤ N1 := by decide
  simp (config := {maxSteps := 1000000}) (disch := first | omega | assumption | (simp only [qm_wid_n, qm_wid_I, qm_wid_L, qm_wid_P]; omega) | (simp only [qm_wid_n, qm_wid_I, qm_wid_L, qm_wid_P]; done) | fail) only [b_M_nextToken_2, b_M_nextToken_19, qy0, qy1, qy2, qy3, qe, qcn, qin, ↓reduceIte, Nat.reduceEqDiff, Nat.reduceLeDiff, Bool.false_eq_true, Nat.reduceAdd, Nat.reduceSub, Nat.reduceMul, Nat.reduceLT, or_self, or_false, false_or, or_true, true_or, and_self, and_true, true_and, and_false, false_and, not_true_eq_false, not_false_eq_true, h8, by1, zI_uI, h1]
theorem ng_d (D : Nat) {x : qm_Hp} {p b : Nat} {x1 x2 : qm_AV} (hp : p ≤ 300) (hb : b < 256) (h8 : zI x 9 0 8 = nI p) (by1 : qm_evM D jM_byteAt [qP 9 0, qI (nI p)] (uI x 9 0 9 (nI p)) = some (some (qI (nI b)), uI x 9 0 9 (nI p))) (idy : qm_evM D jM_isDigit [qI (nI b)] (uI x 9 0 9 (nI p)) = some (some (qI (nI 1)), uI x 9 0 9 (nI p))) : qm_evB (D + 1) jM_nextToken 2 [qP 9 0, x1, x2] [] x = qm_evB (D + 1) jM_nextToken 4 [qP 9 0, qI (nI b), x2] [] (uI (uI (uI x 9 0 9 (nI p)) 9 0 10 (nI 1)) 9 0 11 (nI 0)) := by
  simp (config := {maxSteps := 1000000}) (disch := first | omega | assumption | (simp only [qm_wid_n, qm_wid_I, qm_wid_L, qm_wid_P]; omega) | (simp only [qm_wid_n, qm_wid_I, qm_wid_L, qm_wid_P]; done) | fail) only [b_M_nextToken_2, b_M_nextToken_3, qy0, qy1, qy2, qy3, qe, qcn, qin, ↓reduceIte, Nat.reduceEqDiff, Nat.reduceLeDiff, Bool.false_eq_true, Nat.reduceAdd, Nat.reduceSub, Nat.reduceMul, Nat.reduceLT, or_self, or_false, false_or, or_true, true_or, and_self, and_true, true_and, and_false, false_and, not_true_eq_false, not_false_eq_true, h8, by1, idy, zI_uI]
