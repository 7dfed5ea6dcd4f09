/-! the reference's readText -/
theorem rx_end (D : Nat) {x : qm_Hp} {x1 : qm_AV} (h10 : zI x 9 0 10 = nI 0) : qm_evB D jM_readText 1 [qP 9 0, x1] [] x = some (some (qI (nI 0)), x) := by
  refine (b_M_readText_1 ..).trans ?_
  simp (config := {maxSteps := 1000000}) (disch := first | omega | assumption | (simp only [qm_wid_n, qm_wid_I, qm_wid_L, qm_wid_P]; omega) | (simp only [qm_wid_n, qm_wid_I, qm_wid_L, qm_wid_P]; done) | fail) only [b_M_readText_3, qy0, qy1, qy2, qy3, qe, qcn, qin, ↓reduceIte, Nat.reduceEqDiff, Nat.reduceLeDiff, Bool.false_eq_true, Nat.reduceAdd, Nat.reduceSub, Nat.reduceMul, Nat.reduceLT, or_self, or_false, false_or, or_true, true_or, and_self, and_true, true_and, and_false, false_and, not_true_eq_false, not_false_eq_true, h10]
theorem rx_f (D : Nat) {x x2 : qm_Hp} {x1 : qm_AV} {t f : Nat} (h10 : zI x 9 0 10 = nI t) (ht : t ≤ 62 ∧ t ≠ 0) (hf : 1 ≤ f ∧ f ≤ 9) (cl : qm_evM D jM_clause [qP 9 0] x = some (some (qI (nI f)), x2)) : qm_evB (D + 1) jM_readText 1 [qP 9 0, x1] [] x = some (some (qI (nI f)), x2) := by
  obtain ⟨h1, h2⟩ := ht
  refine (b_M_readText_1 ..).trans ?_
  simp (config := {maxSteps := 1000000}) (disch := first | omega | assumption | (simp only [qm_wid_n, qm_wid_I, qm_wid_L, qm_wid_P]; omega) | (simp only [qm_wid_n, qm_wid_I, qm_wid_L, qm_wid_P]; done) | fail) only [qy0, qy1, qy2, qy3, qe, qcn, qin, ↓reduceIte, Nat.reduceEqDiff, Nat.reduceLeDiff, Bool.false_eq_true, Nat.reduceAdd, Nat.reduceSub, Nat.reduceMul, Nat.reduceLT, or_self, or_false, false_or, or_true, true_or, and_self, and_true, true_and, and_false, false_and, not_true_eq_false, not_false_eq_true, h10, cl]
theorem rx_g (D : Nat) {x x2 : qm_Hp} {x1 : qm_AV} {t : Nat} (h10 : zI x 9 0 10 = nI t) (ht : t ≤ 62 ∧ t ≠ 0) (cl : qm_evM D jM_clause [qP 9 0] x = some (some (qI (nI 0)), x2)) : qm_evB (D + 1) jM_readText 1 [qP 9 0, x1] [] x = qm_evB (D + 1) jM_readText 1 [qP 9 0, qI (nI 0)] [] x2 := by
  obtain ⟨h1, h2⟩ := ht
  refine (b_M_readText_1 ..).trans ?_
  simp (config := {maxSteps := 1000000}) (disch := first | omega | assumption | (simp only [qm_wid_n, qm_wid_I, qm_wid_L, qm_wid_P]; omega) | (simp only [qm_wid_n, qm_wid_I, qm_wid_L, qm_wid_P]; done) | fail) only [b_M_readText_2, qy0, qy1, qy2, qy3, qe, qcn, qin, ↓reduceIte, Nat.reduceEqDiff, Nat.reduceLeDiff, Bool.false_eq_true, Nat.reduceAdd, Nat.reduceSub, Nat.reduceMul, Nat.reduceLT, or_self, or_false, false_or, or_true, true_or, and_self, and_true, true_and, and_false, false_and, not_true_eq_false, not_false_eq_true, h10, cl]
theorem r_allL (d : Nat) {B : Nat → Nat} {L E tx : Nat} (hE : TKr B L E = 41) (hE3 : E ≤ 300) (ht : tx < 4) : ∀ n τ i w m x x1, τ.1 + n = 21 → MSI B L E tx x τ i w m → ∃ x', qm_evB (d + 9) jM_readText 1 [qP 9 0, x1] [] x = some (some (qI (nI (pAll (TKr B L) (VLr B L) n τ i).1)), x') ∧ CF tx x x' ∧ (pAll (TKr B L) (VLr B L) n τ i).1 ≤ 9 ∧ ((pAll (TKr B L) (VLr B L) n τ i).1 = 0 → ∃ w' m', MSI B L E tx x' (pAll (TKr B L) (VLr B L) n τ i).2.2 (pAll (TKr B L) (VLr B L) n τ i).2.1 w' m') ∧ ((pAll (TKr B L) (VLr B L) n τ i).1 ≠ 0 → RTK B L (stt B L (pAll (TKr B L) (VLr B L) n τ i).2.1) x') := by
  intro n
  induction n with
  | zero =>
    intro τ i w m x x1 hn h
    have := h.2.2.2.2.2.2.2.2.2
    omega
  | succ n ih =>
    intro τ i w m x x1 hn h
    obtain ⟨t, h10, t62, _, _, h0, _⟩ := RTK_cm h.1 h.2.1
    unfold pAll
    by_cases q : TKr B L i = 41
    · rw [if_pos q]
      have e := h0.mpr q
      subst e
      exact ⟨x, rx_end _ h10, CF_refl _ _, by show (0 : Nat) ≤ 9; decide, fun _ => ⟨w, m, h⟩, fun g => absurd rfl g⟩
    · rw [if_neg q]
      have tn0 : t ≤ 62 ∧ t ≠ 0 := ⟨t62, fun g => q (h0.mp g)⟩
      obtain ⟨x2, e2, C2, h9, a2, b2⟩ := r_clause d hE hE3 ht h
      by_cases g : (pClause (TKr B L) (VLr B L) τ i).1 = 0
      · rw [if_pos g]
        rw [g] at e2
        obtain ⟨w', m', h'⟩ := a2 g
        obtain ⟨x3, e3, C3, h93, a3, b3⟩ := ih _ _ w' m' x2 (qI (nI 0)) (by show τ.1 + 1 + n = 21; omega) h'
        exact ⟨x3, (rx_g (d + 8) h10 tn0 e2).trans e3, CF_tr C2 C3, h93, a3, b3⟩
      · rw [if_neg g]
        exact ⟨x2, rx_f (d + 8) h10 tn0 ⟨by omega, h9⟩ e2, C2, h9, fun k => absurd k g, fun _ => b2 g⟩
def hrt (x : qm_Hp) (tx : Nat) : qm_Hp := uI (uI (uI (uI (uI (uI x 9 0 13 (nI (720 * tx))) 62 0 (720 * tx) (nI 0)) 9 0 15 (nI 0)) 9 0 19 (nI 0)) 9 0 22 (nI 0)) 9 0 8 (nI 0)
theorem rx_0 (D : Nat) {x x2 : qm_Hp} {tx : Nat} (ht : tx < 4) (h2 : zI x 61 0 2 = nI tx) (nx : qm_evM D jM_nextToken [qP 9 0] (hrt x tx) = some (none, x2)) : qm_evM (D + 1) jM_readText [qP 9 0] x = qm_evB (D + 1) jM_readText 1 [qP 9 0, qU] [] x2 := by
  unfold hrt at nx
  simp (config := {maxSteps := 1000000}) (disch := first | omega | assumption | (simp only [qm_wid_n, qm_wid_I, qm_wid_L, qm_wid_P]; omega) | (simp only [qm_wid_n, qm_wid_I, qm_wid_L, qm_wid_P]; done) | fail) only [e_M_readText, b_M_readText_0, qy0, qy1, qy2, qy3, qe, qcn, qin, ↓reduceIte, Nat.reduceEqDiff, Nat.reduceLeDiff, Bool.false_eq_true, Nat.reduceAdd, Nat.reduceSub, Nat.reduceMul, Nat.reduceLT, or_self, or_false, false_or, or_true, true_or, and_self, and_true, true_and, and_false, false_and, not_true_eq_false, not_false_eq_true, h2, zI_uI, nx]
/-- what readText may change -/
def DFp (tx k j : Nat) : Prop := (k = 9 ∧ ((8 ≤ j ∧ j ≤ 11) ∨ j = 13 ∨ j = 15 ∨ (18 ≤ j ∧ j ≤ 22))) ∨ k = 64 ∨ (k = 62 ∧ 720 * tx ≤ j ∧ j < 720 * tx + 720)
def DF (tx : Nat) (x x' : qm_Hp) : Prop := (∀ k i j, ¬ DFp tx k j → zI x' k i j = zI x k i j) ∧ (∀ k i j, ¬ (k = 9 ∧ j = 12) → zL x' k i j = zL x k i j) ∧ (∀ k i j, zP x' k i j = zP x k i j)
theorem DF_tr {tx : Nat} {x1 x2 x3 : qm_Hp} (h1 : DF tx x1 x2) (h2 : DF tx x2 x3) : DF tx x1 x3 := ⟨fun k i j h => (h2.1 k i j h).trans (h1.1 k i j h), fun k i j h => (h2.2.1 k i j h).trans (h1.2.1 k i j h), fun k i j => (h2.2.2 k i j).trans (h1.2.2 k i j)⟩
theorem DF_u {tx : Nat} {x : qm_Hp} (k i j : Nat) (v : Int32) (h : DFp tx k j) : DF tx x (uI x k i j v) := ⟨fun k' i' j' q => by rw [zI_uI, if_neg (fun g => q (by rw [g.1, g.2.2]; exact h))], fun _ _ _ _ => rfl, fun _ _ _ => rfl⟩
theorem DF_CF {tx : Nat} {x x' : qm_Hp} (h : CF tx x x') : DF tx x x' := ⟨fun k i j q => h.1 k i j (fun g => q (by unfold CFp at g; unfold DFp; omega)), h.2.1, h.2.2⟩
theorem DF_hrt (x : qm_Hp) (tx : Nat) : DF tx x (hrt x tx) := by
  unfold hrt
  exact DF_tr (DF_tr (DF_tr (DF_tr (DF_tr (DF_u 9 0 13 _ (by unfold DFp; omega)) (DF_u 62 0 _ _ (by unfold DFp; omega))) (DF_u 9 0 15 _ (by unfold DFp; omega))) (DF_u 9 0 19 _ (by unfold DFp; omega))) (DF_u 9 0 22 _ (by unfold DFp; omega))) (DF_u 9 0 8 _ (by unfold DFp; omega))
theorem ON_0 : ON 0 τ0 := ⟨by decide, fun a _ => ⟨fun g => by rw [Nat.zero_testBit] at g; exact absurd g (by decide), fun g => absurd g (Nat.not_lt_zero _)⟩⟩
theorem r_readText (d : Nat) {B : Nat → Nat} {L E tx : Nat} {x : qm_Hp} (hB : BYM B L x) (hE : TKr B L E = 41) (hE3 : E ≤ 300) (ht : tx < 4) (h2 : zI x 61 0 2 = nI tx) : ∃ x', qm_evM (d + 9) jM_readText [qP 9 0] x = some (some (qI (nI (pAll (TKr B L) (VLr B L) 21 τ0 0).1)), x') ∧ DF tx x x' ∧ (pAll (TKr B L) (VLr B L) 21 τ0 0).1 ≤ 9 ∧ ((pAll (TKr B L) (VLr B L) 21 τ0 0).1 = 0 → TM x' tx (pAll (TKr B L) (VLr B L) 21 τ0 0).2.2) ∧ ((pAll (TKr B L) (VLr B L) 21 τ0 0).1 ≠ 0 → zI x' 9 0 9 = nI (stt B L (pAll (TKr B L) (VLr B L) 21 τ0 0).2.1)) := by
  have D1 := DF_hrt x tx
  have hB1 : BYM B L (hrt x tx) := ⟨(D1.1 9 0 5 (by unfold DFp; omega)).trans hB.1, hB.2.1, fun j hj => ⟨(D1.1 63 0 j (by unfold DFp; omega)).trans (hB.2.2 j hj).1, (hB.2.2 j hj).2⟩⟩
  have z8 : zI (hrt x tx) 9 0 8 = nI 0 := by unfold hrt; rw [zI_uI, if_pos ⟨rfl, rfl, rfl⟩]
  obtain ⟨x2, nx, N2, R2⟩ := r_next (d + 6) hB1 (Nat.zero_le L) z8
  have zz : ∀ k j, ¬ (k = 9 ∧ 8 ≤ j ∧ j ≤ 11) → zI x2 k 0 j = zI (hrt x tx) k 0 j := fun k j g => N2.1 k 0 j (by unfold Sx; omega)
  have M0 : MSI B L E tx x2 τ0 0 0 0 := by
    refine ⟨BYM_NF (by unfold Sx; omega) N2 hB1, R2, ?_, ?_, ?_, ⟨?_, ON_0⟩, ⟨?_, fun k hk => absurd hk (Nat.not_lt_zero _)⟩, Nat.le_refl _, Nat.zero_le _, by decide⟩
    · rw [zz 9 13 (by omega)]; unfold hrt; rw [zI_uI, if_neg (by omega), zI_uI, if_neg (by omega), zI_uI, if_neg (by omega), zI_uI, if_neg (by omega), zI_uI, if_neg (by omega), zI_uI, if_pos ⟨rfl, rfl, rfl⟩]
    · rw [zz 9 15 (by omega)]; unfold hrt; rw [zI_uI, if_neg (by omega), zI_uI, if_neg (by omega), zI_uI, if_neg (by omega), zI_uI, if_pos ⟨rfl, rfl, rfl⟩]
    · rw [zz 9 19 (by omega)]; unfold hrt; rw [zI_uI, if_neg (by omega), zI_uI, if_neg (by omega), zI_uI, if_pos ⟨rfl, rfl, rfl⟩]
    · rw [zz 9 22 (by omega)]; unfold hrt; rw [zI_uI, if_neg (by omega), zI_uI, if_pos ⟨rfl, rfl, rfl⟩]
    · rw [zz 62 (720 * tx) (by omega)]; unfold hrt; rw [zI_uI, if_neg (by omega), zI_uI, if_neg (by omega), zI_uI, if_neg (by omega), zI_uI, if_neg (by omega), zI_uI, if_pos ⟨rfl, rfl, rfl⟩]; rfl
  obtain ⟨x', e, C, h9, a, b⟩ := r_allL d hE hE3 ht 21 τ0 0 0 0 x2 qU rfl M0
  refine ⟨x', (rx_0 (d + 8) ht h2 nx).trans e, DF_tr D1 (DF_tr (DF_CF (CF_NF N2)) (DF_CF C)), h9, fun g => ?_, fun g => (b g).1⟩
  obtain ⟨w', m', h'⟩ := a g
  exact TMU_TM (by have := h'.2.2.2.2.2.2.2.1; have := h'.2.2.2.2.2.2.2.2.1; omega) h'.2.2.2.2.2.2.1
theorem mt_4 (D : Nat) {x : qm_Hp} (h2 : zI x 61 0 2 = nI 4) : qm_evM D jM_text [qP 9 0] x = some (some (qI N1), x) := by
  simp (config := {maxSteps := 1000000}) (disch := first | omega | assumption | (simp only [qm_wid_n, qm_wid_I, qm_wid_L, qm_wid_P]; omega) | (simp only [qm_wid_n, qm_wid_I, qm_wid_L, qm_wid_P]; done) | fail) only [e_M_text, b_M_text_0, qy0, qy1, qy2, qy3, qe, qcn, qin, ↓reduceIte, Nat.reduceEqDiff, Nat.reduceLeDiff, Bool.false_eq_true, Nat.reduceAdd, Nat.reduceSub, Nat.reduceMul, Nat.reduceLT, or_self, or_false, false_or, or_true, true_or, and_self, and_true, true_and, and_false, false_and, not_true_eq_false, not_false_eq_true, h2]
theorem mt_f (D : Nat) {x x1 : qm_Hp} {tx f p : Nat} (ht : tx < 4) (h2 : zI x 61 0 2 = nI tx) (hf : 1 ≤ f ∧ f ≤ 9) (rt : qm_evM D jM_readText [qP 9 0] x = some (some (qI (nI f)), x1)) (h9 : zI x1 9 0 9 = nI p) : qm_evM (D + 1) jM_text [qP 9 0] x = some (some (qI N1), uI (uI (uI x1 9 0 6 (nI f)) 9 0 7 (nI p)) 9 0 5 (nI 0)) := by
  simp (config := {maxSteps := 1000000}) (disch := first | omega | assumption | (simp only [qm_wid_n, qm_wid_I, qm_wid_L, qm_wid_P]; omega) | (simp only [qm_wid_n, qm_wid_I, qm_wid_L, qm_wid_P]; done) | fail) only [e_M_text, b_M_text_0, b_M_text_1, b_M_text_2, b_M_text_3, qy0, qy1, qy2, qy3, qe, qcn, qin, ↓reduceIte, Nat.reduceEqDiff, Nat.reduceLeDiff, Bool.false_eq_true, Nat.reduceAdd, Nat.reduceSub, Nat.reduceMul, Nat.reduceLT, or_self, or_false, false_or, or_true, true_or, and_self, and_true, true_and, and_false, false_and, not_true_eq_false, not_false_eq_true, h2, rt, zI_uI, h9]
theorem mt_0 (D : Nat) {x x1 : qm_Hp} {tx : Nat} (ht : tx < 4) (h2 : zI x 61 0 2 = nI tx) (rt : qm_evM D jM_readText [qP 9 0] x = some (some (qI (nI 0)), x1)) (h21 : zI x1 61 0 2 = nI tx) : qm_evM (D + 1) jM_text [qP 9 0] x = some (some (qI (nI tx)), uI (uI (uI (uI x1 9 0 6 (nI 0)) 9 0 7 N1) 9 0 5 (nI 0)) 61 0 2 (nI (tx + 1))) := by
  simp (config := {maxSteps := 1000000}) (disch := first | omega | assumption | (simp only [qm_wid_n, qm_wid_I, qm_wid_L, qm_wid_P]; omega) | (simp only [qm_wid_n, qm_wid_I, qm_wid_L, qm_wid_P]; done) | fail) only [e_M_text, b_M_text_0, b_M_text_1, b_M_text_3, b_M_text_4, qy0, qy1, qy2, qy3, qe, qcn, qin, ↓reduceIte, Nat.reduceEqDiff, Nat.reduceLeDiff, Bool.false_eq_true, Nat.reduceAdd, Nat.reduceSub, Nat.reduceMul, Nat.reduceLT, or_self, or_false, false_or, or_true, true_or, and_self, and_true, true_and, and_false, false_and, not_true_eq_false, not_false_eq_true, h2, rt, zI_uI, h21, Nat.add_sub_cancel]
theorem ct_4 (D : Nat) {x : qm_Hp} (h2 : zI x 2 0 11 = nI 4) : qm_evM (D + 1) jC_text [qP 1 0] x = some (some (qI N1), x) := by
  simp (config := {maxSteps := 1000000}) (disch := first | omega | assumption | (simp only [qm_wid_n, qm_wid_I, qm_wid_L, qm_wid_P]; omega) | (simp only [qm_wid_n, qm_wid_I, qm_wid_L, qm_wid_P]; done) | fail) only [e_C_text, b_C_text_0, qy0, qy1, qy2, qy3, qe, qcn, qin, ↓reduceIte, Nat.reduceEqDiff, Nat.reduceLeDiff, Bool.false_eq_true, Nat.reduceAdd, Nat.reduceSub, Nat.reduceMul, Nat.reduceLT, or_self, or_false, false_or, or_true, true_or, and_self, and_true, true_and, and_false, false_and, not_true_eq_false, not_false_eq_true, h2, t_within]
theorem ct_f (D : Nat) {x x1 : qm_Hp} {tx L f : Nat} (ht : tx < 4) (h2 : zI x 2 0 11 = nI tx) (h7 : zI x 1 0 7 = nI L) (hf : 1 ≤ f ∧ f ≤ 9) (ra : qm_evM D jR_readAll [qP 6 0, qP 52 0, qI (nI L), qP 4 tx] x = some (none, x1)) (h4 : zI x1 6 0 4 = nI f) : qm_evM (D + 1) jC_text [qP 1 0] x = some (some (qI N1), uI (uI x1 1 0 8 (nI 1)) 1 0 7 (nI 0)) := by
  simp (config := {maxSteps := 1000000}) (disch := first | omega | assumption | (simp only [qm_wid_n, qm_wid_I, qm_wid_L, qm_wid_P]; omega) | (simp only [qm_wid_n, qm_wid_I, qm_wid_L, qm_wid_P]; done) | fail) only [e_C_text, b_C_text_0, b_C_text_1, qy0, qy1, qy2, qy3, qe, qcn, qin, ↓reduceIte, Nat.reduceEqDiff, Nat.reduceLeDiff, Bool.false_eq_true, Nat.reduceAdd, Nat.reduceSub, Nat.reduceMul, Nat.reduceLT, or_self, or_false, false_or, or_true, true_or, and_self, and_true, true_and, and_false, false_and, not_true_eq_false, not_false_eq_true, h2, h7, t_within, ra, zI_uI, h4]
theorem ct_0 (D : Nat) {x x1 : qm_Hp} {tx L : Nat} (ht : tx < 4) (h2 : zI x 2 0 11 = nI tx) (h7 : zI x 1 0 7 = nI L) (ra : qm_evM D jR_readAll [qP 6 0, qP 52 0, qI (nI L), qP 4 tx] x = some (none, x1)) (h4 : zI x1 6 0 4 = nI 0) : qm_evM (D + 1) jC_text [qP 1 0] x = some (some (qI (nI tx)), uI (uI (uI x1 1 0 8 (nI 1)) 1 0 7 (nI 0)) 2 0 11 (nI (tx + 1))) := by
  simp (config := {maxSteps := 1000000}) (disch := first | omega | assumption | (simp only [qm_wid_n, qm_wid_I, qm_wid_L, qm_wid_P]; omega) | (simp only [qm_wid_n, qm_wid_I, qm_wid_L, qm_wid_P]; done) | fail) only [e_C_text, b_C_text_0, b_C_text_1, b_C_text_2, qy0, qy1, qy2, qy3, qe, qcn, qin, ↓reduceIte, Nat.reduceEqDiff, Nat.reduceLeDiff, Bool.false_eq_true, Nat.reduceAdd, Nat.reduceSub, Nat.reduceMul, Nat.reduceLT, or_self, or_false, false_or, or_true, true_or, and_self, and_true, true_and, and_false, false_and, not_true_eq_false, not_false_eq_true, h2, h7, t_within, ra, zI_uI, h4]
