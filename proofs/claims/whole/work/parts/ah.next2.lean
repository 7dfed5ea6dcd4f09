/-! the reference's nextToken -/
theorem r_next (D : Nat) {B : Nat → Nat} {L p : Nat} {x : qm_Hp} (hB : BYM B L x) (hp : p ≤ L) (h8 : zI x 9 0 8 = nI p) : ∃ x', qm_evM (D + 2) jM_nextToken [qP 9 0] x = some (none, x') ∧ NF Sx x x' ∧ RTK B L (skp B L p) x' := by
  have hs := rwn_b B isS (L - p) p
  have e0 := nt_l (D + 1) (x1 := qU) (x2 := qU) (L - p) p x (by omega) hB h8
  obtain ⟨x', e, F, r⟩ := r_tok D (x1 := qU) (x2 := qU) (p := skp B L p) (x := uI x 9 0 8 (nI (rwn B isS (L - p) p))) (BYM_u hB 8 _ (by decide)) (by unfold skp; omega) (by rw [zI_uI, if_pos ⟨rfl, rfl, rfl⟩]; rfl)
  refine ⟨x', ?_, NF_tr (NF_u (NF_refl Sx x) 8 _ (by unfold Sx; omega)) F, r⟩
  have e1 := e0.trans e
  simp (config := {maxSteps := 1000000}) (disch := first | omega | assumption | (simp only [qm_wid_n, qm_wid_I, qm_wid_L, qm_wid_P]; omega) | (simp only [qm_wid_n, qm_wid_I, qm_wid_L, qm_wid_P]; done) | fail) only [e_M_nextToken, qy0, qy1, qy2, qy3, qe, qcn, qin, ↓reduceIte, Nat.reduceEqDiff, Nat.reduceLeDiff, Bool.false_eq_true, Nat.reduceAdd, Nat.reduceSub, Nat.reduceMul, Nat.reduceLT, or_self, or_false, false_or, or_true, true_or, and_self, and_true, true_and, and_false, false_and, not_true_eq_false, not_false_eq_true, e1]
