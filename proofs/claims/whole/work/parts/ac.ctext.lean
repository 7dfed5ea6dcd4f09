/-! the class's reader: a text whole -/
def hclr (x : qm_Hp) (t : Nat) : qm_Hp := uI (uI (uI (uI (uI (uI (uI x 35 t 0 N1) 35 t 1 N1) 35 t 2 N1) 35 t 3 N1) 35 t 4 N1) 4 t 5 (nI 0)) 4 t 6 (nI 0)
theorem c_clr (d : Nat) (x : qm_Hp) (t : Nat) : qm_evM d jT_clear [qP 4 t] x = some (none, hclr x t) := by
  simp (config := {maxSteps := 1000000}) (disch := first | omega | assumption | (simp only [qm_wid_n, qm_wid_I, qm_wid_L, qm_wid_P]; omega) | (simp only [qm_wid_n, qm_wid_I, qm_wid_L, qm_wid_P]; done) | fail) only [e_T_clear, b_T_clear_0, b_T_clear_1, b_T_clear_2, qy0, qy1, qy2, qy3, qe, qcn, qin, ↓reduceIte, Nat.reduceEqDiff, Nat.reduceLeDiff, Bool.false_eq_true, Nat.reduceAdd, Nat.reduceSub, Nat.reduceMul, Nat.reduceLT, or_self, or_false, false_or, or_true, true_or, and_self, and_true, true_and, and_false, false_and, not_true_eq_false, not_false_eq_true, hclr]
def hst (x : qm_Hp) (t : Nat) : qm_Hp := uI (uI (uI (uP (hclr x t) 6 0 1 (4, t)) 6 0 2 (nI 0)) 6 0 4 (nI 0)) 6 0 5 N1
theorem rz_0 (D : Nat) {x x1 : qm_Hp} {L t : Nat} (ct : qm_evM D jK_cut [qP 7 0, qP 52 0, qI (nI L)] x = some (none, x1)) : qm_evM (D + 1) jR_readAll [qP 6 0, qP 52 0, qI (nI L), qP 4 t] x = qm_evB (D + 1) jR_readAll 1 [qP 6 0, qP 52 0, qI (nI L), qP 4 t, qI (nI 0)] [] (hst x1 t) := by
  simp (config := {maxSteps := 1000000}) (disch := first | omega | assumption | (simp only [qm_wid_n, qm_wid_I, qm_wid_L, qm_wid_P]; omega) | (simp only [qm_wid_n, qm_wid_I, qm_wid_L, qm_wid_P]; done) | fail) only [e_R_readAll, b_R_readAll_0, qy0, qy1, qy2, qy3, qe, qcn, qin, ↓reduceIte, Nat.reduceEqDiff, Nat.reduceLeDiff, Bool.false_eq_true, Nat.reduceAdd, Nat.reduceSub, Nat.reduceMul, Nat.reduceLT, or_self, or_false, false_or, or_true, true_or, and_self, and_true, true_and, and_false, false_and, not_true_eq_false, not_false_eq_true, ct, c_clr, hst]
/-- what a reading of a text may change -/
def RFp (t k i j : Nat) : Prop := XFp t k i j ∨ k = 7 ∨ (43 ≤ k ∧ k ≤ 45)
def RF (t : Nat) (x x' : qm_Hp) : Prop := (∀ k i j, ¬ RFp t k i j → zI x' k i j = zI x k i j) ∧ (∀ k i j, zL x' k i j = zL x k i j) ∧ (∀ k i j, ¬ (k = 6 ∧ i = 0 ∧ j = 1) → zP x' k i j = zP x k i j)
theorem hst_F (x : qm_Hp) (t : Nat) : ∀ k i j, ¬ XFp t k i j → zI (hst x t) k i j = zI x k i j := fun k i j q => by
  have n6 : ¬ (k = 6 ∧ 2 ≤ j ∧ j ≤ 5) := fun g => q (Or.inl g)
  have n4 : ¬ (k = 4 ∧ i = t) := fun g => q (Or.inr (Or.inl g))
  have n3 : ¬ (31 ≤ k ∧ k ≤ 35 ∧ i = t) := fun g => q (Or.inr (Or.inr g))
  unfold hst hclr
  rw [zI_uI, if_neg (fun g => n6 ⟨g.1, by omega⟩), zI_uI, if_neg (fun g => n6 ⟨g.1, by omega⟩), zI_uI, if_neg (fun g => n6 ⟨g.1, by omega⟩), zI_uP, zI_uI, if_neg (fun g => n4 ⟨g.1, g.2.1⟩), zI_uI, if_neg (fun g => n4 ⟨g.1, g.2.1⟩), zI_uI, if_neg (fun g => n3 ⟨by omega, by omega, g.2.1⟩), zI_uI, if_neg (fun g => n3 ⟨by omega, by omega, g.2.1⟩), zI_uI, if_neg (fun g => n3 ⟨by omega, by omega, g.2.1⟩), zI_uI, if_neg (fun g => n3 ⟨by omega, by omega, g.2.1⟩), zI_uI, if_neg (fun g => n3 ⟨by omega, by omega, g.2.1⟩)]
theorem hst_c {B : Nat → Nat} {L E t : Nat} {x : qm_Hp} (h : KC B L (E + 1) x) : CSI (TKr B L) (VLr B L) (stt B L) E t (hst x t) τ0 0 0 := by
  have fr := hst_F x t
  have e7 : ∀ k i j, k = 7 ∨ (43 ≤ k ∧ k ≤ 45) → zI (hst x t) k i j = zI x k i j := fun k i j hk => fr k i j (by unfold XFp; omega)
  refine ⟨⟨(e7 7 0 3 (by decide)).trans h.1, fun i hi => ?_⟩, rfl, rfl, rfl, ?_, ⟨?_, fun k hk => absurd hk (Nat.not_lt_zero _), fun a ha => ?_⟩, Nat.le_refl _, Nat.zero_le _, by decide, rfl⟩
  · obtain ⟨g1, g2, g3⟩ := h.2 i (by omega)
    exact ⟨(e7 43 0 i (by decide)).trans g1, (e7 44 0 i (by decide)).trans g2, (e7 45 0 i (by decide)).trans g3⟩
  · unfold hst hclr
    rw [zI_uI, if_neg (by omega), zI_uI, if_neg (by omega), zI_uI, if_neg (by omega), zI_uP, zI_uI, if_neg (by omega), zI_uI, if_pos ⟨rfl, rfl, rfl⟩]
  · unfold hst hclr
    rw [zI_uI, if_neg (by omega), zI_uI, if_neg (by omega), zI_uI, if_neg (by omega), zI_uP, zI_uI, if_pos ⟨rfl, rfl, rfl⟩]; rfl
  · show _ = if fnd τ0 a < 0 then nI (fnd τ0 a) else N1
    rw [if_neg (Nat.not_lt_zero _)]
    unfold hst hclr
    rw [zI_uI, if_neg (by omega), zI_uI, if_neg (by omega), zI_uI, if_neg (by omega), zI_uP, zI_uI, if_neg (by omega), zI_uI, if_neg (by omega)]
    rcases (by omega : a = 0 ∨ a = 1 ∨ a = 2 ∨ a = 3 ∨ a = 4) with k | k | k | k | k <;> subst k
    · rw [zI_uI, if_neg (by omega), zI_uI, if_neg (by omega), zI_uI, if_neg (by omega), zI_uI, if_neg (by omega), zI_uI, if_pos ⟨rfl, rfl, rfl⟩]
    · rw [zI_uI, if_neg (by omega), zI_uI, if_neg (by omega), zI_uI, if_neg (by omega), zI_uI, if_pos ⟨rfl, rfl, rfl⟩]
    · rw [zI_uI, if_neg (by omega), zI_uI, if_neg (by omega), zI_uI, if_pos ⟨rfl, rfl, rfl⟩]
    · rw [zI_uI, if_neg (by omega), zI_uI, if_pos ⟨rfl, rfl, rfl⟩]
    · rw [zI_uI, if_pos ⟨rfl, rfl, rfl⟩]
theorem c_readAll (d : Nat) {B : Nat → Nat} {L t : Nat} {x : qm_Hp} (hB : BY B L x) : ∃ x' E, qm_evM (d + 122) jR_readAll [qP 6 0, qP 52 0, qI (nI L), qP 4 t] x = some (none, x') ∧ RF t x x' ∧ E ≤ L ∧ TKr B L E = 41 ∧ (∀ i, i < E → TKr B L i ≠ 41) ∧ ((pAll (TKr B L) (VLr B L) 21 τ0 0).1 = 0 → TC x' t (pAll (TKr B L) (VLr B L) 21 τ0 0).2.2 ∧ zI x' 6 0 4 = nI 0 ∧ zI x' 6 0 5 = N1) ∧ ((pAll (TKr B L) (VLr B L) 21 τ0 0).1 ≠ 0 → FA (stt B L) x' (pAll (TKr B L) (VLr B L) 21 τ0 0).1 (pAll (TKr B L) (VLr B L) 21 τ0 0).2.1 ∧ (pAll (TKr B L) (VLr B L) 21 τ0 0).2.1 ≤ E) := by
  have hL := hB.1
  obtain ⟨x1, E, e1, F1, K1, hE, h41, hn⟩ := c_cut (d + 118) hB
  have hT : ∀ i, i ≤ E → TKr B L i < 100 ∧ VLr B L i ≤ 10000 := fun i _ => by
    have := tk0_b (B := B) (L := L) (p := stt B L i) (fun j hj => (hB.2 j hj).2)
    exact ⟨this.1, this.2.1⟩
  obtain ⟨x', e, X, a, b⟩ := c_allL (Pc := stt B L) (t := t) h41 (by omega) hT d 52 0 L 21 τ0 0 0 (hst x1 t) rfl (hst_c K1)
  refine ⟨x', E, (rz_0 (d + 121) e1).trans e, ⟨fun k i j q => ?_, fun k i j => (X.2.1 k i j).trans (F1.2.1 k i j), fun k i j q => ?_⟩, hE, h41, hn, fun g => ?_, b⟩
  · have n1 : ¬ XFp t k i j := fun g => q (Or.inl g)
    exact (X.1 k i j n1).trans ((hst_F x1 t k i j n1).trans (F1.1 k i j (fun g => q (Or.inr (Or.inl g))) (fun g => q (Or.inr (Or.inr g)))))
  · refine (X.2.2 k i j).trans (Eq.trans ?_ (F1.2.2 k i j))
    show zP (uP (hclr x1 t) 6 0 1 (4, t)) k i j = zP x1 k i j
    rw [zP_uP, if_neg q]
    rfl
  · obtain ⟨u', hc⟩ := a g
    obtain ⟨_, _, _, h4, _, hTU, hu, hi, _, h65⟩ := hc
    exact ⟨TU_TC (by omega) hTU, h4, h65⟩
