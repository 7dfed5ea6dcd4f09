/-! the call order -/
theorem nte_nn {k : Nat} {ht : Int32} {ch : Nat → Int32} {R : RR} (h : nI 0 ≤ ht) : nI 0 ≤ (nte k ht ch R).1 := by
  unfold nte
  by_cases q : R.1 < ht
  · rw [if_pos q]; exact h
  · rw [if_neg q]
    rw [fa_lt] at q
    rw [fa_le] at *
    omega
theorem fcol_nn {F : Nat → RR → RR} {v : VW} {R : RR} : ∀ n, (∀ c R, c < n → ¬ cn v c = 0 → nI 0 ≤ (F c R).1) → (∃ c, c < n ∧ ¬ cn v c = 0) → nI 0 ≤ (fcol F v n R).1
  | 0, _, ⟨c, h, _⟩ => absurd h (Nat.not_lt_zero _)
  | n + 1, hF, ⟨c, h1, h2⟩ => by
    show nI 0 ≤ (if cn v n = 0 then fcol F v n R else F n (fcol F v n R)).1
    by_cases q : cn v n = 0
    · rw [if_pos q]
      have : c ≠ n := fun e => h2 (by rw [e]; exact q)
      exact fcol_nn n (fun c R hc => hF c R (by omega)) ⟨c, by omega, h2⟩
    · rw [if_neg q]; exact hF n _ (by omega) q
theorem srch_nn {τ : TX} {w wk : Nat} {y : VW} : ∀ j k h v ch R, wk + k + j ≤ 399 → k + j ≤ 5 → h ≤ 9999 * k → OKP w v → v 0 0 = nI (wk + k) → j ≤ spl v w → nI 0 ≤ (srch τ w y j k (nI h) v ch R).1
  | 0, k, h, v, ch, R, _, hk, hh, _, _, _ => by
    unfold srch
    exact nte_nn (nI_le (Nat.zero_le _) (by omega))
  | j + 1, k, h, v, ch, R, hw, hk, hh, ok, hv, hs => by
    unfold srch
    refine fcol_nn w (fun c R hc hn => ?_) (spl_pos w (by omega))
    obtain ⟨n1, n2, n3⟩ := nxp_ok (τ := τ) (k := k) (y := y) ok hc hn hv (by omega)
    obtain ⟨q, _, hq9, eq⟩ := heat_rg (τ := τ) ok hc (z := cn v c - 1) (by omega)
    rw [eq, nI_add]
    exact srch_nn (wk := wk) j (k + 1) (h + q) (nxp τ w y k v c) _ R (by omega) (by omega) (by omega) n1 (by rw [n2]; rfl) (by omega)
def ch0 : Nat → Int32 := fun _ => N1
/-- what is found -/
def fnd5 (τ : TX) (w : Nat) (y : VW) (N : Nat) : RR := srch τ w y N 0 (nI 0) y ch0 (N1, 0, ch0)
theorem r_find (d : Nat) {x : qm_Hp} {w n N wk : Nat} {y kp : VW} {tp : Nat → Int32} {fd : Nat} {fa pl : Int32} {T : Nat → TX} (ok : OKG w y kp tp fd T) (hR : RM x w y kp tp fd fa pl T) (hn0 : 1 ≤ n) (hn : n ≤ 5) (hN : N = min n (spl y w)) (hi : y 0 0 = nI wk) (hwk : wk + n ≤ 399) : ∃ x', qm_evM (d + 9) jM_findOrder [qP 9 0, qI (nI n)] x = some (none, x') ∧ RM x' w y kp tp fd fa pl T ∧ MR x' (fnd5 (rul T y) w y N) ∧ fp MP x x' := by
  have okp := ok.1.1
  have hcp := m_copy (d + 8) (uI x 9 0 31 N1) 0 2 (by decide) (by decide) (by decide)
  have hR0 : RT (uI (uI (uC (uI x 9 0 31 N1) 61 0 0 61 0 840 420) 70 0 0 (nI 0)) 69 0 0 N1) 0 w y kp tp fd fa pl T := RT_e (x := x) ok 0 (by rw [zI_uI, if_neg (by omega), zI_uI, if_neg (by omega), zI_uC, if_neg (by omega), zI_uI, if_neg (by omega)]; exact hR.1.1) (fun j hj => by rw [zI_uI, if_neg (by omega), zI_uI, if_neg (by omega), zI_uC, if_neg (by omega), zI_uI, if_neg (by omega)]) (fun j hj => by rw [zI_uI, if_neg (by omega), zI_uI, if_neg (by omega), zI_uC, if_neg (by omega), zI_uI, if_neg (by omega)]) (fun j => by rw [zI_uI, if_neg (by omega), zI_uI, if_neg (by omega), zI_uC, if_neg (by omega), zI_uI, if_neg (by omega)]) (fun j => by rw [zI_uI, if_neg (by omega), zI_uI, if_neg (by omega), zI_uC, if_neg (by omega), zI_uI, if_neg (by omega)]) (RT_0 ok hR)
  have hP0 : PM (uI (uI (uC (uI x 9 0 31 N1) 61 0 0 61 0 840 420) 70 0 0 (nI 0)) 69 0 0 N1) (420 * (2 + 0)) w y := PM_tr okp (by rw [zI_uI, if_neg (by omega), zI_uI, if_neg (by omega), zI_uC, if_neg (by omega), zI_uI, if_neg (by omega)]; exact hR.2.1.1.1) (fun j hj => by
    rw [zI_uI, if_neg (by omega), zI_uI, if_neg (by omega), zI_uC, if_pos ⟨rfl, rfl, by omega, by omega⟩, zI_uI, if_neg (by omega), show 0 + (420 * (2 + 0) + j - 840) = 0 + j by omega]) hR.2.1.1
  have hM0 : MR (uI (uI (uC (uI x 9 0 31 N1) 61 0 0 61 0 840 420) 70 0 0 (nI 0)) 69 0 0 N1) (N1, 0, ch0) := ⟨by rw [zI_uI, if_neg (by omega), zI_uI, if_neg (by omega), zI_uC, if_neg (by omega), zI_uI, if_pos ⟨rfl, rfl, rfl⟩], Or.inl rfl⟩
  have h69 : zI (uI (uI (uC (uI x 9 0 31 N1) 61 0 0 61 0 840 420) 70 0 0 (nI 0)) 69 0 0 N1) 69 0 0 = N1 := by rw [zI_uI, if_pos ⟨rfl, rfl, rfl⟩]
  have h70 : zI (uI (uI (uC (uI x 9 0 31 N1) 61 0 0 61 0 840 420) 70 0 0 (nI 0)) 69 0 0 N1) 70 0 0 = nI 0 := by rw [zI_uI, if_neg (by omega), zI_uI, if_pos ⟨rfl, rfl, rfl⟩]
  have f0 : fp MP x (uI (uI (uC (uI x 9 0 31 N1) 61 0 0 61 0 840 420) 70 0 0 (nI 0)) 69 0 0 N1) := fp_uI (by unfold MP; omega) (fp_uI (by unfold MP; omega) (fp_uC (by unfold MP; omega) (fp_uI (by unfold MP; omega) (fp_refl _ _) _ _) _ _ _ _ _) _ _) _ _
  have est : qm_evM (d + 9) jM_findOrder [qP 9 0, qI (nI n)] x = qm_evB (d + 9) jM_findOrder 1 [qP 9 0, qI (nI n), qI (nI 0), qU] [] (uI (uI (uC (uI x 9 0 31 N1) 61 0 0 61 0 840 420) 70 0 0 (nI 0)) 69 0 0 N1) := by
    simp (config := {maxSteps := 1000000}) (disch := first | omega | assumption | (simp only [qm_wid_n, qm_wid_I, qm_wid_L, qm_wid_P]; omega) | (simp only [qm_wid_n, qm_wid_I, qm_wid_L, qm_wid_P]; done) | fail) only [e_M_findOrder, b_M_findOrder_0, qy0, qy1, qy2, qy3, qe, qcn, qin, ↓reduceIte, Nat.reduceEqDiff, Nat.reduceLeDiff, Bool.false_eq_true, Nat.reduceAdd, Nat.reduceSub, Nat.reduceMul, Nat.reduceLT, or_self, or_false, false_or, or_true, true_or, and_self, and_true, true_and, and_false, false_and, not_true_eq_false, not_false_eq_true, hcp]
  generalize uI (uI (uC (uI x 9 0 31 N1) 61 0 0 61 0 840 420) 70 0 0 (nI 0)) 69 0 0 N1 = X at hR0 hP0 hM0 h69 h70 f0 est
  obtain ⟨x', x3, b, e1, e2, e3, e4⟩ := r_expl d (n := n) (N := N) (S := spl y w) ok hn (by omega) (by omega) (by omega) hwk N 0 0 y ch0 (N1, 0, ch0) X 0 qU (Nat.zero_add _) (by omega) hR0 hP0 okp (by rw [hi]; rfl) rfl h69 h70 (Nat.le_refl _) (fun i hi => by omega) hM0
  have en : nI 0 + N1 = N1 := by decide
  have hlt : (N1 < nI 0) = True := eq_true (by decide)
  rw [en] at e1
  refine ⟨uI x' 9 0 2 (nI 0), ?_, e2.2, MR_fr (x := x') (by rw [zI_uI, if_neg (by omega)]) (fun j => by rw [zI_uI, if_neg (by omega)]) e3, fp_uI (by unfold MP; omega) (fp_trans f0 e4.1) _ _⟩
  rw [est, e1]
  refine (b_M_findOrder_1 ..).trans ?_
  simp (config := {maxSteps := 1000000}) (disch := first | omega | assumption | (simp only [qm_wid_n, qm_wid_I, qm_wid_L, qm_wid_P]; omega) | (simp only [qm_wid_n, qm_wid_I, qm_wid_L, qm_wid_P]; done) | fail) only [b_M_findOrder_7, qy0, qy1, qy2, qy3, qe, qcn, qin, ↓reduceIte, Nat.reduceEqDiff, Nat.reduceLeDiff, Bool.false_eq_true, Nat.reduceAdd, Nat.reduceSub, Nat.reduceMul, Nat.reduceLT, or_self, or_false, false_or, or_true, true_or, and_self, and_true, true_and, and_false, false_and, not_true_eq_false, not_false_eq_true, hlt, r_tries]
theorem imin {a b : Nat} (ha : a < 2147483648) (hb : b < 2147483648) : (if nI b < nI a then nI b else nI a) = nI (min a b) := by
  by_cases h : b < a
  · rw [if_pos (nI_lt h ha), Nat.min_eq_right (by omega)]
  · rw [if_neg (nI_nlt (by omega) hb), Nat.min_eq_left (by omega)]
theorem c_find (d : Nat) {x : qm_Hp} {w n N wk : Nat} {y kp : VW} {tp : Nat → Int32} {fd : Nat} {fa pl : Int32} {T : Nat → TX} (ok : OKG w y kp tp fd T) (hR : RC x w y kp tp fd fa pl T) (hn : n ≤ 5) (hN : N = min n (spl y w)) (hi : y 0 0 = nI wk) (hwk : wk + n ≤ 399) : ∃ x1 x', qm_evM (d + 12) jS_begin [qP 8 0, qP 3 0] x = some (none, x1) ∧ PC x1 0 w y ∧ qm_evM (d + 12) jS_tryFrom [qP 8 0, qI (nI 0), qI (nI 0), qI (nI N), qP 2 0, qP 5 0] x1 = some (none, x') ∧ RC x' w y kp tp fd fa pl T ∧ SR x' (fnd5 (rul T y) w y N) ∧ fp CP x x' := by
  have okp := ok.1.1
  have hbe := s_become (d + 11) (uI (uI x 8 0 3 N1) 8 0 4 (nI 0)) 4 0
  have hR1 : RC (uI (uI x 8 0 3 N1) 8 0 4 (nI 0)) w y kp tp fd fa pl T := RC_u1 (by omega) (RC_u1 (by omega) hR)
  have fb := bec_fp (uI (uI x 8 0 3 N1) 8 0 4 (nI 0)) 4 0
  have hP4 := PC_bec hR1.1.1 okp (p := 4) (by decide) (hR1.2.2.1 4 (by decide))
  have hR2 := RC_PPp (p := 4) (by decide) fb hP4.1 hR1
  have hS2 : SR (hp_bec (uI (uI x 8 0 3 N1) 8 0 4 (nI 0)) 4 0) (N1, 0, ch0) := ⟨by rw [fb.1 8 0 3 (by unfold PP; omega), zI_uI, if_neg (by omega), zI_uI, if_pos ⟨rfl, rfl, rfl⟩], by rw [fb.1 8 0 4 (by unfold PP; omega), zI_uI, if_pos ⟨rfl, rfl, rfl⟩], fun i h1 h2 => absurd h1 (Nat.not_lt_zero _)⟩
  have f2 : fp CP x (hp_bec (uI (uI x 8 0 3 N1) 8 0 4 (nI 0)) 4 0) := fp_trans (fp_uI (by unfold CP; omega) (fp_uI (by unfold CP; omega) (fp_refl _ _) _ _) _ _) (PP_CP fb)
  have est : qm_evM (d + 12) jS_begin [qP 8 0, qP 3 0] x = some (none, hp_bec (uI (uI x 8 0 3 N1) 8 0 4 (nI 0)) 4 0) := by
    simp (config := {maxSteps := 1000000}) (disch := first | omega | assumption | (simp only [qm_wid_n, qm_wid_I, qm_wid_L, qm_wid_P]; omega) | (simp only [qm_wid_n, qm_wid_I, qm_wid_L, qm_wid_P]; done) | fail) only [e_S_begin, b_S_begin_0, qy0, qy1, qy2, qy3, qe, qcn, qin, ↓reduceIte, Nat.reduceEqDiff, Nat.reduceLeDiff, Bool.false_eq_true, Nat.reduceAdd, Nat.reduceSub, Nat.reduceMul, Nat.reduceLT, or_self, or_false, false_or, or_true, true_or, and_self, and_true, true_and, and_false, false_and, not_true_eq_false, not_false_eq_true, hbe]
  generalize hp_bec (uI (uI x 8 0 3 N1) 8 0 4 (nI 0)) 4 0 = X at hP4 hR2 hS2 f2 est
  obtain ⟨x', e1, e2, e3, e4, e5⟩ := c_try (d + 5 - N) (N := N) (wk := wk) ok (by omega) (by omega) N 0 (nI 0) y ch0 (N1, 0, ch0) X (Nat.zero_add _) hR2 (Or.inr hP4) okp (by rw [hi]; rfl) (fun i hi => by omega) hS2
  rw [show d + 5 - N + 7 + N = d + 12 by omega] at e1
  exact ⟨X, x', est, hR2.1.1, e1, e2, e3, fp_trans f2 (SQ_CP e4)⟩
theorem c_order_0 (d : Nat) {s x1 x : qm_Hp} {n S N : Nat} {r : Int32} (hn : 1 ≤ n ∧ n ≤ 5) (hS : S ≤ 48) (hN : N = min n S) (hcp : qm_evM (d + 39) jC_canPass [qP 1 0, qI (nI n)] s = some (some (qI (nI 1)), s)) (h1 : qm_evM (d + 39) jS_begin [qP 8 0, qP 3 0] s = some (none, x1)) (h2 : qm_evM (d + 39) jP_splits [qP 3 0] x1 = some (some (qI (nI S)), x1)) (h3 : qm_evM (d + 39) jS_tryFrom [qP 8 0, qI (nI 0), qI (nI 0), qI (nI N), qP 2 0, qP 5 0] x1 = some (none, x)) (h4 : zI x 8 0 3 = r) : qm_evM (d + 40) jC_order [qP 1 0, qI (nI n), qI (nI 0)] s = some (some (qI r), x) := by
  subst hN
  have em := imin (a := n) (b := S) (by omega) (by omega)
  simp (config := {maxSteps := 1000000}) (disch := first | omega | assumption | (simp only [qm_wid_n, qm_wid_I, qm_wid_L, qm_wid_P]; omega) | (simp only [qm_wid_n, qm_wid_I, qm_wid_L, qm_wid_P]; done) | fail) only [e_C_order, b_C_order_0, b_C_order_1, b_C_order_3, b_C_order_5, qy0, qy1, qy2, qy3, qe, qcn, qin, ↓reduceIte, Nat.reduceEqDiff, Nat.reduceLeDiff, Bool.false_eq_true, Nat.reduceAdd, Nat.reduceSub, Nat.reduceMul, Nat.reduceLT, or_self, or_false, false_or, or_true, true_or, and_self, and_true, true_and, and_false, false_and, not_true_eq_false, not_false_eq_true, t_within, hcp, h1, h2, em, h3, h4]
theorem c_order_i (d : Nat) {s x1 x : qm_Hp} {n S N i tk : Nat} {f : Nat → Int32} (hn : 1 ≤ n ∧ n ≤ 5) (hi : i < 5) (hS : S ≤ 48) (hN : N = min n S) (htk : tk ≤ 5) (hcp : qm_evM (d + 39) jC_canPass [qP 1 0, qI (nI n)] s = some (some (qI (nI 1)), s)) (h1 : qm_evM (d + 39) jS_begin [qP 8 0, qP 3 0] s = some (none, x1)) (h2 : qm_evM (d + 39) jP_splits [qP 3 0] x1 = some (some (qI (nI S)), x1)) (h3 : qm_evM (d + 39) jS_tryFrom [qP 8 0, qI (nI 0), qI (nI 0), qI (nI N), qP 2 0, qP 5 0] x1 = some (none, x)) (h4 : zI x 8 0 4 = nI tk) (h5 : ∀ i, i < tk → i < 5 → zI x 48 0 i = f i) : qm_evM (d + 40) jC_order [qP 1 0, qI (nI n), qI (nI (10 + i))] s = some (some (qI (if i < tk then f i else N1)), x) := by
  subst hN
  have em := imin (a := n) (b := S) (by omega) (by omega)
  have ei : 10 + i - 10 = i := by omega
  by_cases q : i < tk
  · have h6 := h5 i q hi
    rw [if_pos q]
    simp (config := {maxSteps := 1000000}) (disch := first | omega | assumption | (simp only [qm_wid_n, qm_wid_I, qm_wid_L, qm_wid_P]; omega) | (simp only [qm_wid_n, qm_wid_I, qm_wid_L, qm_wid_P]; done) | fail) only [e_C_order, b_C_order_0, b_C_order_1, b_C_order_3, b_C_order_5, b_C_order_6, b_C_order_7, b_C_order_8, qy0, qy1, qy2, qy3, qe, qcn, qin, ↓reduceIte, Nat.reduceEqDiff, Nat.reduceLeDiff, Bool.false_eq_true, Nat.reduceAdd, Nat.reduceSub, Nat.reduceMul, Nat.reduceLT, or_self, or_false, false_or, or_true, true_or, and_self, and_true, true_and, and_false, false_and, not_true_eq_false, not_false_eq_true, t_within, hcp, h1, h2, em, h3, h4, ei, h6]
  · rw [if_neg q]
    simp (config := {maxSteps := 1000000}) (disch := first | omega | assumption | (simp only [qm_wid_n, qm_wid_I, qm_wid_L, qm_wid_P]; omega) | (simp only [qm_wid_n, qm_wid_I, qm_wid_L, qm_wid_P]; done) | fail) only [e_C_order, b_C_order_0, b_C_order_1, b_C_order_3, b_C_order_5, b_C_order_6, b_C_order_7, b_C_order_8, qy0, qy1, qy2, qy3, qe, qcn, qin, ↓reduceIte, Nat.reduceEqDiff, Nat.reduceLeDiff, Bool.false_eq_true, Nat.reduceAdd, Nat.reduceSub, Nat.reduceMul, Nat.reduceLT, or_self, or_false, false_or, or_true, true_or, and_self, and_true, true_and, and_false, false_and, not_true_eq_false, not_false_eq_true, t_within, hcp, h1, h2, em, h3, h4, ei]
theorem c_order_n (d : Nat) {s : qm_Hp} {a b : Int32} {rv : Nat} (r0 : rv = 0 ∨ rv = 1) (h : ¬ (b = nI 0 ∨ (nI 10 ≤ b ∧ b ≤ nI 14)) ∨ ¬ (nI 1 ≤ a ∧ a ≤ nI 5) ∨ (rv = 0 ∧ qm_evM (d + 39) jC_canPass [qP 1 0, qI a] s = some (some (qI (nI 0)), s))) : qm_evM (d + 40) jC_order [qP 1 0, qI a, qI b] s = some (some (qI N1), s) := by
  by_cases hb : b = nI 0
  · subst hb
    by_cases ha : nI 1 ≤ a ∧ a ≤ nI 5
    · rcases h with h | h | ⟨_, h⟩
      · exact absurd (Or.inl rfl) h
      · exact absurd ha h
      · simp (config := {maxSteps := 1000000}) (disch := first | omega | assumption | (simp only [qm_wid_n, qm_wid_I, qm_wid_L, qm_wid_P]; omega) | (simp only [qm_wid_n, qm_wid_I, qm_wid_L, qm_wid_P]; done) | fail) only [e_C_order, b_C_order_0, b_C_order_1, b_C_order_3, b_C_order_4, qy0, qy1, qy2, qy3, qe, qcn, qin, ↓reduceIte, Nat.reduceEqDiff, Nat.reduceLeDiff, Bool.false_eq_true, Nat.reduceAdd, Nat.reduceSub, Nat.reduceMul, Nat.reduceLT, or_self, or_false, false_or, or_true, true_or, and_self, and_true, true_and, and_false, false_and, not_true_eq_false, not_false_eq_true, t_within, ha, h]
    · simp (config := {maxSteps := 1000000}) (disch := first | omega | assumption | (simp only [qm_wid_n, qm_wid_I, qm_wid_L, qm_wid_P]; omega) | (simp only [qm_wid_n, qm_wid_I, qm_wid_L, qm_wid_P]; done) | fail) only [e_C_order, b_C_order_0, b_C_order_1, b_C_order_3, b_C_order_4, qy0, qy1, qy2, qy3, qe, qcn, qin, ↓reduceIte, Nat.reduceEqDiff, Nat.reduceLeDiff, Bool.false_eq_true, Nat.reduceAdd, Nat.reduceSub, Nat.reduceMul, Nat.reduceLT, or_self, or_false, false_or, or_true, true_or, and_self, and_true, true_and, and_false, false_and, not_true_eq_false, not_false_eq_true, t_within, ha]
  · by_cases hb2 : nI 10 ≤ b ∧ b ≤ nI 14
    · by_cases ha : nI 1 ≤ a ∧ a ≤ nI 5
      · rcases h with h | h | ⟨_, h⟩
        · exact absurd (Or.inr hb2) h
        · exact absurd ha h
        · simp (config := {maxSteps := 1000000}) (disch := first | omega | assumption | (simp only [qm_wid_n, qm_wid_I, qm_wid_L, qm_wid_P]; omega) | (simp only [qm_wid_n, qm_wid_I, qm_wid_L, qm_wid_P]; done) | fail) only [e_C_order, b_C_order_0, b_C_order_1, b_C_order_3, b_C_order_4, qy0, qy1, qy2, qy3, qe, qcn, qin, ↓reduceIte, Nat.reduceEqDiff, Nat.reduceLeDiff, Bool.false_eq_true, Nat.reduceAdd, Nat.reduceSub, Nat.reduceMul, Nat.reduceLT, or_self, or_false, false_or, or_true, true_or, and_self, and_true, true_and, and_false, false_and, not_true_eq_false, not_false_eq_true, t_within, hb, hb2, ha, h]
      · simp (config := {maxSteps := 1000000}) (disch := first | omega | assumption | (simp only [qm_wid_n, qm_wid_I, qm_wid_L, qm_wid_P]; omega) | (simp only [qm_wid_n, qm_wid_I, qm_wid_L, qm_wid_P]; done) | fail) only [e_C_order, b_C_order_0, b_C_order_1, b_C_order_3, b_C_order_4, qy0, qy1, qy2, qy3, qe, qcn, qin, ↓reduceIte, Nat.reduceEqDiff, Nat.reduceLeDiff, Bool.false_eq_true, Nat.reduceAdd, Nat.reduceSub, Nat.reduceMul, Nat.reduceLT, or_self, or_false, false_or, or_true, true_or, and_self, and_true, true_and, and_false, false_and, not_true_eq_false, not_false_eq_true, t_within, hb, hb2, ha]
    · simp (config := {maxSteps := 1000000}) (disch := first | omega | assumption | (simp only [qm_wid_n, qm_wid_I, qm_wid_L, qm_wid_P]; omega) | (simp only [qm_wid_n, qm_wid_I, qm_wid_L, qm_wid_P]; done) | fail) only [e_C_order, b_C_order_0, b_C_order_2, b_C_order_3, b_C_order_4, qy0, qy1, qy2, qy3, qe, qcn, qin, ↓reduceIte, Nat.reduceEqDiff, Nat.reduceLeDiff, Bool.false_eq_true, Nat.reduceAdd, Nat.reduceSub, Nat.reduceMul, Nat.reduceLT, or_self, or_false, false_or, or_true, true_or, and_self, and_true, true_and, and_false, false_and, not_true_eq_false, not_false_eq_true, t_within, hb, hb2]
theorem r_order_0 (d : Nat) {s x : qm_Hp} {n : Nat} {r : Int32} (hn : 1 ≤ n ∧ n ≤ 5) (hcp : qm_evM (d + 39) jM_isTried [qP 9 0, qI (nI n), qI (nI 5)] s = some (some (qI (nI 1)), s)) (h3 : qm_evM (d + 39) jM_findOrder [qP 9 0, qI (nI n)] s = some (none, x)) (h4 : zI x 9 0 31 = r) : qm_evM (d + 40) jM_order [qP 9 0, qI (nI n), qI (nI 0)] s = some (some (qI r), x) := by
  simp (config := {maxSteps := 1000000}) (disch := first | omega | assumption | (simp only [qm_wid_n, qm_wid_I, qm_wid_L, qm_wid_P]; omega) | (simp only [qm_wid_n, qm_wid_I, qm_wid_L, qm_wid_P]; done) | fail) only [e_M_order, b_M_order_0, b_M_order_1, b_M_order_2, b_M_order_3, b_M_order_4, qy0, qy1, qy2, qy3, qe, qcn, qin, ↓reduceIte, Nat.reduceEqDiff, Nat.reduceLeDiff, Bool.false_eq_true, Nat.reduceAdd, Nat.reduceSub, Nat.reduceMul, Nat.reduceLT, or_self, or_false, false_or, or_true, true_or, and_self, and_true, true_and, and_false, false_and, not_true_eq_false, not_false_eq_true, t_isIn, hcp, h3, h4]
theorem r_order_i (d : Nat) {s x : qm_Hp} {n i : Nat} {r : Int32} (hn : 1 ≤ n ∧ n ≤ 5) (hi : i < n) (hcp : qm_evM (d + 39) jM_isTried [qP 9 0, qI (nI n), qI (nI 5)] s = some (some (qI (nI 1)), s)) (h3 : qm_evM (d + 39) jM_findOrder [qP 9 0, qI (nI n)] s = some (none, x)) (h4 : zI x 71 0 i = r) : qm_evM (d + 40) jM_order [qP 9 0, qI (nI n), qI (nI (10 + i))] s = some (some (qI r), x) := by
  have ei : 10 + i - 10 = i := by omega
  simp (config := {maxSteps := 1000000}) (disch := first | omega | assumption | (simp only [qm_wid_n, qm_wid_I, qm_wid_L, qm_wid_P]; omega) | (simp only [qm_wid_n, qm_wid_I, qm_wid_L, qm_wid_P]; done) | fail) only [e_M_order, b_M_order_0, b_M_order_1, b_M_order_2, b_M_order_3, b_M_order_4, qy0, qy1, qy2, qy3, qe, qcn, qin, ↓reduceIte, Nat.reduceEqDiff, Nat.reduceLeDiff, Bool.false_eq_true, Nat.reduceAdd, Nat.reduceSub, Nat.reduceMul, Nat.reduceLT, or_self, or_false, false_or, or_true, true_or, and_self, and_true, true_and, and_false, false_and, not_true_eq_false, not_false_eq_true, t_isIn, hcp, h3, ei, h4]
theorem r_order_n (d : Nat) {s : qm_Hp} {a b : Int32} (h : ¬ (nI 1 ≤ a ∧ a ≤ nI 5) ∨ qm_evM (d + 39) jM_isTried [qP 9 0, qI a, qI (nI 5)] s = some (some (qI (nI 0)), s)) : qm_evM (d + 40) jM_order [qP 9 0, qI a, qI b] s = some (some (qI N1), s) := by
  by_cases ha : nI 1 ≤ a ∧ a ≤ nI 5
  · have h2 := h.resolve_left (fun g => g ha)
    simp (config := {maxSteps := 1000000}) (disch := first | omega | assumption | (simp only [qm_wid_n, qm_wid_I, qm_wid_L, qm_wid_P]; omega) | (simp only [qm_wid_n, qm_wid_I, qm_wid_L, qm_wid_P]; done) | fail) only [e_M_order, b_M_order_0, b_M_order_1, qy0, qy1, qy2, qy3, qe, qcn, qin, ↓reduceIte, Nat.reduceEqDiff, Nat.reduceLeDiff, Bool.false_eq_true, Nat.reduceAdd, Nat.reduceSub, Nat.reduceMul, Nat.reduceLT, or_self, or_false, false_or, or_true, true_or, and_self, and_true, true_and, and_false, false_and, not_true_eq_false, not_false_eq_true, t_isIn, ha, h2]
  · simp (config := {maxSteps := 1000000}) (disch := first | omega | assumption | (simp only [qm_wid_n, qm_wid_I, qm_wid_L, qm_wid_P]; omega) | (simp only [qm_wid_n, qm_wid_I, qm_wid_L, qm_wid_P]; done) | fail) only [e_M_order, b_M_order_0, b_M_order_1, qy0, qy1, qy2, qy3, qe, qcn, qin, ↓reduceIte, Nat.reduceEqDiff, Nat.reduceLeDiff, Bool.false_eq_true, Nat.reduceAdd, Nat.reduceSub, Nat.reduceMul, Nat.reduceLT, or_self, or_false, false_or, or_true, true_or, and_self, and_true, true_and, and_false, false_and, not_true_eq_false, not_false_eq_true, t_isIn, ha]
theorem r_order_m (d : Nat) {s : qm_Hp} {n : Nat} {b : Int32} (hn : 1 ≤ n ∧ n ≤ 5) (hcp : qm_evM (d + 39) jM_isTried [qP 9 0, qI (nI n), qI (nI 5)] s = some (some (qI (nI 1)), s)) (h0 : ¬ b = nI 0) (h : ¬ (nI 10 ≤ b ∧ b ≤ nI (9 + n))) : qm_evM (d + 40) jM_order [qP 9 0, qI (nI n), qI b] s = some (some (qI N1), s) := by
  simp (config := {maxSteps := 1000000}) (disch := first | omega | assumption | (simp only [qm_wid_n, qm_wid_I, qm_wid_L, qm_wid_P]; omega) | (simp only [qm_wid_n, qm_wid_I, qm_wid_L, qm_wid_P]; done) | fail) only [e_M_order, b_M_order_0, b_M_order_1, qy0, qy1, qy2, qy3, qe, qcn, qin, ↓reduceIte, Nat.reduceEqDiff, Nat.reduceLeDiff, Bool.false_eq_true, Nat.reduceAdd, Nat.reduceSub, Nat.reduceMul, Nat.reduceLT, or_self, or_false, false_or, or_true, true_or, and_self, and_true, true_and, and_false, false_and, not_true_eq_false, not_false_eq_true, t_isIn, hcp, h0, h]
theorem st_order (d : Nat) (a b : Int32) : STP (d + 40) jC_order jM_order [qI a, qI b] := by
  refine stp_rw fun s w y k tp fd fa pl T hC hM ok => ?_
  have okp := ok.1.1
  have hw6 := okp.1.2
  obtain ⟨nw, _, hnw, enw⟩ := ok.1.2.1
  obtain ⟨wk, _, hwk, ewk⟩ := okp.2.1.1
  have h5 : zI s 2 0 5 = nI nw := hC.1.2.1.1.trans enw
  have h8 : zI s 3 0 8 = nI wk := hC.1.1.2.1.1.trans ewk
  have m1 : ∀ s1, RM s1 w y k tp fd fa pl T → zI s1 61 0 1 = nI nw := fun s1 g => g.2.1.2.1.1.trans enw
  have m0 : ∀ s1, RM s1 w y k tp fd fa pl T → zI s1 61 0 0 = nI wk := fun s1 g => g.2.1.1.2.1.1.trans ewk
  have hsl := spl_le okp w (Nat.le_refl _)
  by_cases hn : nI 1 ≤ a ∧ a ≤ nI 5
  · obtain ⟨n, n1, n2, rfl⟩ := inr_rg (by decide) hn.1 hn.2 (by decide)
    have hcp := t_canPass (d + 39) h5 h8 hnw hwk n (by omega)
    by_cases hp : 0 < nw ∧ wk + n ≤ 399
    · rw [if_pos hp] at hcp
      have mt : ∀ s1, RM s1 w y k tp fd fa pl T → _ := fun s1 g => r_isTried_y (d + 38) (s := s1) (M := 5) (m1 s1 g) (m0 s1 g) hnw (by decide) n2 (Or.inr hp.1) hp.2
      have hdk : fnd5 (rul T y) w y (min n (spl y w)) = fnd5 (rul T y) w y (min n (spl y w)) := rfl
      have tk5 : (fnd5 (rul T y) w y (min n (spl y w))).2.1 ≤ min n (spl y w) := srch_tk _ 0 _ _ _ _ (by omega) (Nat.zero_le _)
      have nn := srch_nn (τ := rul T y) (wk := wk) (y := y) (min n (spl y w)) 0 0 y ch0 (N1, 0, ch0) (by omega) (by omega) (Nat.le_refl _) okp ewk (by omega)
      have nn : nI 0 ≤ (fnd5 (rul T y) w y (min n (spl y w))).1 := nn
      obtain ⟨x1, x, c1, c2, c3, c4, c5, c6⟩ := c_find (d + 27) ok hC n2 rfl ewk hp.2
      have csp := c_splits (d + 39) c2 okp
      have mf : ∀ s1, RM s1 w y k tp fd fa pl T → _ := fun s1 g => r_find (d + 30) (x := s1) ok g n1 n2 rfl ewk hp.2
      have hbest : ∀ x', MR x' (fnd5 (rul T y) w y (min n (spl y w))) → ∀ i, i < 5 → zI x' 71 0 i = if i < (fnd5 (rul T y) w y (min n (spl y w))).2.1 then (fnd5 (rul T y) w y (min n (spl y w))).2.2 i else N1 := fun x' g => g.2.resolve_left (fun z => by
        rw [z] at nn
        exact absurd nn (by decide))
      by_cases h0 : b = nI 0
      · subst h0
        refine ⟨_, y, k, tp, fd, fa, pl, T, ok, ⟨x, c_order_0 d ⟨n1, n2⟩ (by omega) rfl hcp c1 csp c3 c5.1, c6, c4⟩, fun s1 g1 => ?_⟩
        obtain ⟨x', e1, e2, e3, e4⟩ := mf s1 g1
        exact ⟨x', r_order_0 d ⟨n1, n2⟩ (mt s1 g1) e1 e3.1, e4, e2⟩
      · by_cases hb : nI 10 ≤ b ∧ b ≤ nI 14
        · obtain ⟨i', i1, i2, rfl⟩ := inr_rg (by decide) hb.1 hb.2 (by decide)
          obtain ⟨i, rfl⟩ : ∃ i, i' = 10 + i := ⟨i' - 10, by omega⟩
          by_cases hin : i < n
          · refine ⟨_, y, k, tp, fd, fa, pl, T, ok, ⟨x, c_order_i d ⟨n1, n2⟩ (by omega) (by omega) rfl (by omega) hcp c1 csp c3 c5.2.1 c5.2.2, c6, c4⟩, fun s1 g1 => ?_⟩
            obtain ⟨x', e1, e2, e3, e4⟩ := mf s1 g1
            exact ⟨x', r_order_i d ⟨n1, n2⟩ hin (mt s1 g1) e1 (hbest x' e3 i (by omega)), e4, e2⟩
          · have hci := c_order_i d (i := i) ⟨n1, n2⟩ (by omega) (by omega) rfl (by omega) hcp c1 csp c3 c5.2.1 c5.2.2
            rw [if_neg (by omega)] at hci
            refine ⟨N1, y, k, tp, fd, fa, pl, T, ok, ⟨x, hci, c6, c4⟩, fun s1 g1 => ⟨s1, r_order_m d ⟨n1, n2⟩ (mt s1 g1) h0 (fun g => nI_ge (by omega) (by omega) g.2), fp_refl _ _, g1⟩⟩
        · have hb2 : ¬ (nI 10 ≤ b ∧ b ≤ nI (9 + n)) := fun g => by
            obtain ⟨i', i1, i2, e⟩ := inr_rg (by omega) g.1 g.2 (by omega)
            exact hb (by rw [e]; exact ⟨nI_le i1 (by omega), nI_le (by omega) (by decide)⟩)
          exact nochg ok hC N1 (c_order_n d (rv := 1) (Or.inr rfl) (Or.inl (fun g => g.elim h0 hb))) (fun s1 g1 => r_order_m d ⟨n1, n2⟩ (mt s1 g1) h0 hb2)
    · rw [if_neg hp] at hcp
      have mt : ∀ s1, RM s1 w y k tp fd fa pl T → _ := fun s1 g => r_isTried_n (d + 38) (s := s1) (x := nI n) (M := 5) (m1 s1 g) (m0 s1 g) hnw hwk (by decide) (fun ⟨m', z1, z2, z3, z4⟩ => by
        have e : n = m' := (nI_eq (by omega) (by omega)).mp z1
        exact hp ⟨by omega, by omega⟩)
      exact nochg ok hC N1 (c_order_n d (rv := 0) (Or.inl rfl) (Or.inr (Or.inr ⟨rfl, hcp⟩))) (fun s1 h1 => r_order_n d (Or.inr (mt s1 h1)))
  · exact nochg ok hC N1 (c_order_n d (rv := 0) (Or.inl rfl) (Or.inr (Or.inl hn))) (fun s1 h1 => r_order_n d (Or.inl hn))
