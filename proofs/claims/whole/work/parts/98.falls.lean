/-! the call falls -/
def xs (sd : Nat) : Nat → Nat
  | 0 => sd * 7 + 4
  | k + 1 => (xs sd k * 163 + 31) % 30097
theorem xs_le {sd : Nat} (h : sd ≤ 9999) : ∀ k, xs sd k ≤ 69997
  | 0 => by show sd * 7 + 4 ≤ 69997; omega
  | k + 1 => by show (xs sd k * 163 + 31) % 30097 ≤ 69997; omega
def fsq (τ : TX) (w : Nat) (y : VW) (nw sd : Nat) : Nat → VW
  | 0 => y
  | k + 1 => passv τ w (Wy y (xs sd k % nw)) (fsq τ w y nw sd k)
theorem fsq_ok {τ : TX} {w nw sd : Nat} {y : VW} {i n : Nat} (ok : OKP w y) (hi : y 0 0 = nI i) (h : i + n ≤ 399) : ∀ k, k ≤ n → OKP w (fsq τ w y nw sd k) ∧ fsq τ w y nw sd k 0 0 = nI (i + k)
  | 0, _ => ⟨ok, hi⟩
  | k + 1, hk => by
    obtain ⟨a1, a2⟩ := fsq_ok (τ := τ) (nw := nw) (sd := sd) ok hi h k (by omega)
    exact ok_pass (i := i + k) a1 a2 (by omega)
theorem fsq_fl {τ : TX} {w nw sd : Nat} {y : VW} {k : Nat} (h : ¬ fsq τ w y nw sd k 0 1 = N1) : ∀ m, ¬ fsq τ w y nw sd (k + m) 0 1 = N1
  | 0 => h
  | m + 1 => by
    have ih := fsq_fl h m
    show ¬ passv τ w (Wy y (xs sd (k + m) % nw)) (fsq τ w y nw sd (k + m)) 0 1 = N1
    rw [pass_fl ih]
    exact ih
theorem rm_e (a b : Nat) : a - a / b * b = a % b := by
  have := Nat.mod_def a b
  rw [Nat.mul_comm] at this
  exact this.symm
/-- has it fallen -/
def flb (τ : TX) (w : Nat) (y : VW) (nw sd n : Nat) : Int32 := if fsq τ w y nw sd n 0 1 = N1 then nI 0 else nI 1
theorem c_fallsBy (d : Nat) {x : qm_Hp} {w n i nw sd : Nat} {y k : VW} {tp : Nat → Int32} {fd : Nat} {fa pl : Int32} {T : Nat → TX} (ok : OKG w y k tp fd T) (hR : RC x w y k tp fd fa pl T) (hi : y 0 0 = nI i) (h9 : i + n ≤ 399) (hn : n ≤ 40) (hsd : sd ≤ 9999) (hnw : 0 < nw ∧ nw ≤ 12) (enw : y 0 5 = nI nw) : ∃ x', qm_evM (d + 7) jC_fallsBy [qP 1 0, qI (nI sd), qI (nI n)] x = some (some (qI (flb (rul T y) w y nw sd n)), x') ∧ RC x' w y k tp fd fa pl T ∧ fp (PP 2) x x' := by
  have okp := ok.1.1
  have hbe := s_become (d + 6) x 2 0
  have hP := PC_bec hR.1.1 okp (p := 2) (by decide) (hR.2.2.1 2 (by decide))
  have f0 := bec_fp x 2 0
  have hR0 := RC_P2 f0 hP.1 hR
  have key : ∀ m j x', j + m = n → RC x' w y k tp fd fa pl T → PC x' 2 w (fsq (rul T y) w y nw sd j) → fp (PP 2) x x' → ∃ x2, qm_evB (d + 7) jC_fallsBy 1 [qP 1 0, qI (nI sd), qI (nI n), qI (nI (xs sd j)), qI (nI j)] [] x' = some (some (qI (flb (rul T y) w y nw sd n)), x2) ∧ RC x2 w y k tp fd fa pl T ∧ fp (PP 2) x x2 := by
    intro m
    induction m with
    | zero =>
      intro j x' hj i1 i2 i3
      have f9 : zI x' 3 2 9 = fsq (rul T y) w y nw sd j 0 1 := i2.2.1.2.1
      have ej : j = n := by omega
      subst ej
      refine ⟨x', (b_C_fallsBy_1 ..).trans ?_, i1, i3⟩
      unfold flb
      simp (config := {maxSteps := 1000000}) (disch := first | omega | assumption | (simp only [qm_wid_n, qm_wid_I, qm_wid_L, qm_wid_P]; omega) | (simp only [qm_wid_n, qm_wid_I, qm_wid_L, qm_wid_P]; done) | fail) only [b_C_fallsBy_2, qy0, qy1, qy2, qy3, qe, qcn, qin, ↓reduceIte, Nat.reduceEqDiff, Nat.reduceLeDiff, Bool.false_eq_true, Nat.reduceAdd, Nat.reduceSub, Nat.reduceMul, Nat.reduceLT, or_self, or_false, false_or, or_true, true_or, and_self, and_true, true_and, and_false, false_and, not_true_eq_false, not_false_eq_true, t_isFallen, f9]
    | succ m ih =>
      intro j x' hj i1 i2 i3
      have f9 : zI x' 3 2 9 = fsq (rul T y) w y nw sd j 0 1 := i2.2.1.2.1
      have h5 : zI x' 2 0 5 = nI nw := i1.1.2.1.1.trans enw
      by_cases hf : fsq (rul T y) w y nw sd j 0 1 = N1
      · obtain ⟨o1, o2⟩ := fsq_ok (τ := rul T y) (nw := nw) (sd := sd) okp hi h9 j (by omega)
        have hx := xs_le hsd j
        have hlt : xs sd j % nw < 12 := Nat.lt_of_lt_of_le (Nat.mod_lt _ hnw.1) hnw.2
        obtain ⟨x2, g1, g2, g3, g4⟩ := c_passT d ok i1 (by decide) i2 o1 o2 (by omega) hlt
        obtain ⟨x3, e1, e2, e3⟩ := ih (j + 1) x2 (by omega) g2 g3 (fp_trans i3 g4)
        refine ⟨x3, ?_, e2, e3⟩
        rw [← e1]
        have r1 := rm_e (xs sd j) nw
        have r1' : xs sd j / nw * nw ≤ xs sd j := Nat.div_mul_le_self _ _
        have r2 : xs sd j * 163 + 31 - (xs sd j * 163 + 31) / 30097 * 30097 = xs sd (j + 1) := rm_e _ _
        rw [hf] at f9
        refine (b_C_fallsBy_1 ..).trans ?_
        simp (config := {maxSteps := 1000000}) (disch := first | omega | assumption | (simp only [qm_wid_n, qm_wid_I, qm_wid_L, qm_wid_P]; omega) | (simp only [qm_wid_n, qm_wid_I, qm_wid_L, qm_wid_P]; done) | fail) only [qy0, qy1, qy2, qy3, qe, qcn, qin, ↓reduceIte, Nat.reduceEqDiff, Nat.reduceLeDiff, Bool.false_eq_true, Nat.reduceAdd, Nat.reduceSub, Nat.reduceMul, Nat.reduceLT, or_self, or_false, false_or, or_true, true_or, and_self, and_true, true_and, and_false, false_and, not_true_eq_false, not_false_eq_true, h5, t_isFallen, f9, r1, g1, r2]
      · have hN := fsq_fl hf (m + 1)
        rw [hj] at hN
        refine ⟨x', (b_C_fallsBy_1 ..).trans ?_, i1, i3⟩
        unfold flb
        rw [if_neg hN]
        simp (config := {maxSteps := 1000000}) (disch := first | omega | assumption | (simp only [qm_wid_n, qm_wid_I, qm_wid_L, qm_wid_P]; omega) | (simp only [qm_wid_n, qm_wid_I, qm_wid_L, qm_wid_P]; done) | fail) only [b_C_fallsBy_2, qy0, qy1, qy2, qy3, qe, qcn, qin, ↓reduceIte, Nat.reduceEqDiff, Nat.reduceLeDiff, Bool.false_eq_true, Nat.reduceAdd, Nat.reduceSub, Nat.reduceMul, Nat.reduceLT, or_self, or_false, false_or, or_true, true_or, and_self, and_true, true_and, and_false, false_and, not_true_eq_false, not_false_eq_true, h5, t_isFallen, f9, hf]
  obtain ⟨x2, e1, e2, e3⟩ := key n 0 (hp_bec x 2 0) (Nat.zero_add _) hR0 hP f0
  refine ⟨x2, ?_, e2, e3⟩
  rw [← e1]
  simp (config := {maxSteps := 1000000}) (disch := first | omega | assumption | (simp only [qm_wid_n, qm_wid_I, qm_wid_L, qm_wid_P]; omega) | (simp only [qm_wid_n, qm_wid_I, qm_wid_L, qm_wid_P]; done) | fail) only [e_C_fallsBy, b_C_fallsBy_0, qy0, qy1, qy2, qy3, qe, qcn, qin, ↓reduceIte, Nat.reduceEqDiff, Nat.reduceLeDiff, Bool.false_eq_true, Nat.reduceAdd, Nat.reduceSub, Nat.reduceMul, Nat.reduceLT, or_self, or_false, false_or, or_true, true_or, and_self, and_true, true_and, and_false, false_and, not_true_eq_false, not_false_eq_true, hbe, xs]
def fcn (F : Nat → Int32) : Nat → Int32
  | 0 => nI 0
  | k + 1 => fcn F k + F k
theorem flb01 (τ : TX) (w : Nat) (y : VW) (nw sd n : Nat) : flb τ w y nw sd n = nI 0 ∨ flb τ w y nw sd n = nI 1 := by
  unfold flb
  by_cases h : fsq τ w y nw sd n 0 1 = N1
  · rw [if_pos h]; exact Or.inl rfl
  · rw [if_neg h]; exact Or.inr rfl
theorem c_falls_l (d : Nat) {x : qm_Hp} {w n i nw sd ct : Nat} {y k : VW} {tp : Nat → Int32} {fd : Nat} {fa pl : Int32} {T : Nat → TX} (ok : OKG w y k tp fd T) (hR : RC x w y k tp fd fa pl T) (hi : y 0 0 = nI i) (h9 : i + n ≤ 399) (hn : n ≤ 40) (hct : ct ≤ 20) (hsd : sd + ct ≤ 10000) (hnw : 0 < nw ∧ nw ≤ 12) (enw : y 0 5 = nI nw) : ∃ x', qm_evB (d + 8) jC_falls 5 [qP 1 0, qI (nI sd), qI (nI ct), qI (nI n), qI (nI 1), qI (nI 0), qI (nI 0)] [] x = some (some (qI (fcn (fun j => flb (rul T y) w y nw (sd + j) n) ct)), x') ∧ RC x' w y k tp fd fa pl T ∧ fp (PP 2) x x' := by
  obtain ⟨x', e, q1, q2⟩ := q_lp ct (fun j (x : qm_Hp) => qm_evB (d + 8) jC_falls 5 [qP 1 0, qI (nI sd), qI (nI ct), qI (nI n), qI (nI 1), qI (fcn (fun j => flb (rul T y) w y nw (sd + j) n) j), qI (nI j)] [] x) (fun j x' => RC x' w y k tp fd fa pl T ∧ fp (PP 2) x x') (fun j x' hj hx => by
    obtain ⟨x2, g1, g2, g3⟩ := c_fallsBy d ok hx.1 hi h9 hn (sd := sd + j) (by omega) hnw enw
    refine ⟨x2, (b_C_falls_5 ..).trans ?_, g2, fp_trans hx.2 g3⟩
    rcases flb01 (rul T y) w y nw (sd + j) n with q | q
    · rw [q] at g1
      simp (config := {maxSteps := 1000000}) (disch := first | omega | assumption | (simp only [qm_wid_n, qm_wid_I, qm_wid_L, qm_wid_P]; omega) | (simp only [qm_wid_n, qm_wid_I, qm_wid_L, qm_wid_P]; done) | fail) only [b_C_falls_6, b_C_falls_7, qy0, qy1, qy2, qy3, qe, qcn, qin, ↓reduceIte, Nat.reduceEqDiff, Nat.reduceLeDiff, Bool.false_eq_true, Nat.reduceAdd, Nat.reduceSub, Nat.reduceMul, Nat.reduceLT, or_self, or_false, false_or, or_true, true_or, and_self, and_true, true_and, and_false, false_and, not_true_eq_false, not_false_eq_true, g1, fcn, q]
    · rw [q] at g1
      simp (config := {maxSteps := 1000000}) (disch := first | omega | assumption | (simp only [qm_wid_n, qm_wid_I, qm_wid_L, qm_wid_P]; omega) | (simp only [qm_wid_n, qm_wid_I, qm_wid_L, qm_wid_P]; done) | fail) only [b_C_falls_6, b_C_falls_7, qy0, qy1, qy2, qy3, qe, qcn, qin, ↓reduceIte, Nat.reduceEqDiff, Nat.reduceLeDiff, Bool.false_eq_true, Nat.reduceAdd, Nat.reduceSub, Nat.reduceMul, Nat.reduceLT, or_self, or_false, false_or, or_true, true_or, and_self, and_true, true_and, and_false, false_and, not_true_eq_false, not_false_eq_true, g1, fcn, q]) 0 x (Nat.zero_le _) ⟨hR, fp_refl _ _⟩
  refine ⟨x', e.trans ?_, q1, q2⟩
  simp (config := {maxSteps := 1000000}) (disch := first | omega | assumption | (simp only [qm_wid_n, qm_wid_I, qm_wid_L, qm_wid_P]; omega) | (simp only [qm_wid_n, qm_wid_I, qm_wid_L, qm_wid_P]; done) | fail) only [b_C_falls_5, b_C_falls_8, qy0, qy1, qy2, qy3, qe, qcn, qin, ↓reduceIte, Nat.reduceEqDiff, Nat.reduceLeDiff, Bool.false_eq_true, Nat.reduceAdd, Nat.reduceSub, Nat.reduceMul, Nat.reduceLT, or_self, or_false, false_or, or_true, true_or, and_self, and_true, true_and, and_false, false_and, not_true_eq_false, not_false_eq_true]
theorem r_falls_l (d : Nat) {x : qm_Hp} {w n i nw sd ct : Nat} {y k : VW} {tp : Nat → Int32} {fd : Nat} {fa pl : Int32} {T : Nat → TX} (ok : OKG w y k tp fd T) (hR : RM x w y k tp fd fa pl T) (hi : y 0 0 = nI i) (h9 : i + n ≤ 399) (hn : n ≤ 40) (hct : ct ≤ 20) (hsd : sd + ct ≤ 10000) (hnw : 0 < nw ∧ nw ≤ 12) (enw : y 0 5 = nI nw) : ∃ x', qm_evB (d + 8) jM_falls 3 [qP 9 0, qI (nI sd), qI (nI ct), qI (nI n), qI (nI 0), qI (nI 0), qU, qU] [] x = some (some (qI (fcn (fun j => flb (rul T y) w y nw (sd + j) n) ct)), x') ∧ RM x' w y k tp fd fa pl T ∧ fp MP x x' := by
  have okp := ok.1.1
  have hw6 := okp.1.2
  obtain ⟨⟨x', a6, a7⟩, e, ⟨b, q1⟩, q2⟩ := q_lp ct (fun j (x : qm_Hp × qm_AV × qm_AV) => qm_evB (d + 8) jM_falls 3 [qP 9 0, qI (nI sd), qI (nI ct), qI (nI n), qI (fcn (fun j => flb (rul T y) w y nw (sd + j) n) j), qI (nI j), x.2.1, x.2.2] [] x.1) (fun j x' => (∃ b, RT x'.1 b w y k tp fd fa pl T) ∧ fp MP x x'.1) (fun j x' hj hx => by
    obtain ⟨x', a6, a7⟩ := x'
    obtain ⟨⟨b, i1⟩, i2⟩ := hx
    dsimp only at i1 i2
    have hcp := m_copy (d + 7) x' 0 2 (by decide) (by decide) (by decide)
    have hX1 : RT (uI (uC x' 61 0 0 61 0 840 420) 9 0 2 (nI 840)) 840 w y k tp fd fa pl T := RT_copy ok 0 2 (by decide) 840 i1
    have hP1 : PM (uI (uC x' 61 0 0 61 0 840 420) 9 0 2 (nI 840)) 840 w y := PM_copy okp 0 2 840 (RT_PM0 ok i1)
    have f1 : fp MP x (uI (uC x' 61 0 0 61 0 840 420) 9 0 2 (nI 840)) := fp_uI (by unfold MP; omega) (fp_trans i2 (mp_uC _ _ _ _)) _ _
    have est : qm_evB (d + 8) jM_falls 3 [qP 9 0, qI (nI sd), qI (nI ct), qI (nI n), qI (fcn (fun j => flb (rul T y) w y nw (sd + j) n) j), qI (nI j), a6, a7] [] x' = qm_evB (d + 8) jM_falls 4 [qP 9 0, qI (nI sd), qI (nI ct), qI (nI n), qI (fcn (fun j => flb (rul T y) w y nw (sd + j) n) j), qI (nI j), qI (nI (xs (sd + j) 0)), qI (nI 0)] [] (uI (uC x' 61 0 0 61 0 840 420) 9 0 2 (nI 840)) := by
      refine (b_M_falls_3 ..).trans ?_
      simp (config := {maxSteps := 1000000}) (disch := first | omega | assumption | (simp only [qm_wid_n, qm_wid_I, qm_wid_L, qm_wid_P]; omega) | (simp only [qm_wid_n, qm_wid_I, qm_wid_L, qm_wid_P]; done) | fail) only [qy0, qy1, qy2, qy3, qe, qcn, qin, ↓reduceIte, Nat.reduceEqDiff, Nat.reduceLeDiff, Bool.false_eq_true, Nat.reduceAdd, Nat.reduceSub, Nat.reduceMul, Nat.reduceLT, or_self, or_false, false_or, or_true, true_or, and_self, and_true, true_and, and_false, false_and, not_true_eq_false, not_false_eq_true, hcp, r_tries, xs]
    generalize uI (uC x' 61 0 0 61 0 840 420) 9 0 2 (nI 840) = X1 at hX1 hP1 f1 est
    obtain ⟨X2, e2, k1, k2, k3⟩ := q_lp n (fun t (x : qm_Hp) => qm_evB (d + 8) jM_falls 4 [qP 9 0, qI (nI sd), qI (nI ct), qI (nI n), qI (fcn (fun j => flb (rul T y) w y nw (sd + j) n) j), qI (nI j), qI (nI (xs (sd + j) t)), qI (nI t)] [] x) (fun t x2 => RT x2 840 w y k tp fd fa pl T ∧ PM x2 840 w (fsq (rul T y) w y nw (sd + j) t) ∧ fp MP x x2) (fun t x2 ht hx => by
      obtain ⟨k1, k2, k3⟩ := hx
      obtain ⟨o1, o2⟩ := fsq_ok (τ := rul T y) (nw := nw) (sd := sd + j) okp hi h9 t (by omega)
      have hx := xs_le (sd := sd + j) (by omega) t
      have hlt : xs (sd + j) t % nw < 12 := Nat.lt_of_lt_of_le (Nat.mod_lt _ hnw.1) hnw.2
      have h1 : zI x2 61 0 1 = nI nw := (RT_YM hw6 k1).1.1.trans enw
      obtain ⟨x3, g1, g2, g3, g4⟩ := r_passT d ok k1 (by decide) (by decide) k2 o1 o2 (by omega) hlt
      have r1 := rm_e (xs (sd + j) t) nw
      have r1' : xs (sd + j) t / nw * nw ≤ xs (sd + j) t := Nat.div_mul_le_self _ _
      have r2 : xs (sd + j) t * 163 + 31 - (xs (sd + j) t * 163 + 31) / 30097 * 30097 = xs (sd + j) (t + 1) := rm_e _ _
      refine ⟨x3, (b_M_falls_4 ..).trans ?_, g2, g3, fp_trans k3 (fm_MP g4)⟩
      simp (config := {maxSteps := 1000000}) (disch := first | omega | assumption | (simp only [qm_wid_n, qm_wid_I, qm_wid_L, qm_wid_P]; omega) | (simp only [qm_wid_n, qm_wid_I, qm_wid_L, qm_wid_P]; done) | fail) only [qy0, qy1, qy2, qy3, qe, qcn, qin, ↓reduceIte, Nat.reduceEqDiff, Nat.reduceLeDiff, Bool.false_eq_true, Nat.reduceAdd, Nat.reduceSub, Nat.reduceMul, Nat.reduceLT, or_self, or_false, false_or, or_true, true_or, and_self, and_true, true_and, and_false, false_and, not_true_eq_false, not_false_eq_true, h1, r1, g1, r2]) 0 X1 (Nat.zero_le _) ⟨hX1, hP1, f1⟩
    have o1 := (fsq_ok (τ := rul T y) (nw := nw) (sd := sd + j) okp hi h9 n (Nat.le_refl _)).1
    have h7 : zI X2 61 0 847 = fsq (rul T y) w y nw (sd + j) n 0 1 := k2.2.1.2.1
    have hb := k1.1
    have hfl := fm_7 o1
    refine ⟨(X2, qI (nI (xs (sd + j) n)), qI (nI n)), est.trans (e2.trans ?_), ⟨840, k1⟩, k3⟩
    show _ = qm_evB (d + 8) jM_falls 3 [qP 9 0, qI (nI sd), qI (nI ct), qI (nI n), qI (fcn (fun j => flb (rul T y) w y nw (sd + j) n) j + flb (rul T y) w y nw (sd + j) n), qI (nI (j + 1)), qI (nI (xs (sd + j) n)), qI (nI n)] [] X2
    refine (b_M_falls_4 ..).trans ?_
    unfold flb
    by_cases hq : fsq (rul T y) w y nw (sd + j) n 0 1 = N1
    · rw [if_pos hq]
      simp (config := {maxSteps := 1000000}) (disch := first | omega | assumption | (simp only [qm_wid_n, qm_wid_I, qm_wid_L, qm_wid_P]; omega) | (simp only [qm_wid_n, qm_wid_I, qm_wid_L, qm_wid_P]; done) | fail) only [b_M_falls_5, b_M_falls_6, b_M_falls_7, qy0, qy1, qy2, qy3, qe, qcn, qin, ↓reduceIte, Nat.reduceEqDiff, Nat.reduceLeDiff, Bool.false_eq_true, Nat.reduceAdd, Nat.reduceSub, Nat.reduceMul, Nat.reduceLT, or_self, or_false, false_or, or_true, true_or, and_self, and_true, true_and, and_false, false_and, not_true_eq_false, not_false_eq_true, hb, h7, hfl, hq]
    · rw [if_neg hq]
      simp (config := {maxSteps := 1000000}) (disch := first | omega | assumption | (simp only [qm_wid_n, qm_wid_I, qm_wid_L, qm_wid_P]; omega) | (simp only [qm_wid_n, qm_wid_I, qm_wid_L, qm_wid_P]; done) | fail) only [b_M_falls_5, b_M_falls_6, b_M_falls_7, qy0, qy1, qy2, qy3, qe, qcn, qin, ↓reduceIte, Nat.reduceEqDiff, Nat.reduceLeDiff, Bool.false_eq_true, Nat.reduceAdd, Nat.reduceSub, Nat.reduceMul, Nat.reduceLT, or_self, or_false, false_or, or_true, true_or, and_self, and_true, true_and, and_false, false_and, not_true_eq_false, not_false_eq_true, hb, h7, hfl, hq]) 0 (x, qU, qU) (Nat.zero_le _) ⟨⟨0, RT_0 ok hR⟩, fp_refl _ _⟩
  dsimp only at q1 q2
  refine ⟨uI x' 9 0 2 (nI 0), e.trans ?_, q1.2, fp_uI (by unfold MP; omega) q2 _ _⟩
  simp (config := {maxSteps := 1000000}) (disch := first | omega | assumption | (simp only [qm_wid_n, qm_wid_I, qm_wid_L, qm_wid_P]; omega) | (simp only [qm_wid_n, qm_wid_I, qm_wid_L, qm_wid_P]; done) | fail) only [b_M_falls_3, b_M_falls_8, qy0, qy1, qy2, qy3, qe, qcn, qin, ↓reduceIte, Nat.reduceEqDiff, Nat.reduceLeDiff, Bool.false_eq_true, Nat.reduceAdd, Nat.reduceSub, Nat.reduceMul, Nat.reduceLT, or_self, or_false, false_or, or_true, true_or, and_self, and_true, true_and, and_false, false_and, not_true_eq_false, not_false_eq_true, r_tries]
theorem c_falls_s (d : Nat) {s : qm_Hp} {sd ct n : Nat} (h1 : sd ≤ 9999) (h2 : 1 ≤ ct ∧ ct ≤ 20) (h3 : 1 ≤ n ∧ n ≤ 40) (h4 : sd + ct ≤ 10000) (hp : qm_evM (d + 39) jC_canPass [qP 1 0, qI (nI n)] s = some (some (qI (nI 1)), s)) : qm_evM (d + 40) jC_falls [qP 1 0, qI (nI sd), qI (nI ct), qI (nI n)] s = qm_evB (d + 40) jC_falls 5 [qP 1 0, qI (nI sd), qI (nI ct), qI (nI n), qI (nI 1), qI (nI 0), qI (nI 0)] [] s := by
  simp (config := {maxSteps := 1000000}) (disch := first | omega | assumption | (simp only [qm_wid_n, qm_wid_I, qm_wid_L, qm_wid_P]; omega) | (simp only [qm_wid_n, qm_wid_I, qm_wid_L, qm_wid_P]; done) | fail) only [e_C_falls, b_C_falls_0, b_C_falls_2, b_C_falls_4, qy0, qy1, qy2, qy3, qe, qcn, qin, ↓reduceIte, Nat.reduceEqDiff, Nat.reduceLeDiff, Bool.false_eq_true, Nat.reduceAdd, Nat.reduceSub, Nat.reduceMul, Nat.reduceLT, or_self, or_false, false_or, or_true, true_or, and_self, and_true, true_and, and_false, false_and, not_true_eq_false, not_false_eq_true, t_within, hp]
theorem c_falls_n (d : Nat) {s : qm_Hp} {a b c : Int32} (h : ¬ ((nI 0 ≤ a ∧ a ≤ nI 9999) ∧ (nI 1 ≤ b ∧ b ≤ nI 20) ∧ (nI 1 ≤ c ∧ c ≤ nI 40))) : qm_evM (d + 40) jC_falls [qP 1 0, qI a, qI b, qI c] s = some (some (qI N1), s) := by
  by_cases h1 : nI 0 ≤ a ∧ a ≤ nI 9999
  · by_cases h2 : nI 1 ≤ b ∧ b ≤ nI 20
    · have h3 : ¬ (nI 1 ≤ c ∧ c ≤ nI 40) := fun g => h ⟨h1, h2, g⟩
      simp (config := {maxSteps := 1000000}) (disch := first | omega | assumption | (simp only [qm_wid_n, qm_wid_I, qm_wid_L, qm_wid_P]; omega) | (simp only [qm_wid_n, qm_wid_I, qm_wid_L, qm_wid_P]; done) | fail) only [e_C_falls, b_C_falls_0, b_C_falls_1, b_C_falls_2, b_C_falls_3, qy0, qy1, qy2, qy3, qe, qcn, qin, ↓reduceIte, Nat.reduceEqDiff, Nat.reduceLeDiff, Bool.false_eq_true, Nat.reduceAdd, Nat.reduceSub, Nat.reduceMul, Nat.reduceLT, or_self, or_false, false_or, or_true, true_or, and_self, and_true, true_and, and_false, false_and, not_true_eq_false, not_false_eq_true, t_within, h1, h2, h3]
    · simp (config := {maxSteps := 1000000}) (disch := first | omega | assumption | (simp only [qm_wid_n, qm_wid_I, qm_wid_L, qm_wid_P]; omega) | (simp only [qm_wid_n, qm_wid_I, qm_wid_L, qm_wid_P]; done) | fail) only [e_C_falls, b_C_falls_0, b_C_falls_1, b_C_falls_2, b_C_falls_3, qy0, qy1, qy2, qy3, qe, qcn, qin, ↓reduceIte, Nat.reduceEqDiff, Nat.reduceLeDiff, Bool.false_eq_true, Nat.reduceAdd, Nat.reduceSub, Nat.reduceMul, Nat.reduceLT, or_self, or_false, false_or, or_true, true_or, and_self, and_true, true_and, and_false, false_and, not_true_eq_false, not_false_eq_true, t_within, h1, h2]
  · simp (config := {maxSteps := 1000000}) (disch := first | omega | assumption | (simp only [qm_wid_n, qm_wid_I, qm_wid_L, qm_wid_P]; omega) | (simp only [qm_wid_n, qm_wid_I, qm_wid_L, qm_wid_P]; done) | fail) only [e_C_falls, b_C_falls_0, b_C_falls_1, b_C_falls_2, b_C_falls_3, qy0, qy1, qy2, qy3, qe, qcn, qin, ↓reduceIte, Nat.reduceEqDiff, Nat.reduceLeDiff, Bool.false_eq_true, Nat.reduceAdd, Nat.reduceSub, Nat.reduceMul, Nat.reduceLT, or_self, or_false, false_or, or_true, true_or, and_self, and_true, true_and, and_false, false_and, not_true_eq_false, not_false_eq_true, t_within, h1]
theorem c_falls_m (d : Nat) {s : qm_Hp} {sd ct n : Nat} (h1 : sd ≤ 9999) (h2 : 1 ≤ ct ∧ ct ≤ 20) (h3 : 1 ≤ n ∧ n ≤ 40) (h : ¬ sd + ct ≤ 10000 ∨ qm_evM (d + 39) jC_canPass [qP 1 0, qI (nI n)] s = some (some (qI (nI 0)), s)) : qm_evM (d + 40) jC_falls [qP 1 0, qI (nI sd), qI (nI ct), qI (nI n)] s = some (some (qI N1), s) := by
  by_cases h4 : sd + ct ≤ 10000
  · have hp := h.resolve_left (fun g => g h4)
    simp (config := {maxSteps := 1000000}) (disch := first | omega | assumption | (simp only [qm_wid_n, qm_wid_I, qm_wid_L, qm_wid_P]; omega) | (simp only [qm_wid_n, qm_wid_I, qm_wid_L, qm_wid_P]; done) | fail) only [e_C_falls, b_C_falls_0, b_C_falls_2, b_C_falls_3, qy0, qy1, qy2, qy3, qe, qcn, qin, ↓reduceIte, Nat.reduceEqDiff, Nat.reduceLeDiff, Bool.false_eq_true, Nat.reduceAdd, Nat.reduceSub, Nat.reduceMul, Nat.reduceLT, or_self, or_false, false_or, or_true, true_or, and_self, and_true, true_and, and_false, false_and, not_true_eq_false, not_false_eq_true, t_within, hp]
  · simp (config := {maxSteps := 1000000}) (disch := first | omega | assumption | (simp only [qm_wid_n, qm_wid_I, qm_wid_L, qm_wid_P]; omega) | (simp only [qm_wid_n, qm_wid_I, qm_wid_L, qm_wid_P]; done) | fail) only [e_C_falls, b_C_falls_0, b_C_falls_2, b_C_falls_3, qy0, qy1, qy2, qy3, qe, qcn, qin, ↓reduceIte, Nat.reduceEqDiff, Nat.reduceLeDiff, Bool.false_eq_true, Nat.reduceAdd, Nat.reduceSub, Nat.reduceMul, Nat.reduceLT, or_self, or_false, false_or, or_true, true_or, and_self, and_true, true_and, and_false, false_and, not_true_eq_false, not_false_eq_true, t_within]
theorem r_falls_s (d : Nat) {s : qm_Hp} {sd ct n : Nat} (h1 : sd ≤ 9999) (h2 : 1 ≤ ct ∧ ct ≤ 20) (h3 : 1 ≤ n ∧ n ≤ 40) (h4 : sd + ct ≤ 10000) (hp : qm_evM (d + 39) jM_isTried [qP 9 0, qI (nI n), qI (nI 40)] s = some (some (qI (nI 1)), s)) : qm_evM (d + 40) jM_falls [qP 9 0, qI (nI sd), qI (nI ct), qI (nI n)] s = qm_evB (d + 40) jM_falls 3 [qP 9 0, qI (nI sd), qI (nI ct), qI (nI n), qI (nI 0), qI (nI 0), qU, qU] [] s := by
  simp (config := {maxSteps := 1000000}) (disch := first | omega | assumption | (simp only [qm_wid_n, qm_wid_I, qm_wid_L, qm_wid_P]; omega) | (simp only [qm_wid_n, qm_wid_I, qm_wid_L, qm_wid_P]; done) | fail) only [e_M_falls, b_M_falls_0, b_M_falls_2, qy0, qy1, qy2, qy3, qe, qcn, qin, ↓reduceIte, Nat.reduceEqDiff, Nat.reduceLeDiff, Bool.false_eq_true, Nat.reduceAdd, Nat.reduceSub, Nat.reduceMul, Nat.reduceLT, or_self, or_false, false_or, or_true, true_or, and_self, and_true, true_and, and_false, false_and, not_true_eq_false, not_false_eq_true, t_isIn, hp]
theorem r_falls_n (d : Nat) {s : qm_Hp} {a b c : Int32} (h : ¬ ((nI 0 ≤ a ∧ a ≤ nI 9999) ∧ (nI 1 ≤ b ∧ b ≤ nI 20) ∧ (nI 1 ≤ c ∧ c ≤ nI 40))) : qm_evM (d + 40) jM_falls [qP 9 0, qI a, qI b, qI c] s = some (some (qI N1), s) := by
  by_cases h1 : nI 0 ≤ a ∧ a ≤ nI 9999
  · by_cases h2 : nI 1 ≤ b ∧ b ≤ nI 20
    · have h3 : ¬ (nI 1 ≤ c ∧ c ≤ nI 40) := fun g => h ⟨h1, h2, g⟩
      obtain ⟨sd, _, hsd, rfl⟩ := inr_rg (by decide) h1.1 h1.2 (by decide)
      obtain ⟨ct, _, hct, rfl⟩ := inr_rg (by decide) h2.1 h2.2 (by decide)
      by_cases h4 : sd + ct ≤ 10000
      · simp (config := {maxSteps := 1000000}) (disch := first | omega | assumption | (simp only [qm_wid_n, qm_wid_I, qm_wid_L, qm_wid_P]; omega) | (simp only [qm_wid_n, qm_wid_I, qm_wid_L, qm_wid_P]; done) | fail) only [e_M_falls, b_M_falls_0, b_M_falls_1, qy0, qy1, qy2, qy3, qe, qcn, qin, ↓reduceIte, Nat.reduceEqDiff, Nat.reduceLeDiff, Bool.false_eq_true, Nat.reduceAdd, Nat.reduceSub, Nat.reduceMul, Nat.reduceLT, or_self, or_false, false_or, or_true, true_or, and_self, and_true, true_and, and_false, false_and, not_true_eq_false, not_false_eq_true, t_isIn, h3]
      · simp (config := {maxSteps := 1000000}) (disch := first | omega | assumption | (simp only [qm_wid_n, qm_wid_I, qm_wid_L, qm_wid_P]; omega) | (simp only [qm_wid_n, qm_wid_I, qm_wid_L, qm_wid_P]; done) | fail) only [e_M_falls, b_M_falls_0, b_M_falls_1, qy0, qy1, qy2, qy3, qe, qcn, qin, ↓reduceIte, Nat.reduceEqDiff, Nat.reduceLeDiff, Bool.false_eq_true, Nat.reduceAdd, Nat.reduceSub, Nat.reduceMul, Nat.reduceLT, or_self, or_false, false_or, or_true, true_or, and_self, and_true, true_and, and_false, false_and, not_true_eq_false, not_false_eq_true, t_isIn]
    · simp (config := {maxSteps := 1000000}) (disch := first | omega | assumption | (simp only [qm_wid_n, qm_wid_I, qm_wid_L, qm_wid_P]; omega) | (simp only [qm_wid_n, qm_wid_I, qm_wid_L, qm_wid_P]; done) | fail) only [e_M_falls, b_M_falls_0, b_M_falls_1, qy0, qy1, qy2, qy3, qe, qcn, qin, ↓reduceIte, Nat.reduceEqDiff, Nat.reduceLeDiff, Bool.false_eq_true, Nat.reduceAdd, Nat.reduceSub, Nat.reduceMul, Nat.reduceLT, or_self, or_false, false_or, or_true, true_or, and_self, and_true, true_and, and_false, false_and, not_true_eq_false, not_false_eq_true, t_isIn, h1, h2]
  · simp (config := {maxSteps := 1000000}) (disch := first | omega | assumption | (simp only [qm_wid_n, qm_wid_I, qm_wid_L, qm_wid_P]; omega) | (simp only [qm_wid_n, qm_wid_I, qm_wid_L, qm_wid_P]; done) | fail) only [e_M_falls, b_M_falls_0, b_M_falls_1, qy0, qy1, qy2, qy3, qe, qcn, qin, ↓reduceIte, Nat.reduceEqDiff, Nat.reduceLeDiff, Bool.false_eq_true, Nat.reduceAdd, Nat.reduceSub, Nat.reduceMul, Nat.reduceLT, or_self, or_false, false_or, or_true, true_or, and_self, and_true, true_and, and_false, false_and, not_true_eq_false, not_false_eq_true, t_isIn, h1]
theorem r_falls_m (d : Nat) {s : qm_Hp} {sd ct n : Nat} (h1 : sd ≤ 9999) (h2 : 1 ≤ ct ∧ ct ≤ 20) (h3 : 1 ≤ n ∧ n ≤ 40) (h : ¬ sd + ct ≤ 10000 ∨ qm_evM (d + 39) jM_isTried [qP 9 0, qI (nI n), qI (nI 40)] s = some (some (qI (nI 0)), s)) : qm_evM (d + 40) jM_falls [qP 9 0, qI (nI sd), qI (nI ct), qI (nI n)] s = some (some (qI N1), s) := by
  by_cases h4 : sd + ct ≤ 10000
  · have hp := h.resolve_left (fun g => g h4)
    simp (config := {maxSteps := 1000000}) (disch := first | omega | assumption | (simp only [qm_wid_n, qm_wid_I, qm_wid_L, qm_wid_P]; omega) | (simp only [qm_wid_n, qm_wid_I, qm_wid_L, qm_wid_P]; done) | fail) only [e_M_falls, b_M_falls_0, b_M_falls_1, qy0, qy1, qy2, qy3, qe, qcn, qin, ↓reduceIte, Nat.reduceEqDiff, Nat.reduceLeDiff, Bool.false_eq_true, Nat.reduceAdd, Nat.reduceSub, Nat.reduceMul, Nat.reduceLT, or_self, or_false, false_or, or_true, true_or, and_self, and_true, true_and, and_false, false_and, not_true_eq_false, not_false_eq_true, t_isIn, hp]
  · simp (config := {maxSteps := 1000000}) (disch := first | omega | assumption | (simp only [qm_wid_n, qm_wid_I, qm_wid_L, qm_wid_P]; omega) | (simp only [qm_wid_n, qm_wid_I, qm_wid_L, qm_wid_P]; done) | fail) only [e_M_falls, b_M_falls_0, b_M_falls_1, qy0, qy1, qy2, qy3, qe, qcn, qin, ↓reduceIte, Nat.reduceEqDiff, Nat.reduceLeDiff, Bool.false_eq_true, Nat.reduceAdd, Nat.reduceSub, Nat.reduceMul, Nat.reduceLT, or_self, or_false, false_or, or_true, true_or, and_self, and_true, true_and, and_false, false_and, not_true_eq_false, not_false_eq_true, t_isIn]
theorem st_falls (d : Nat) (a b c : Int32) : STP (d + 40) jC_falls jM_falls [qI a, qI b, qI c] := by
  refine stp_rw fun s w y k tp fd fa pl T hC hM ok => ?_
  have okp := ok.1.1
  obtain ⟨nw, _, hnw, enw⟩ := ok.1.2.1
  obtain ⟨wk, _, hwk, ewk⟩ := okp.2.1.1
  have h5 : zI s 2 0 5 = nI nw := hC.1.2.1.1.trans enw
  have h8 : zI s 3 0 8 = nI wk := hC.1.1.2.1.1.trans ewk
  have m1 : ∀ s1, RM s1 w y k tp fd fa pl T → zI s1 61 0 1 = nI nw := fun s1 g => g.2.1.2.1.1.trans enw
  have m0 : ∀ s1, RM s1 w y k tp fd fa pl T → zI s1 61 0 0 = nI wk := fun s1 g => g.2.1.1.2.1.1.trans ewk
  by_cases hg : (nI 0 ≤ a ∧ a ≤ nI 9999) ∧ (nI 1 ≤ b ∧ b ≤ nI 20) ∧ (nI 1 ≤ c ∧ c ≤ nI 40)
  · obtain ⟨sd, _, hsd, rfl⟩ := inr_rg (by decide) hg.1.1 hg.1.2 (by decide)
    obtain ⟨ct, c1, c2, rfl⟩ := inr_rg (by decide) hg.2.1.1 hg.2.1.2 (by decide)
    obtain ⟨n, n1, n2, rfl⟩ := inr_rg (by decide) hg.2.2.1 hg.2.2.2 (by decide)
    have hcp := t_canPass (d + 39) h5 h8 hnw hwk n n2
    by_cases hp : 0 < nw ∧ wk + n ≤ 399
    · rw [if_pos hp] at hcp
      have mt : ∀ s1, RM s1 w y k tp fd fa pl T → _ := fun s1 g => r_isTried_y (d + 38) (s := s1) (M := 40) (m1 s1 g) (m0 s1 g) hnw (by decide) n2 (Or.inr hp.1) hp.2
      by_cases h4 : sd + ct ≤ 10000
      · obtain ⟨x, e1, e2, e3⟩ := c_falls_l (d + 32) ok hC ewk hp.2 n2 c2 h4 ⟨hp.1, hnw⟩ enw
        refine ⟨_, y, k, tp, fd, fa, pl, T, ok, ⟨x, (c_falls_s d hsd ⟨c1, c2⟩ ⟨n1, n2⟩ h4 hcp).trans e1, PP_CP e3, e2⟩, fun s1 h1 => ?_⟩
        obtain ⟨x', b1, b2, b3⟩ := r_falls_l (d + 32) ok h1 ewk hp.2 n2 c2 h4 ⟨hp.1, hnw⟩ enw
        exact ⟨x', (r_falls_s d hsd ⟨c1, c2⟩ ⟨n1, n2⟩ h4 (mt s1 h1)).trans b1, b3, b2⟩
      · exact nochg ok hC N1 (c_falls_m d hsd ⟨c1, c2⟩ ⟨n1, n2⟩ (Or.inl h4)) (fun s1 h1 => r_falls_m d hsd ⟨c1, c2⟩ ⟨n1, n2⟩ (Or.inl h4))
    · rw [if_neg hp] at hcp
      have mt : ∀ s1, RM s1 w y k tp fd fa pl T → _ := fun s1 g => r_isTried_n (d + 38) (s := s1) (x := nI n) (M := 40) (m1 s1 g) (m0 s1 g) hnw hwk (by decide) (fun ⟨m', z1, z2, z3, z4⟩ => by
        have e : n = m' := (nI_eq (by omega) (by omega)).mp z1
        exact hp ⟨by omega, by omega⟩)
      exact nochg ok hC N1 (c_falls_m d hsd ⟨c1, c2⟩ ⟨n1, n2⟩ (Or.inr hcp)) (fun s1 h1 => r_falls_m d hsd ⟨c1, c2⟩ ⟨n1, n2⟩ (Or.inr (mt s1 h1)))
  · exact nochg ok hC N1 (c_falls_n d hg) (fun s1 h1 => r_falls_n d hg)
