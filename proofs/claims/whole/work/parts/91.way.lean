/-! the call way -/
def vway (y : VW) (m : Nat) : VW := fun a j => if a = 5 then (if m % 2 = 0 then nI 1 else nI 0) else if a = 0 ∧ j = 3 then nI (m / 2 % 2) else if a = 0 ∧ j = 4 then nI (m / 4) else y a j
theorem vway_ne {y : VW} {m a j : Nat} (h1 : a ≠ 5) (h2 : ¬ (a = 0 ∧ j = 3)) (h3 : ¬ (a = 0 ∧ j = 4)) : vway y m a j = y a j := by unfold vway; rw [if_neg h1, if_neg h2, if_neg h3]
theorem cn_way (y : VW) (m c : Nat) : cn (vway y m) c = cn y c := by unfold cn; rw [vway_ne (by omega) (by omega) (by omega)]
theorem OKP_way {w m : Nat} {y : VW} (ok : OKP w y) (hm : m < 8) : OKP w (vway y m) := by
  refine ⟨ok.1, ⟨?_, ?_, ?_, ⟨m / 2 % 2, by omega, by omega, rfl⟩, ⟨m / 4, by omega, by omega, rfl⟩⟩, fun c hc => ?_, fun c z hc hz => ?_⟩
  · rw [vway_ne (by omega) (by omega) (by omega)]; exact ok.2.1.1
  · rw [vway_ne (by omega) (by omega) (by omega)]; exact ok.2.1.2.1
  · rw [vway_ne (by omega) (by omega) (by omega)]; exact ok.2.1.2.2.1
  · rw [cn_way, vway_ne (by omega) (by omega) (by omega)]; exact ok.2.2.1 c hc
  · rw [cn_way] at hz
    have q := ok.2.2.2 c z hc hz
    unfold OKs at *
    rw [vway_ne (a := 2) (by omega) (by omega) (by omega), vway_ne (a := 3) (by omega) (by omega) (by omega), vway_ne (a := 4) (by omega) (by omega) (by omega), vway_ne (a := 6) (by omega) (by omega) (by omega), vway_ne (a := 7) (by omega) (by omega) (by omega)]
    refine ⟨q.1, q.2.1, q.2.2.1, ?_, q.2.2.2.2⟩
    show rg (if m % 2 = 0 then nI 1 else nI 0) 0 1
    by_cases h : m % 2 = 0
    · rw [if_pos h]; exact ⟨1, by omega, by omega, rfl⟩
    · rw [if_neg h]; exact ⟨0, by omega, by omega, rfl⟩
def hp_tb (s : qm_Hp) (p : Nat) (v : Int32) : Nat → qm_Hp
  | 0 => s
  | n + 1 => uI (hp_tb s p v n) 14 p n v
theorem tb_e (s : qm_Hp) (p : Nat) (v : Int32) : ∀ n k i j, zI (hp_tb s p v n) k i j = if k = 14 ∧ i = p ∧ j < n then v else zI s k i j
  | 0, k, i, j => by rw [if_neg (by omega)]; rfl
  | n + 1, k, i, j => by
    show zI (uI (hp_tb s p v n) 14 p n v) k i j = _
    rw [zI_uI, tb_e s p v n]
    by_cases h : k = 14 ∧ i = p ∧ j = n
    · rw [if_pos h, if_pos (by omega)]
    · rw [if_neg h]
      by_cases h2 : k = 14 ∧ i = p ∧ j < n
      · rw [if_pos h2, if_pos (by omega)]
      · rw [if_neg h2, if_neg (by omega)]
theorem tb_fp (s : qm_Hp) (p : Nat) (v : Int32) : ∀ n, fp (PP p) s (hp_tb s p v n)
  | 0 => fp_refl _ _
  | n + 1 => fp_uI (k := 14) (i := p) (by unfold PP; omega) (tb_fp s p v n) _ _
theorem c_turn (d : Nat) (s : qm_Hp) (p : Nat) (v : Int32) : qm_evM d jP_turnBark [qP 3 p, qI v] s = some (none, hp_tb s p v 48) := by
  have hl := q_up (w := 48) (fun k => qm_evB d jP_turnBark 1 [qP 3 p, qI v, qI (nI k)] [] (hp_tb s p v k)) rfl (fun k hk => by
    refine (b_P_turnBark_1 ..).trans ?_
    simp (config := {maxSteps := 1000000}) (disch := first | omega | assumption | (simp only [qm_wid_n, qm_wid_I, qm_wid_L, qm_wid_P] <;> omega)) only [qy0, qy1, qy2, qy3, qe, qcn, qin, ↓reduceIte, Nat.reduceEqDiff, Nat.reduceLeDiff, Bool.false_eq_true, Nat.reduceAdd, Nat.reduceSub, Nat.reduceMul, Nat.reduceLT, or_self, or_false, false_or, or_true, true_or, and_self, and_true, true_and, and_false, false_and, not_true_eq_false, not_false_eq_true, hp_tb]) 0 (Nat.zero_le _)
  simp (config := {maxSteps := 1000000}) (disch := first | omega | assumption | (simp only [qm_wid_n, qm_wid_I, qm_wid_L, qm_wid_P] <;> omega)) only [e_P_turnBark, b_P_turnBark_0, qy0, qy1, qy2, qy3, qe, qcn, qin, ↓reduceIte, Nat.reduceEqDiff, Nat.reduceLeDiff, Bool.false_eq_true, Nat.reduceAdd, Nat.reduceSub, Nat.reduceMul, Nat.reduceLT, or_self, or_false, false_or, or_true, true_or, and_self, and_true, true_and, and_false, false_and, not_true_eq_false, not_false_eq_true]
  refine hl.trans ?_
  simp (config := {maxSteps := 1000000}) (disch := first | omega | assumption | (simp only [qm_wid_n, qm_wid_I, qm_wid_L, qm_wid_P] <;> omega)) only [b_P_turnBark_1, b_P_turnBark_2, qy0, qy1, qy2, qy3, qe, qcn, qin, ↓reduceIte, Nat.reduceEqDiff, Nat.reduceLeDiff, Bool.false_eq_true, Nat.reduceAdd, Nat.reduceSub, Nat.reduceMul, Nat.reduceLT, or_self, or_false, false_or, or_true, true_or, and_self, and_true, true_and, and_false, false_and, not_true_eq_false, not_false_eq_true]
/-- the tried pile of a way -/
def hwy (s : qm_Hp) (m : Nat) : qm_Hp := uI (uI (hp_tb (hp_bec s 2 0) 2 (if m % 2 = 0 then nI 1 else nI 0) 48) 3 2 11 (nI (m / 2 % 2))) 3 2 12 (nI (m / 4))
theorem hwy_fp (s : qm_Hp) (m : Nat) : fp (PP 2) s (hwy s m) := fp_uI (by unfold PP; omega) (fp_uI (by unfold PP; omega) (fp_trans (bec_fp s 2 0) (tb_fp _ 2 _ 48)) _ _) _ _
theorem PC_way {s : qm_Hp} {w m : Nat} {y : VW} (h : PC s 0 w y) (ok : OKP w y) (hw : zI s 3 2 0 = nI w) : PC (hwy s m) 2 w (vway y m) := by
  have h6 := ok.1.2
  have hb := PC_bec h ok (p := 2) (by decide) hw
  have e3 : ∀ j, j ≠ 11 → j ≠ 12 → zI (hwy s m) 3 2 j = zI (hp_bec s 2 0) 3 2 j := fun j h1 h2 => by
    unfold hwy
    rw [zI_uI, if_neg (by omega), zI_uI, if_neg (by omega), tb_e, if_neg (by omega)]
  refine ⟨(e3 0 (by omega) (by omega)).trans hb.1, ⟨?_, ?_, ?_, ?_, ?_⟩, fun c hc => ?_, fun f c z hf hc hz => ?_⟩
  · rw [e3 _ (by omega) (by omega), vway_ne (by omega) (by omega) (by omega)]; exact hb.2.1.1
  · rw [e3 _ (by omega) (by omega), vway_ne (by omega) (by omega) (by omega)]; exact hb.2.1.2.1
  · rw [e3 _ (by omega) (by omega), vway_ne (by omega) (by omega) (by omega)]; exact hb.2.1.2.2.1
  · unfold hwy
    rw [zI_uI, if_neg (by omega), zI_uI, if_pos ⟨rfl, rfl, rfl⟩]; rfl
  · unfold hwy
    rw [zI_uI, if_pos ⟨rfl, rfl, rfl⟩]; rfl
  · rw [cn_way]
    unfold hwy
    rw [zI_uI, if_neg (by omega), zI_uI, if_neg (by omega), tb_e, if_neg (by omega)]
    exact hb.2.2.1 c hc
  · rw [cn_way] at hz
    have h8 := OK_n ok hc
    unfold hwy
    rw [zI_uI, if_neg (by omega), zI_uI, if_neg (by omega), tb_e]
    by_cases q : f = 3
    · rw [if_pos (by omega), q]; rfl
    · rw [if_neg (by omega), vway_ne (by omega) (by omega) (by omega)]
      exact hb.2.2.2 f c z hf hc hz
/-- a way's dry splits and the week of its fall -/
def wd (τ : TX) (w : Nat) (y : VW) (n m : Nat) : Int32 := cnt (isd (psq τ w y n (vway y m))) (psq τ w y n (vway y m)) w
def ws (τ : TX) (w : Nat) (y : VW) (n m : Nat) : Int32 := nI (sto τ w y n (vway y m) n)
theorem CP_PP {p : Nat} {s s' : qm_Hp} (h : fp (PP p) s s') : fp CP s s' := PP_CP h
theorem c_tryWay (d : Nat) {x : qm_Hp} {w n m i : Nat} {y k : VW} {tp : Nat → Int32} {fd : Nat} {fa pl : Int32} {T : Nat → TX} (ok : OKG w y k tp fd T) (hR : RC x w y k tp fd fa pl T) (hi : y 0 0 = nI i) (h9 : i + n ≤ 399) (hn : n ≤ 40) (hm : m < 8) : ∃ x', qm_evM (d + 7) jC_tryWay [qP 1 0, qI (nI n), qI (nI m)] x = some (none, x') ∧ RC x' w y k tp fd fa pl T ∧ fp CP x x' ∧ zI x' 54 0 m = wd (rul T y) w y n m ∧ zI x' 55 0 m = ws (rul T y) w y n m ∧ (∀ j, j ≠ m → zI x' 54 0 j = zI x 54 0 j ∧ zI x' 55 0 j = zI x 55 0 j) := by
  have okp := ok.1.1
  have okv : OKP w (vway y m) := OKP_way okp hm
  have hiv : vway y m 0 0 = nI i := by rw [vway_ne (by omega) (by omega) (by omega)]; exact hi
  have hP := PC_way (m := m) hR.1.1 okp (hR.2.2.1 2 (by decide))
  have f0 := hwy_fp x m
  have hR0 := RC_PPp (by decide) f0 hP.1 hR
  obtain ⟨⟨x1, x5⟩, e, q1, q2, q3⟩ := q_lp n (fun j (x : qm_Hp × qm_AV) => qm_evB (d + 7) jC_tryWay 5 [qP 1 0, qI (nI n), qI (nI m), qI (nI (sto (rul T y) w y n (vway y m) j)), qI (nI j), x.2] [] x.1) (fun j x' => RC x'.1 w y k tp fd fa pl T ∧ PC x'.1 2 w (psq (rul T y) w y j (vway y m)) ∧ fp (PP 2) x x'.1) (fun j x' hj hx => by
    obtain ⟨x', x5⟩ := x'
    obtain ⟨i1, i2, i3⟩ := hx
    dsimp only at i1 i2 i3
    obtain ⟨o1, o2⟩ := psq_ok (τ := rul T y) (y := y) okv hiv h9 j (by omega)
    obtain ⟨ep, hp⟩ := pln_e ok.1.2 (k := j) (by omega)
    have hpl : zI x' 25 0 j = nI (pln y j) := (i1.1.2.2.2.1 j (by omega)).trans ep
    obtain ⟨x2, g1, g2, g3, g4⟩ := c_passT d ok i1 (by decide) i2 o1 o2 (by omega) hp
    have f9 : zI x' 3 2 9 = psq (rul T y) w y j (vway y m) 0 1 := i2.2.1.2.1
    have f9' : zI x2 3 2 9 = psq (rul T y) w y (j + 1) (vway y m) 0 1 := g3.2.1.2.1
    refine ⟨(x2, qI (if psq (rul T y) w y j (vway y m) 0 1 = N1 then nI 1 else nI 0)), (b_C_tryWay_5 ..).trans ?_, g2, g3, fp_trans i3 g4⟩
    show _ = qm_evB (d + 7) jC_tryWay 5 [qP 1 0, qI (nI n), qI (nI m), qI (nI (if psq (rul T y) w y j (vway y m) 0 1 = N1 ∧ ¬ psq (rul T y) w y (j + 1) (vway y m) 0 1 = N1 then j + 1 else sto (rul T y) w y n (vway y m) j)), qI (nI (j + 1)), qI (if psq (rul T y) w y j (vway y m) 0 1 = N1 then nI 1 else nI 0)] [] x2
    by_cases h1 : psq (rul T y) w y j (vway y m) 0 1 = N1
    · by_cases h2 : psq (rul T y) w y (j + 1) (vway y m) 0 1 = N1
      · rw [if_neg (fun g => g.2 h2), if_pos h1]
        simp (config := {maxSteps := 1000000}) (disch := first | omega | assumption | (simp only [qm_wid_n, qm_wid_I, qm_wid_L, qm_wid_P] <;> omega)) only [b_C_tryWay_6, b_C_tryWay_7, b_C_tryWay_8, qy0, qy1, qy2, qy3, qe, qcn, qin, ↓reduceIte, Nat.reduceEqDiff, Nat.reduceLeDiff, Bool.false_eq_true, Nat.reduceAdd, Nat.reduceSub, Nat.reduceMul, Nat.reduceLT, or_self, or_false, false_or, or_true, true_or, and_self, and_true, true_and, and_false, false_and, not_true_eq_false, not_false_eq_true, hpl, t_isFallen, f9, f9', h1, h2, g1]
      · rw [if_pos ⟨h1, h2⟩, if_pos h1]
        simp (config := {maxSteps := 1000000}) (disch := first | omega | assumption | (simp only [qm_wid_n, qm_wid_I, qm_wid_L, qm_wid_P] <;> omega)) only [b_C_tryWay_6, b_C_tryWay_7, b_C_tryWay_8, qy0, qy1, qy2, qy3, qe, qcn, qin, ↓reduceIte, Nat.reduceEqDiff, Nat.reduceLeDiff, Bool.false_eq_true, Nat.reduceAdd, Nat.reduceSub, Nat.reduceMul, Nat.reduceLT, or_self, or_false, false_or, or_true, true_or, and_self, and_true, true_and, and_false, false_and, not_true_eq_false, not_false_eq_true, hpl, t_isFallen, f9, f9', h1, h2, g1]
    · rw [if_neg (fun g => h1 g.1), if_neg h1]
      simp (config := {maxSteps := 1000000}) (disch := first | omega | assumption | (simp only [qm_wid_n, qm_wid_I, qm_wid_L, qm_wid_P] <;> omega)) only [b_C_tryWay_6, b_C_tryWay_7, b_C_tryWay_8, qy0, qy1, qy2, qy3, qe, qcn, qin, ↓reduceIte, Nat.reduceEqDiff, Nat.reduceLeDiff, Bool.false_eq_true, Nat.reduceAdd, Nat.reduceSub, Nat.reduceMul, Nat.reduceLT, or_self, or_false, false_or, or_true, true_or, and_self, and_true, true_and, and_false, false_and, not_true_eq_false, not_false_eq_true, hpl, t_isFallen, f9, f9', h1, g1]) 0 (hwy x m, qU) (Nat.zero_le _) ⟨hR0, hP, f0⟩
  dsimp only at q1 q2 q3
  obtain ⟨o1, o2⟩ := psq_ok (τ := rul T y) (y := y) okv hiv h9 n (Nat.le_refl _)
  have hdr := c_dry (d + 5) q2 o1
  have hfp : fp SP x1 (uI (uI x1 54 0 m (wd (rul T y) w y n m)) 55 0 m (ws (rul T y) w y n m)) := fp_uI (by unfold SP; omega) (fp_uI (by unfold SP; omega) (fp_refl _ _) _ _) _ _
  have e54 : ∀ j, zI x1 54 0 j = zI x 54 0 j := fun j => q3.1 54 0 j (by unfold PP; omega)
  have e55 : ∀ j, zI x1 55 0 j = zI x 55 0 j := fun j => q3.1 55 0 j (by unfold PP; omega)
  refine ⟨uI (uI x1 54 0 m (wd (rul T y) w y n m)) 55 0 m (ws (rul T y) w y n m), ?_, RC_SP hfp (fun p hp => by rw [zI_uI, if_neg (by omega), zI_uI, if_neg (by omega)]; exact q1.2.2.1 p hp) q1, fp_trans (PP_CP q3) (fp_uI (by unfold CP; omega) (fp_uI (by unfold CP; omega) (fp_refl _ _) _ _) _ _), by rw [zI_uI, if_neg (by omega), zI_uI, if_pos ⟨rfl, rfl, rfl⟩], by rw [zI_uI, if_pos ⟨rfl, rfl, rfl⟩], fun j hj => ⟨by rw [zI_uI, if_neg (by omega), zI_uI, if_neg (by omega)]; exact e54 j, by rw [zI_uI, if_neg (by omega), zI_uI, if_neg (by omega)]; exact e55 j⟩⟩
  have hbe := s_become (d + 6) x 2 0
  have htu := c_turn (d + 6) (hp_bec x 2 0) 2 (if m % 2 = 0 then nI 1 else nI 0)
  have hfl : zI (hwy x m) 3 2 9 = y 0 1 := by
    have := hP.2.1.2.1
    rw [vway_ne (by omega) (by omega) (by omega)] at this
    exact this
  have hv1 : vway y m 0 1 = y 0 1 := vway_ne (by omega) (by omega) (by omega)
  have e' : qm_evB (d + 7) jC_tryWay 5 [qP 1 0, qI (nI n), qI (nI m), qI (nI (if vway y m 0 1 = N1 then n + 1 else 0)), qI (nI 0), qU] [] (hwy x m) = _ := e
  rw [hv1] at e'
  have r1 : m - m / 2 * 2 = m % 2 := by omega
  have r2 : m / 2 - m / 2 / 2 * 2 = m / 2 % 2 := by omega
  have hwe : ∀ s', uI (uI (hp_tb (hp_bec s' 2 0) 2 (if m % 2 = 0 then nI 1 else nI 0) 48) 3 2 11 (nI (m / 2 % 2))) 3 2 12 (nI (m / 4)) = hwy s' m := fun _ => rfl
  have key : qm_evM (d + 7) jC_tryWay [qP 1 0, qI (nI n), qI (nI m)] x = qm_evB (d + 7) jC_tryWay 5 [qP 1 0, qI (nI n), qI (nI m), qI (nI (if y 0 1 = N1 then n + 1 else 0)), qI (nI 0), qU] [] (hwy x m) := by
    by_cases hb : m % 2 = 0
    · rw [if_pos hb] at htu
      have hwe' := hwe x
      rw [if_pos hb] at hwe'
      by_cases h : y 0 1 = N1
      · rw [h] at hfl
        simp (config := {maxSteps := 1000000}) (disch := first | omega | assumption | (simp only [qm_wid_n, qm_wid_I, qm_wid_L, qm_wid_P] <;> omega)) only [e_C_tryWay, b_C_tryWay_0, b_C_tryWay_1, b_C_tryWay_2, b_C_tryWay_3, b_C_tryWay_4, qy0, qy1, qy2, qy3, qe, qcn, qin, ↓reduceIte, Nat.reduceEqDiff, Nat.reduceLeDiff, Bool.false_eq_true, Nat.reduceAdd, Nat.reduceSub, Nat.reduceMul, Nat.reduceLT, or_self, or_false, false_or, or_true, true_or, and_self, and_true, true_and, and_false, false_and, not_true_eq_false, not_false_eq_true, hbe, htu, r1, r2, hb, hwe', t_isFallen, hfl, h]
      · simp (config := {maxSteps := 1000000}) (disch := first | omega | assumption | (simp only [qm_wid_n, qm_wid_I, qm_wid_L, qm_wid_P] <;> omega)) only [e_C_tryWay, b_C_tryWay_0, b_C_tryWay_1, b_C_tryWay_2, b_C_tryWay_3, b_C_tryWay_4, qy0, qy1, qy2, qy3, qe, qcn, qin, ↓reduceIte, Nat.reduceEqDiff, Nat.reduceLeDiff, Bool.false_eq_true, Nat.reduceAdd, Nat.reduceSub, Nat.reduceMul, Nat.reduceLT, or_self, or_false, false_or, or_true, true_or, and_self, and_true, true_and, and_false, false_and, not_true_eq_false, not_false_eq_true, hbe, htu, r1, r2, hb, hwe', t_isFallen, hfl, h]
    · rw [if_neg hb] at htu
      have hwe' := hwe x
      rw [if_neg hb] at hwe'
      by_cases h : y 0 1 = N1
      · rw [h] at hfl
        simp (config := {maxSteps := 1000000}) (disch := first | omega | assumption | (simp only [qm_wid_n, qm_wid_I, qm_wid_L, qm_wid_P] <;> omega)) only [e_C_tryWay, b_C_tryWay_0, b_C_tryWay_1, b_C_tryWay_2, b_C_tryWay_3, b_C_tryWay_4, qy0, qy1, qy2, qy3, qe, qcn, qin, ↓reduceIte, Nat.reduceEqDiff, Nat.reduceLeDiff, Bool.false_eq_true, Nat.reduceAdd, Nat.reduceSub, Nat.reduceMul, Nat.reduceLT, or_self, or_false, false_or, or_true, true_or, and_self, and_true, true_and, and_false, false_and, not_true_eq_false, not_false_eq_true, hbe, htu, r1, r2, hb, hwe', t_isFallen, hfl, h]
      · simp (config := {maxSteps := 1000000}) (disch := first | omega | assumption | (simp only [qm_wid_n, qm_wid_I, qm_wid_L, qm_wid_P] <;> omega)) only [e_C_tryWay, b_C_tryWay_0, b_C_tryWay_1, b_C_tryWay_2, b_C_tryWay_3, b_C_tryWay_4, qy0, qy1, qy2, qy3, qe, qcn, qin, ↓reduceIte, Nat.reduceEqDiff, Nat.reduceLeDiff, Bool.false_eq_true, Nat.reduceAdd, Nat.reduceSub, Nat.reduceMul, Nat.reduceLT, or_self, or_false, false_or, or_true, true_or, and_self, and_true, true_and, and_false, false_and, not_true_eq_false, not_false_eq_true, hbe, htu, r1, r2, hb, hwe', t_isFallen, hfl, h]
  rw [key]
  refine e'.trans ?_
  unfold wd ws
  simp (config := {maxSteps := 1000000}) (disch := first | omega | assumption | (simp only [qm_wid_n, qm_wid_I, qm_wid_L, qm_wid_P] <;> omega)) only [b_C_tryWay_5, b_C_tryWay_9, qy0, qy1, qy2, qy3, qe, qcn, qin, ↓reduceIte, Nat.reduceEqDiff, Nat.reduceLeDiff, Bool.false_eq_true, Nat.reduceAdd, Nat.reduceSub, Nat.reduceMul, Nat.reduceLT, or_self, or_false, false_or, or_true, true_or, and_self, and_true, true_and, and_false, false_and, not_true_eq_false, not_false_eq_true, hdr]
/-- bark so far -/
def vbk (y : VW) (v : Int32) (m : Nat) : VW := fun a j => if a = 5 ∧ j < m then v else y a j
theorem vbk_ne {y : VW} {v : Int32} {m a j : Nat} (h : a ≠ 5 ∨ m ≤ j) : vbk y v m a j = y a j := if_neg (fun z => by omega)
theorem cn_bk (y : VW) (v : Int32) (m c : Nat) : cn (vbk y v m) c = cn y c := by unfold cn; rw [vbk_ne (Or.inl (by decide))]
theorem vbk_s (y : VW) (v : Int32) (m : Nat) : vset (vbk y v m) 5 m v = vbk y v (m + 1) := by
  funext a j
  unfold vset vbk
  by_cases h : a = 5 ∧ j = m
  · rw [if_pos h, if_pos (by omega)]
  · rw [if_neg h]
    by_cases h2 : a = 5 ∧ j < m
    · rw [if_pos h2, if_pos (by omega)]
    · rw [if_neg h2, if_neg (by omega)]
theorem vbk_ok {w : Nat} {y : VW} {v : Int32} (ok : OKP w y) (hv : rg v 0 1) (m : Nat) : OKP w (vbk y v m) := by
  have e : ∀ a j, a ≠ 5 → vbk y v m a j = y a j := fun a j h => vbk_ne (Or.inl h)
  refine ⟨ok.1, ?_, fun c hc => ?_, fun c z hc hz => ?_⟩
  · simp only [e 0 _ (by decide : (0 : Nat) ≠ 5)]; exact ok.2.1
  · rw [cn_bk, e 1 c (by decide)]; exact ok.2.2.1 c hc
  · rw [cn_bk] at hz
    have q := ok.2.2.2 c z hc hz
    unfold OKs at *
    rw [e 2 _ (by decide), e 3 _ (by decide), e 4 _ (by decide), e 6 _ (by decide), e 7 _ (by decide)]
    refine ⟨q.1, q.2.1, q.2.2.1, ?_, q.2.2.2.2⟩
    unfold vbk
    by_cases h : (5 : Nat) = 5 ∧ 8 * c + z < m
    · rw [if_pos h]; exact hv
    · rw [if_neg h]; exact q.2.2.2.1
theorem vbk_col {w : Nat} {y : VW} {v : Int32} (ok : OKP w y) (c : Nat) (hc : c < w) : vlike w (vbk y v (8 * c + cn y c)) (vbk y v (8 * (c + 1))) := by
  refine ⟨fun i hi => by rw [vbk_ne (Or.inl (by omega)), vbk_ne (Or.inl (by omega))], fun c' hc' => by rw [vbk_ne (Or.inl (by omega)), vbk_ne (Or.inl (by omega))], fun f c' z' hf hc' hz' => ?_⟩
  rw [cn_bk] at hz'
  have h8 := OK_n ok hc'
  have h8c := OK_n ok hc
  unfold vbk
  by_cases q : 2 + f = 5 ∧ 8 * c' + z' < 8 * c + cn y c
  · rw [if_pos q, if_pos (by omega)]
  · rw [if_neg q]
    by_cases q2 : 2 + f = 5 ∧ 8 * c' + z' < 8 * (c + 1)
    · refine absurd q2 (fun g => q ⟨g.1, ?_⟩)
      by_cases e : c' = c
      · subst e; omega
      · omega
    · rw [if_neg q2]
theorem way_like {w : Nat} {y : VW} (ok : OKP w y) (m : Nat) : vlike w (vset (vset (vbk y (if m % 2 = 0 then nI 1 else nI 0) (8 * w)) 0 3 (nI (m / 2 % 2))) 0 4 (nI (m / 4))) (vway y m) := by
  refine ⟨fun i hi => ?_, fun c hc => ?_, fun f c z hf hc hz => ?_⟩
  · unfold vset vway
    by_cases h4 : i = 4
    · rw [if_neg (by omega), if_neg (by omega), if_pos ⟨rfl, h4⟩, if_pos ⟨rfl, h4⟩]
    · by_cases h3 : i = 3
      · rw [if_neg (by omega), if_pos ⟨rfl, h3⟩, if_neg (by omega), if_pos ⟨rfl, h3⟩]
      · rw [if_neg (by omega), if_neg (by omega), if_neg (by omega), if_neg (by omega), if_neg (by omega), vbk_ne (Or.inl (by omega))]
  · rw [vway_ne (by omega) (by omega) (by omega), vset_ne (by omega), vset_ne (by omega), vbk_ne (Or.inl (by omega))]
  · rw [cn_vset (by decide), cn_vset (by decide), cn_bk] at hz
    have h8 := OK_n ok hc
    rw [vset_ne (by omega), vset_ne (by omega)]
    unfold vway vbk
    generalize (if m % 2 = 0 then nI 1 else nI 0) = v
    by_cases q : 2 + f = 5
    · rw [if_pos q, if_pos ⟨q, by omega⟩]
    · rw [if_neg q, if_neg (by omega), if_neg (by omega), if_neg (fun g => q g.1)]
