/-! the air in the stack; calls: of, stack -/
def tkn (τ : TX) (y : VW) (w c z : Nat) : Nat := (thick τ y w c z).toNatClampNeg
theorem tkn_e {τ : TX} {w : Nat} {y : VW} (ok : OKP w y) {c z : Nat} (hc : c < w) (hz : z < cn y c) : thick τ y w c z = nI (tkn τ y w c z) ∧ 1 ≤ tkn τ y w c z ∧ tkn τ y w c z ≤ 999 := by
  obtain ⟨k, h1, h2, e⟩ := thick_rg (τ := τ) ok hc hz
  unfold tkn
  rw [e, nI_clamp (by omega)]
  exact ⟨rfl, h1, h2⟩
theorem imax {a b : Nat} (ha : a < 2147483648) (hb : b < 2147483648) : (if nI a < nI b then nI b else nI a) = nI (max a b) := by
  by_cases h : a < b
  · rw [if_pos (nI_lt h hb), Nat.max_eq_right (by omega)]
  · rw [if_neg (nI_nlt (by omega) ha), Nat.max_eq_left (by omega)]
theorem cmp0 (x y : Int64) : (lg_cmp x y = nI 0) = (x = y) := propext (lg_cmp_eq x y)
theorem cmpgt (x y : Int64) : (nI 0 < lg_cmp x y) = (y < x) := propext (lg_cmp_gt x y)
abbrev airA : Type := Nat × Nat × Nat
abbrev airB : Type := (Nat × Nat × Nat) × Nat × Nat
def ai0 : Nat → airA → airB := fun _ a => (a, 0, 0)
def aig (τ : TX) (y : VW) (w : Nat) : Nat → Nat → airB → airB := fun c z b => ((b.1.1, b.1.2.1, b.1.2.2 + tkn τ y w c z * tkn τ y w c z), max b.2.1 (tkn τ y w c z), b.2.2 + tkn τ y w c z)
def aif : Nat → airB → airA := fun _ b => (b.1.1 + b.2.1, max b.1.2.1 b.2.2, b.1.2.2)
def airN (τ : TX) (y : VW) (w : Nat) : airA := l3 (cn y) ai0 (aig τ y w) aif w (0, 0, 0)
def airv (τ : TX) (y : VW) (w : Nat) : Int32 := if (airN τ y w).2.1 = 0 then nI 0 else (lN 1000 - lN (785 * (airN τ y w).2.2) / lN ((airN τ y w).1 * (airN τ y w).2.1)).toInt32
def aiI (c : Nat) (a : airA) : Prop := a.1 ≤ 999 * c ∧ a.2.1 ≤ 7992 ∧ (a.2.1 ≠ 0 → a.1 ≠ 0)
def aiJ (τ : TX) (y : VW) (w c z : Nat) (b : airB) : Prop := (b.1.1 ≤ 999 * c ∧ b.1.2.1 ≤ 7992 ∧ (b.1.2.1 ≠ 0 → b.1.1 ≠ 0)) ∧ b.2.1 ≤ 999 ∧ b.2.2 ≤ 999 * z ∧ (b.2.2 ≠ 0 → b.2.1 ≠ 0) ∧ su (fun z => thick τ y w c z) z = nI b.2.2
theorem aij0 {τ : TX} {y : VW} {w c : Nat} {a : airA} (h : aiI c a) : aiJ τ y w c 0 (ai0 c a) :=
  ⟨h, Nat.zero_le _, Nat.zero_le _, fun h => h, rfl⟩
theorem sq_le {t : Nat} (h : t ≤ 999) : t * t ≤ 998001 := Nat.mul_le_mul h h
theorem aijs {τ : TX} {y : VW} {w c z : Nat} {b : airB} (ok : OKP w y) (hc : c < w) (hz : z < cn y c) (h : aiJ τ y w c z b) : aiJ τ y w c (z + 1) (aig τ y w c z b) := by
  obtain ⟨e, t1, t2⟩ := tkn_e (τ := τ) ok hc hz
  obtain ⟨h1, h6, h7, h8, h9⟩ := h
  refine ⟨h1, ?_, ?_, fun _ => ?_, ?_⟩
  · show max b.2.1 (tkn τ y w c z) ≤ 999
    omega
  · show b.2.2 + tkn τ y w c z ≤ 999 * (z + 1)
    omega
  · show max b.2.1 (tkn τ y w c z) ≠ 0
    omega
  · show su (fun z => thick τ y w c z) z + thick τ y w c z = nI (b.2.2 + tkn τ y w c z)
    rw [h9, e, nI_add]
theorem aif_I {τ : TX} {y : VW} {w c : Nat} {b : airB} (ok : OKP w y) (hc : c < w) (h : aiJ τ y w c (cn y c) b) : aiI (c + 1) (aif c b) := by
  have h8 := OK_n ok hc
  obtain ⟨⟨h1, h2, h4⟩, h6, h7, h8, h9⟩ := h
  refine ⟨?_, ?_, ?_⟩
  · show b.1.1 + b.2.1 ≤ 999 * (c + 1)
    omega
  · show max b.1.2.1 b.2.2 ≤ 7992
    omega
  · show max b.1.2.1 b.2.2 ≠ 0 → b.1.1 + b.2.1 ≠ 0
    intro g
    omega
theorem c_air (d : Nat) {s : qm_Hp} {p w : Nat} {y : VW} {τ : TX} (hP : PC s p w y) (ok : OKP w y) (hL : LC s τ) (okt : OKT τ) : ∃ s', qm_evM (d + 5) jL_airIn [qP 5 0, qP 3 p] s = some (some (qI (airv τ y w)), s') ∧ fr [41, 42] s s' := by
  have hw6 := ok.1.2
  obtain ⟨s', ⟨x7, x8, x9, x10⟩, e, hI, hf⟩ := q_l3 w (cn y) ai0 (aig τ y w) aif (fun c a s' => aiI c a ∧ fr [41, 42] s s') (fun c z b s' => aiJ τ y w c z b ∧ fr [41, 42] s s') (fun c a s' (x : qm_AV × qm_AV × qm_AV × qm_AV) => qm_evB (d + 5) jL_airIn 1 [qP 5 0, qP 3 p, qI (nI a.1), qI (nI a.2.1), qL (lN a.2.2), qU, qI (nI c), x.1, x.2.1, x.2.2.1, x.2.2.2] [] s') (fun c z b s' (x : qm_AV) => qm_evB (d + 5) jL_airIn 2 [qP 5 0, qP 3 p, qI (nI b.1.1), qI (nI b.1.2.1), qL (lN b.1.2.2), qU, qI (nI c), qI (nI b.2.1), qI (nI b.2.2), qI (nI z), x] [] s') (fun c a s' x hc hs => by
      have hww := (PC_fr (K := [41, 42]) (by decide) hs.2 hP).1
      refine ⟨⟨x.2.2.2, ?_⟩, aij0 hs.1, hs.2⟩
      refine (b_L_airIn_1 ..).trans ?_
      simp (config := {maxSteps := 1000000}) (disch := first | omega | assumption | (simp only [qm_wid_n, qm_wid_I, qm_wid_L, qm_wid_P] <;> omega)) only [qy0, qy1, qy2, qy3, qe, qcn, qin, ↓reduceIte, Nat.reduceEqDiff, Nat.reduceLeDiff, Bool.false_eq_true, Nat.reduceAdd, Nat.reduceSub, Nat.reduceMul, Nat.reduceLT, or_self, or_false, false_or, or_true, true_or, and_self, and_true, true_and, and_false, false_and, not_true_eq_false, not_false_eq_true, hww, ai0]) (fun c z b s' x hc hz hs => by
      have h8 := OK_n ok hc
      have hPx := PC_fr (K := [41, 42]) (by decide) hs.2 hP
      have hcn := PC_c hPx hc
      obtain ⟨et, t1, t2⟩ := tkn_e (τ := τ) ok hc hz
      have hsq := sq_le t2
      obtain ⟨s2, g1, g2, _⟩ := c_thick d hPx ok (LC_fr (K := [41, 42]) (by decide) hs.2 hL) okt hc hz
      rw [et] at g1
      obtain ⟨⟨i1, i2, i4⟩, i6, i7, i8, i9⟩ := id hs.1
      have em := imax (a := b.2.1) (b := tkn τ y w c z) (by omega) (by omega)
      have el := nI_l (n := tkn τ y w c z * tkn τ y w c z) (by omega)
      refine ⟨s2, qI (nI (tkn τ y w c z)), ?_, aijs ok hc hz hs.1, fr_trans hs.2 g2⟩
      refine (b_L_airIn_2 ..).trans ?_
      simp (config := {maxSteps := 1000000}) (disch := first | omega | assumption | (simp only [qm_wid_n, qm_wid_I, qm_wid_L, qm_wid_P] <;> omega)) only [qy0, qy1, qy2, qy3, qe, qcn, qin, ↓reduceIte, Nat.reduceEqDiff, Nat.reduceLeDiff, Bool.false_eq_true, Nat.reduceAdd, Nat.reduceSub, Nat.reduceMul, Nat.reduceLT, or_self, or_false, false_or, or_true, true_or, and_self, and_true, true_and, and_false, false_and, not_true_eq_false, not_false_eq_true, hcn, g1, em, el, lN_add, aig]) (fun c b s' x hc hs => by
      have h8 := OK_n ok hc
      have hcn := PC_c (PC_fr (K := [41, 42]) (by decide) hs.2 hP) hc
      obtain ⟨⟨i1, i2, i4⟩, i6, i7, i8, i9⟩ := id hs.1
      have em := imax (a := b.1.2.1) (b := b.2.2) (by omega) (by omega)
      refine ⟨s', (qI (nI b.2.1), qI (nI b.2.2), qI (nI (cn y c)), x), ?_, aif_I ok hc hs.1, hs.2⟩
      refine (b_L_airIn_2 ..).trans ?_
      simp (config := {maxSteps := 1000000}) (disch := first | omega | assumption | (simp only [qm_wid_n, qm_wid_I, qm_wid_L, qm_wid_P] <;> omega)) only [b_L_airIn_3, qy0, qy1, qy2, qy3, qe, qcn, qin, ↓reduceIte, Nat.reduceEqDiff, Nat.reduceLeDiff, Bool.false_eq_true, Nat.reduceAdd, Nat.reduceSub, Nat.reduceMul, Nat.reduceLT, or_self, or_false, false_or, or_true, true_or, and_self, and_true, true_and, and_false, false_and, not_true_eq_false, not_false_eq_true, hcn, em, aif]) (0, 0, 0) s (qU, qU, qU, qU) ⟨⟨by decide, by decide, fun h => h⟩, fr_refl _ _⟩
  have hww := (PC_fr (K := [41, 42]) (by decide) hf hP).1
  refine ⟨s', ?_, hf⟩
  have hN : l3 (cn y) ai0 (aig τ y w) aif w (0, 0, 0) = airN τ y w := rfl
  rw [hN] at e hI
  have e0 : (Int64.ofInt 0) = lN 0 := rfl
  have e1 : (Int64.ofInt 1000) = lN 1000 := rfl
  have e2 : (Int64.ofInt 785) = lN 785 := rfl
  simp (config := {maxSteps := 1000000}) (disch := first | omega | assumption | (simp only [qm_wid_n, qm_wid_I, qm_wid_L, qm_wid_P] <;> omega)) only [e_L_airIn, b_L_airIn_0, qy0, qy1, qy2, qy3, qe, qcn, qin, ↓reduceIte, Nat.reduceEqDiff, Nat.reduceLeDiff, Bool.false_eq_true, Nat.reduceAdd, Nat.reduceSub, Nat.reduceMul, Nat.reduceLT, or_self, or_false, false_or, or_true, true_or, and_self, and_true, true_and, and_false, false_and, not_true_eq_false, not_false_eq_true, e0]
  refine e.trans ?_
  unfold airv
  generalize airN τ y w = N at hI ⊢
  obtain ⟨n1, n2, n3⟩ := N
  obtain ⟨i1, i2, i4⟩ := hI
  dsimp only at *
  have l1 := nI_l (n := n1) (by omega)
  have l2 := nI_l (n := n2) (by omega)
  have hb : n1 * n2 ≤ 5994 * 7992 := Nat.mul_le_mul (by omega) i2
  by_cases h0 : n2 = 0
  · subst h0
    have hz : lN n1 * lN 0 = lN 0 := by rw [lN_mul, Nat.mul_zero]
    simp (config := {maxSteps := 1000000}) (disch := first | omega | assumption | (simp only [qm_wid_n, qm_wid_I, qm_wid_L, qm_wid_P] <;> omega)) only [b_L_airIn_1, b_L_airIn_4, b_L_airIn_6, qy0, qy1, qy2, qy3, qe, qcn, qin, ↓reduceIte, Nat.reduceEqDiff, Nat.reduceLeDiff, Bool.false_eq_true, Nat.reduceAdd, Nat.reduceSub, Nat.reduceMul, Nat.reduceLT, or_self, or_false, false_or, or_true, true_or, and_self, and_true, true_and, and_false, false_and, not_true_eq_false, not_false_eq_true, hww, l1, l2, e0, cmp0, hz]
  · have hpos : 0 < n1 * n2 := Nat.mul_pos (by have := i4 h0; omega) (by omega)
    have hz : ¬ (lN (n1 * n2) = lN 0) := fun g => by
      have := (pk_lEQ (by omega) (by decide)).mp g
      omega
    have hz' : ¬ (lN (n1 * n2) = 0) := hz
    simp (config := {maxSteps := 1000000}) (disch := first | omega | assumption | (simp only [qm_wid_n, qm_wid_I, qm_wid_L, qm_wid_P] <;> omega)) only [b_L_airIn_1, b_L_airIn_4, b_L_airIn_5, b_L_airIn_6, qy0, qy1, qy2, qy3, qe, qcn, qin, ↓reduceIte, Nat.reduceEqDiff, Nat.reduceLeDiff, Bool.false_eq_true, Nat.reduceAdd, Nat.reduceSub, Nat.reduceMul, Nat.reduceLT, or_self, or_false, false_or, or_true, true_or, and_self, and_true, true_and, and_false, false_and, not_true_eq_false, not_false_eq_true, hww, l1, l2, lN_mul, e0, e1, e2, cmp0, hz, h0, x_ldiv _ _ _ _ _ _ _ _ hz']
theorem r_air (d : Nat) {s : qm_Hp} {b w : Nat} {y : VW} {τ : TX} (hP : PM s b w y) (ok : OKP w y) (hb : zI s 9 0 2 = nI b) (hb2 : b ≤ 2940) (hL : LM s τ) (okt : OKT τ) : ∃ s', qm_evM (d + 6) jM_airIn [qP 9 0] s = some (some (qI (airv τ y w)), s') ∧ fr [65, 66, 67] s s' := by
  have hw6 := ok.1.2
  obtain ⟨s', ⟨x6, x7, x8⟩, e, hI, hf⟩ := q_l3 w (cn y) ai0 (aig τ y w) aif (fun c a s' => aiI c a ∧ fr [65, 66, 67] s s') (fun c z b s' => aiJ τ y w c z b ∧ fr [65, 66, 67] s s') (fun c a s' (x : qm_AV × qm_AV × qm_AV) => qm_evB (d + 6) jM_airIn 1 [qP 9 0, qL (lN a.2.2), qU, qI (nI a.1), qI (nI a.2.1), qI (nI c), x.1, x.2.1, x.2.2] [] s') (fun c z b s' (x : qm_AV) => qm_evB (d + 6) jM_airIn 2 [qP 9 0, qL (lN b.1.2.2), qU, qI (nI b.1.1), qI (nI b.1.2.1), qI (nI c), qI (nI b.2.1), qI (nI z), x] [] s') (fun c a s' x hc hs => by
      have hww := (PM_scr hs.2 hP).1
      refine ⟨⟨x.2.2, ?_⟩, aij0 hs.1, hs.2⟩
      refine (b_M_airIn_1 ..).trans ?_
      simp (config := {maxSteps := 1000000}) (disch := first | omega | assumption | (simp only [qm_wid_n, qm_wid_I, qm_wid_L, qm_wid_P] <;> omega)) only [qy0, qy1, qy2, qy3, qe, qcn, qin, ↓reduceIte, Nat.reduceEqDiff, Nat.reduceLeDiff, Bool.false_eq_true, Nat.reduceAdd, Nat.reduceSub, Nat.reduceMul, Nat.reduceLT, or_self, or_false, false_or, or_true, true_or, and_self, and_true, true_and, and_false, false_and, not_true_eq_false, not_false_eq_true, hww, ai0]) (fun c z a s' x hc hz hs => by
      have h8 := OK_n ok hc
      have hPx := PM_scr hs.2 hP
      have hbx : zI s' 9 0 2 = nI b := (hs.2.1 9 0 2 (by decide)).trans hb
      have hct := r_count (d + 5) hPx ok hbx hb2 hc
      obtain ⟨et, t1, t2⟩ := tkn_e (τ := τ) ok hc hz
      have hsq := sq_le t2
      obtain ⟨s2, g1, g2⟩ := r_thick (d + 1) hPx ok hbx hb2 (LM_scr hs.2 hL) okt hc hz
      rw [et] at g1
      obtain ⟨⟨i1, i2, i4⟩, i6, i7, i8, i9⟩ := id hs.1
      have el := nI_l (n := tkn τ y w c z) (by omega)
      refine ⟨s2, qI (nI (tkn τ y w c z)), ?_, aijs ok hc hz hs.1, fr_trans hs.2 g2⟩
      refine (b_M_airIn_2 ..).trans ?_
      by_cases q : tkn τ y w c z ≤ a.2.1
      · have em : max a.2.1 (tkn τ y w c z) = a.2.1 := Nat.max_eq_left q
        simp (config := {maxSteps := 1000000}) (disch := first | omega | assumption | (simp only [qm_wid_n, qm_wid_I, qm_wid_L, qm_wid_P] <;> omega)) only [b_M_airIn_3, b_M_airIn_4, qy0, qy1, qy2, qy3, qe, qcn, qin, ↓reduceIte, Nat.reduceEqDiff, Nat.reduceLeDiff, Bool.false_eq_true, Nat.reduceAdd, Nat.reduceSub, Nat.reduceMul, Nat.reduceLT, or_self, or_false, false_or, or_true, true_or, and_self, and_true, true_and, and_false, false_and, not_true_eq_false, not_false_eq_true, hct, g1, em, el, lN_mul, lN_add, aig]
      · have em : max a.2.1 (tkn τ y w c z) = tkn τ y w c z := Nat.max_eq_right (by omega)
        simp (config := {maxSteps := 1000000}) (disch := first | omega | assumption | (simp only [qm_wid_n, qm_wid_I, qm_wid_L, qm_wid_P] <;> omega)) only [b_M_airIn_3, b_M_airIn_4, qy0, qy1, qy2, qy3, qe, qcn, qin, ↓reduceIte, Nat.reduceEqDiff, Nat.reduceLeDiff, Bool.false_eq_true, Nat.reduceAdd, Nat.reduceSub, Nat.reduceMul, Nat.reduceLT, or_self, or_false, false_or, or_true, true_or, and_self, and_true, true_and, and_false, false_and, not_true_eq_false, not_false_eq_true, hct, g1, em, el, lN_mul, lN_add, aig]) (fun c a s' x hc hs => by
      have h8 := OK_n ok hc
      have hPx := PM_scr hs.2 hP
      have hbx : zI s' 9 0 2 = nI b := (hs.2.1 9 0 2 (by decide)).trans hb
      have hct := r_count (d + 5) hPx ok hbx hb2 hc
      obtain ⟨s2, g1, g2⟩ := r_height d hPx ok hbx hb2 (LM_scr hs.2 hL) okt hc
      obtain ⟨⟨i1, i2, i4⟩, i6, i7, i8, i9⟩ := id hs.1
      have eh : height τ y w c = nI a.2.2 := i9
      rw [eh] at g1
      refine ⟨s2, (qI (nI a.2.1), qI (nI a.2.2), x), ?_, aif_I ok hc hs.1, fr_trans hs.2 g2⟩
      refine (b_M_airIn_2 ..).trans ?_
      by_cases q : a.2.2 ≤ a.1.2.1
      · have em : max a.1.2.1 a.2.2 = a.1.2.1 := Nat.max_eq_left q
        simp (config := {maxSteps := 1000000}) (disch := first | omega | assumption | (simp only [qm_wid_n, qm_wid_I, qm_wid_L, qm_wid_P] <;> omega)) only [b_M_airIn_5, b_M_airIn_6, b_M_airIn_7, qy0, qy1, qy2, qy3, qe, qcn, qin, ↓reduceIte, Nat.reduceEqDiff, Nat.reduceLeDiff, Bool.false_eq_true, Nat.reduceAdd, Nat.reduceSub, Nat.reduceMul, Nat.reduceLT, or_self, or_false, false_or, or_true, true_or, and_self, and_true, true_and, and_false, false_and, not_true_eq_false, not_false_eq_true, hct, g1, em, aif]
      · have em : max a.1.2.1 a.2.2 = a.2.2 := Nat.max_eq_right (by omega)
        simp (config := {maxSteps := 1000000}) (disch := first | omega | assumption | (simp only [qm_wid_n, qm_wid_I, qm_wid_L, qm_wid_P] <;> omega)) only [b_M_airIn_5, b_M_airIn_6, b_M_airIn_7, qy0, qy1, qy2, qy3, qe, qcn, qin, ↓reduceIte, Nat.reduceEqDiff, Nat.reduceLeDiff, Bool.false_eq_true, Nat.reduceAdd, Nat.reduceSub, Nat.reduceMul, Nat.reduceLT, or_self, or_false, false_or, or_true, true_or, and_self, and_true, true_and, and_false, false_and, not_true_eq_false, not_false_eq_true, hct, g1, em, aif]) (0, 0, 0) s (qU, qU, qU) ⟨⟨by decide, by decide, fun h => h⟩, fr_refl _ _⟩
  have hww := (PM_scr hf hP).1
  refine ⟨s', ?_, hf⟩
  have hN : l3 (cn y) ai0 (aig τ y w) aif w (0, 0, 0) = airN τ y w := rfl
  rw [hN] at e hI
  have e0 : (Int64.ofInt 0) = lN 0 := rfl
  have e1 : (Int64.ofInt 1000) = lN 1000 := rfl
  have e2 : (Int64.ofInt 785) = lN 785 := rfl
  simp (config := {maxSteps := 1000000}) (disch := first | omega | assumption | (simp only [qm_wid_n, qm_wid_I, qm_wid_L, qm_wid_P] <;> omega)) only [e_M_airIn, b_M_airIn_0, qy0, qy1, qy2, qy3, qe, qcn, qin, ↓reduceIte, Nat.reduceEqDiff, Nat.reduceLeDiff, Bool.false_eq_true, Nat.reduceAdd, Nat.reduceSub, Nat.reduceMul, Nat.reduceLT, or_self, or_false, false_or, or_true, true_or, and_self, and_true, true_and, and_false, false_and, not_true_eq_false, not_false_eq_true, e0]
  refine e.trans ?_
  unfold airv
  generalize airN τ y w = N at hI ⊢
  obtain ⟨n1, n2, n3⟩ := N
  obtain ⟨i1, i2, i4⟩ := hI
  dsimp only at *
  have l1 := nI_l (n := n1) (by omega)
  have l2 := nI_l (n := n2) (by omega)
  have hb : n1 * n2 ≤ 5994 * 7992 := Nat.mul_le_mul (by omega) i2
  by_cases h0 : n2 = 0
  · simp (config := {maxSteps := 1000000}) (disch := first | omega | assumption | (simp only [qm_wid_n, qm_wid_I, qm_wid_L, qm_wid_P] <;> omega)) only [b_M_airIn_1, b_M_airIn_8, b_M_airIn_10, qy0, qy1, qy2, qy3, qe, qcn, qin, ↓reduceIte, Nat.reduceEqDiff, Nat.reduceLeDiff, Bool.false_eq_true, Nat.reduceAdd, Nat.reduceSub, Nat.reduceMul, Nat.reduceLT, or_self, or_false, false_or, or_true, true_or, and_self, and_true, true_and, and_false, false_and, not_true_eq_false, not_false_eq_true, hww, h0]
  · have hpos : 0 < n1 * n2 := Nat.mul_pos (by have := i4 h0; omega) (by omega)
    have hz' : ¬ (lN (n1 * n2) = 0) := fun g => by
      have := (pk_lEQ (b := 0) (by omega) (by decide)).mp g
      omega
    simp (config := {maxSteps := 1000000}) (disch := first | omega | assumption | (simp only [qm_wid_n, qm_wid_I, qm_wid_L, qm_wid_P] <;> omega)) only [b_M_airIn_1, b_M_airIn_8, b_M_airIn_9, b_M_airIn_10, qy0, qy1, qy2, qy3, qe, qcn, qin, ↓reduceIte, Nat.reduceEqDiff, Nat.reduceLeDiff, Bool.false_eq_true, Nat.reduceAdd, Nat.reduceSub, Nat.reduceMul, Nat.reduceLT, or_self, or_false, false_or, or_true, true_or, and_self, and_true, true_and, and_false, false_and, not_true_eq_false, not_false_eq_true, hww, l1, l2, lN_mul, e1, e2, h0, x_ldiv _ _ _ _ _ _ _ _ hz']
theorem fr_CP {s s' : qm_Hp} (h : fr [41, 42] s s') : fp CP s s' := fp_fr (fun k i hk => by
  simp only [List.mem_cons, List.not_mem_nil, or_false] at hk
  unfold CP
  omega) h
theorem fr_MP {s s' : qm_Hp} (h : fr [65, 66, 67] s s') : fp MP s s' := fp_fr (fun k i hk => by
  simp only [List.mem_cons, List.not_mem_nil, or_false] at hk
  unfold MP
  omega) h
theorem RC_scr {s s' : qm_Hp} {w : Nat} {y k : VW} {tp : Nat → Int32} {fd : Nat} {fa pl : Int32} {T : Nat → TX} (hf : fr [41, 42] s s') (h : RC s w y k tp fd fa pl T) : RC s' w y k tp fd fa pl T :=
  RC_SP (fp_fr (fun k i hk => by
    simp only [List.mem_cons, List.not_mem_nil, or_false] at hk
    unfold SP
    omega) hf) (fun p hp => (hf.1 3 p 0 (by decide)).trans (h.2.2.1 p hp)) h
/-- a call that leaves but names and values behind -/
theorem roscr {D fC fM : Nat} {as : List qm_AV} {s : qm_Hp} {w : Nat} {y k : VW} {tp : Nat → Int32} {fd : Nat} {fa pl : Int32} {T : Nat → TX} (ok : OKG w y k tp fd T) (hC : RC s w y k tp fd fa pl T) (r : Int32) (g1 : ∃ s1, qm_evM D fC (qP 1 0 :: as) s = some (some (qI r), s1) ∧ fr [41, 42] s s1) (g2 : ∀ s1, RM s1 w y k tp fd fa pl T → ∃ s2, qm_evM D fM (qP 9 0 :: as) s1 = some (some (qI r), s2) ∧ fr [65, 66, 67] s1 s2) : ∃ r y' k' tp' fd' fa' pl' T', OKG w y' k' tp' fd' T' ∧ (∃ s1, qm_evM D fC (qP 1 0 :: as) s = some (some (qI r), s1) ∧ fp CP s s1 ∧ RC s1 w y' k' tp' fd' fa' pl' T') ∧ (∀ s1, RM s1 w y k tp fd fa pl T → ∃ s2, qm_evM D fM (qP 9 0 :: as) s1 = some (some (qI r), s2) ∧ fp MP s1 s2 ∧ RM s2 w y' k' tp' fd' fa' pl' T') := by
  obtain ⟨s1, e1, e2⟩ := g1
  refine ⟨r, y, k, tp, fd, fa, pl, T, ok, ⟨s1, e1, fr_CP e2, RC_scr e2 hC⟩, fun s2 h2 => ?_⟩
  obtain ⟨s3, a1, a2⟩ := g2 s2 h2
  exact ⟨s3, a1, fr_MP a2, RM_fr ok.1.1.1.2 (K := [65, 66, 67]) (by decide) a2 h2⟩
