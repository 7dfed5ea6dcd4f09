/-! the reference's weeks -/
theorem sub64 {x v : Int32} (hx : bd x) (hv : bd v) : x.toInt64 - v.toInt64 = (x - v).toInt64 := by
  unfold bd at *
  rw [fa_eq64, Int32.toInt_toInt64, fb_subI (by omega) (by omega), Int64.toInt_sub, Int32.toInt_toInt64, Int32.toInt_toInt64]
  exact fb_bmodL (by omega) (by omega)
theorem sub_ring (a l r : Int32) : a - l + r = a - (l - r) := by
  simp only [Int32.sub_eq_add_neg, Int32.neg_add, Int32.neg_neg, Int32.add_assoc]
theorem r_dried (d : Nat) {s : qm_Hp} {b w c z k : Nat} {y : VW} {τ : TX} {W : Nat → Int32} (hP : PM s b w y) (ok : OKP w y) (hb : zI s 9 0 2 = nI b) (hb2 : b ≤ 2940) (hL : LM s τ) (okt : OKT τ) (hc : c < w) (hz : z < cn y c) (hk : k < 12) (hW : ∀ i, i < 4 → zI s 61 0 (20 + 4 * k + i) = W i) (hWr : ∀ i, i < 4 → rg (W i) 0 40) : ∃ s', qm_evM (d + 3) jM_driedOf [qP 9 0, qI (nI c), qI (nI z), qI (nI (20 + 4 * k))] s = some (some (qI (drd τ y w W c z)), s') ∧ fr [65, 66, 67] s s' := by
  have h20 := okt.1
  have f1 := mn_fr s b w c z
  have hnm := r_name d hP ok hb hb2 hc hz
  generalize hs2 : uI (uI (uI (uI (hp_name s b w c z) 65 0 8 (W 0)) 65 0 9 (W 1)) 65 0 10 (W 2)) 65 0 11 (W 3) = s2
  have f2 : fr [65] s s2 := by
    rw [← hs2]
    repeat' (first | exact f1 | refine fr_uI (by decide) ?_ _ _ _)
  have hev : ∀ v, v < 13 → zI s2 65 0 v = ev y w W c z v := fun v hv => by
    rw [← hs2]
    by_cases h8 : v < 8 ∨ v = 12
    · simp (disch := omega) only [zI_uI, n_eqF, and_false, ↓reduceIte]
      exact mn_ev W hP ok hc hz v h8
    · have hv : v = 8 ∨ v = 9 ∨ v = 10 ∨ v = 11 := by omega
      rcases hv with h | h | h | h <;> subst h <;> simp only [zI_uI, Nat.reduceEqDiff, and_false, and_true, and_self, ↓reduceIte] <;> rfl
  have e61 : ∀ j, zI (hp_name s b w c z) 61 0 j = zI s 61 0 j := fun j => f1.1 61 0 j (by decide)
  have w0 : zI s 61 0 (20 + 4 * k) = W 0 := hW 0 (by decide)
  have w1 := hW 1 (by decide)
  have w2 := hW 2 (by decide)
  have w3 := hW 3 (by decide)
  have z0 : 20 + 4 * k + 0 = 20 + 4 * k := rfl
  have hL2 := LM_fr (K := [65]) (by decide) f2 hL
  have hcl := r_clauseOf (d + 1) 0 hL2 okt (by decide)
  have start : qm_evM (d + 3) jM_driedOf [qP 9 0, qI (nI c), qI (nI z), qI (nI (20 + 4 * k))] s = qm_evB (d + 3) jM_driedOf 2 [qP 9 0, qI (nI c), qI (nI z), qI (nI (20 + 4 * k)), qI (nI 4), qU, qU] [] s2 := by
    simp (config := {maxSteps := 1000000}) (disch := first | omega | assumption | (simp only [qm_wid_n, qm_wid_I, qm_wid_L, qm_wid_P] <;> omega)) only [e_M_driedOf, b_M_driedOf_0, b_M_driedOf_1, qy0, qy1, qy2, qy3, qe, qcn, qin, ↓reduceIte, Nat.reduceEqDiff, Nat.reduceLeDiff, Bool.false_eq_true, Nat.reduceAdd, Nat.reduceSub, Nat.reduceMul, Nat.reduceLT, or_self, or_false, false_or, or_true, true_or, and_self, and_true, true_and, and_false, false_and, not_true_eq_false, not_false_eq_true, hnm, zI_uI, e61, z0, w0, w1, w2, w3, hs2]
  rw [start]
  unfold drd
  have n0 := hev 0 (by decide)
  have n3 := hev 3 (by decide)
  have n5 := hev 5 (by decide)
  have n6 := hev 6 (by decide)
  have n8 := hev 8 (by decide)
  have n9 := hev 9 (by decide)
  have n10 := hev 10 (by decide)
  have n11 := hev 11 (by decide)
  have e0 : ev y w W c z 0 = y 4 (8 * c + z) := rfl
  have e3 : ev y w W c z 3 = y 5 (8 * c + z) := rfl
  have e8 : ev y w W c z 8 = W 0 := rfl
  have e9 : ev y w W c z 9 = W 1 := rfl
  have e10 : ev y w W c z 10 = W 2 := rfl
  have e11 : ev y w W c z 11 = W 3 := rfl
  rw [e0] at n0
  rw [e3] at n3
  rw [e8] at n8
  rw [e9] at n9
  rw [e10] at n10
  rw [e11] at n11
  by_cases hf : fnd τ 0 < τ.1
  · have hs := fnd_is hf
    rw [if_pos hf] at hcl ⊢
    obtain ⟨s', q1, q2, q3, q4⟩ := r_work d hL2 okt hf (by omega) (ev y w W c z) (fun v hv => by
      unfold nmok at hv
      have hv : v < 13 := by omega
      exact ⟨hev v hv, ev_bdL W ok hc hz hWr hv⟩)
    obtain ⟨q5, q6⟩ := q3 (by omega)
    refine ⟨s', ?_, fr_trans (mem2 (by decide) f2) (mem2 (by decide) q2)⟩
    have n0' : zI s' 65 0 0 = y 4 (8 * c + z) := (q2.1 65 0 0 (by decide)).trans n0
    have hd := r_held (d + 2) s' (y 4 (8 * c + z) - cv (ev y w W c z) (τ.2 (fnd τ 0)).2) (nI 0) (nI 2000) (by decide)
    have hsub := sub64 (bd_rg (ok.2.2.2 c z hc hz).2.2.1 (by decide)) q6
    simp (config := {maxSteps := 1000000}) (disch := first | omega | assumption | (simp only [qm_wid_n, qm_wid_I, qm_wid_L, qm_wid_P] <;> omega)) only [b_M_driedOf_2, qy0, qy1, qy2, qy3, qe, qcn, qin, ↓reduceIte, Nat.reduceEqDiff, Nat.reduceLeDiff, Bool.false_eq_true, Nat.reduceAdd, Nat.reduceSub, Nat.reduceMul, Nat.reduceLT, or_self, or_false, false_or, or_true, true_or, and_self, and_true, true_and, and_false, false_and, not_true_eq_false, not_false_eq_true, hcl, q1, q5, n0', hsub, hd]
  · rw [if_neg hf] at hcl ⊢
    refine ⟨s2, ?_, mem2 (by decide) f2⟩
    have h' : N1 < nI 0 := by decide
    have hd := fun x => r_held (d + 2) s2 x (nI 0) (nI 2000) (by decide)
    unfold dless
    by_cases h5 : ev y w W c z 5 = nI 1
    · by_cases h3 : y 5 (8 * c + z) = nI 0
      · rw [if_pos ⟨h3, h5⟩, ← sub_ring]
        simp (config := {maxSteps := 1000000}) (disch := first | omega | assumption | (simp only [qm_wid_n, qm_wid_I, qm_wid_L, qm_wid_P] <;> omega)) only [b_M_driedOf_2, b_M_driedOf_3, b_M_driedOf_4, b_M_driedOf_5, qy0, qy1, qy2, qy3, qe, qcn, qin, ↓reduceIte, Nat.reduceEqDiff, Nat.reduceLeDiff, Bool.false_eq_true, Nat.reduceAdd, Nat.reduceSub, Nat.reduceMul, Nat.reduceLT, or_self, or_false, false_or, or_true, true_or, and_self, and_true, true_and, and_false, false_and, not_true_eq_false, not_false_eq_true, hcl, h', n0, n3, n5, n6, n8, n9, n10, n11, h5, h3, hd]
      · rw [if_neg (fun g => h3 g.1)]
        have hz0 : ∀ a : Int32, a + nI 0 = a := fun a => Int32.add_zero a
        simp (config := {maxSteps := 1000000}) (disch := first | omega | assumption | (simp only [qm_wid_n, qm_wid_I, qm_wid_L, qm_wid_P] <;> omega)) only [b_M_driedOf_2, b_M_driedOf_3, b_M_driedOf_4, b_M_driedOf_5, qy0, qy1, qy2, qy3, qe, qcn, qin, ↓reduceIte, Nat.reduceEqDiff, Nat.reduceLeDiff, Bool.false_eq_true, Nat.reduceAdd, Nat.reduceSub, Nat.reduceMul, Nat.reduceLT, or_self, or_false, false_or, or_true, true_or, and_self, and_true, true_and, and_false, false_and, not_true_eq_false, not_false_eq_true, hcl, h', n0, n3, n5, n6, n8, n9, n10, n11, h5, h3, hz0, hd]
    · rw [if_neg (fun g => h5 g.2)]
      have hz0 : ∀ a : Int32, a + nI 0 = a := fun a => Int32.add_zero a
      simp (config := {maxSteps := 1000000}) (disch := first | omega | assumption | (simp only [qm_wid_n, qm_wid_I, qm_wid_L, qm_wid_P] <;> omega)) only [b_M_driedOf_2, b_M_driedOf_3, b_M_driedOf_4, b_M_driedOf_5, qy0, qy1, qy2, qy3, qe, qcn, qin, ↓reduceIte, Nat.reduceEqDiff, Nat.reduceLeDiff, Bool.false_eq_true, Nat.reduceAdd, Nat.reduceSub, Nat.reduceMul, Nat.reduceLT, or_self, or_false, false_or, or_true, true_or, and_self, and_true, true_and, and_false, false_and, not_true_eq_false, not_false_eq_true, hcl, h', n0, n3, n5, n6, n8, n9, n10, n11, h5, hz0, hd]
/-- bounds of thick, height, stand -/
theorem thick_rg {τ : TX} {w : Nat} {y : VW} (ok : OKP w y) {c z : Nat} (hc : c < w) (hz : z < cn y c) : rg (thick τ y w c z) 1 999 := by
  unfold thick sm
  by_cases h : fnd τ 1 < τ.1
  · rw [if_pos h]; exact ck_rg _ (by decide) (by decide)
  · rw [if_neg h]
    have q := ok.2.2.2 c z hc hz
    obtain ⟨k, k1, k2, e1⟩ := q.2.1
    obtain ⟨m, m1, m2, e2⟩ := q.2.2.1
    unfold dthick
    rw [e1, e2, pk_mul]
    by_cases h3 : m < 300
    · rw [if_pos (nI_lt h3 (by decide)), pk_sub (by omega), pk_mul, pk_div (by have : k * (300 - m) ≤ 20 * 300 := Nat.mul_le_mul k2 (by omega); omega) (by decide) (by decide)]
      have h4 : k * (300 - m) / 100 ≤ 3 * k := by
        have : k * (300 - m) ≤ k * 300 := Nat.mul_le_mul_left k (by omega)
        omega
      rw [pk_sub (by omega)]
      exact ⟨10 * k - k * (300 - m) / 100, by omega, by omega, rfl⟩
    · rw [if_neg (nI_nlt (by omega) (by omega)), pk_sub (by omega)]
      exact ⟨10 * k - 0, by omega, by omega, rfl⟩
theorem heat_rg {τ : TX} {w : Nat} {y : VW} (ok : OKP w y) {c z : Nat} (hc : c < w) (hz : z < cn y c) : rg (heat τ y w c z) 0 9999 := by
  unfold heat sm
  by_cases h : fnd τ 4 < τ.1
  · rw [if_pos h]; exact ck_rg _ (by decide) (by decide)
  · rw [if_neg h]
    have q := ok.2.2.2 c z hc hz
    obtain ⟨k, k1, k2, e1⟩ := q.2.1
    obtain ⟨m, m1, m2, e2⟩ := q.2.2.1
    have h5 : k * (2500 - m) ≤ 20 * 2500 := Nat.mul_le_mul k2 (by omega)
    rw [e1, e2, pk_sub (by omega), pk_mul, pk_div (by omega) (by decide) (by decide)]
    exact ⟨_, Nat.zero_le _, by omega, rfl⟩
theorem su_rg {f : Nat → Int32} {b : Nat} : ∀ {n : Nat}, (∀ k, k < n → rg (f k) 0 b) → rg (su f n) 0 (n * b)
  | 0, _ => ⟨0, Nat.le_refl _, Nat.zero_le _, rfl⟩
  | n + 1, h => by
    obtain ⟨k, _, k2, e⟩ := su_rg (n := n) (fun k hk => h k (by omega))
    obtain ⟨m, _, m2, e2⟩ := h n (by omega)
    refine ⟨k + m, Nat.zero_le _, ?_, ?_⟩
    · rw [Nat.succ_mul]; omega
    · show su f n + f n = _
      rw [e, e2, nI_add]
theorem height_rg {τ : TX} {w : Nat} {y : VW} (ok : OKP w y) {c : Nat} (hc : c < w) : rg (height τ y w c) 0 7992 := by
  have h8 := OK_n ok hc
  obtain ⟨k, k1, k2, e⟩ := su_rg (f := fun z => thick τ y w c z) (b := 999) (n := cn y c) (fun z hz => by
    obtain ⟨k, k1, k2, e⟩ := thick_rg (τ := τ) ok hc hz
    exact ⟨k, Nat.zero_le _, k2, e⟩)
  exact ⟨k, k1, by have : cn y c * 999 ≤ 8 * 999 := Nat.mul_le_mul_right _ h8; omega, e⟩
theorem stand_rg {τ : TX} {w : Nat} {y : VW} (ok : OKP w y) : rg (stand τ y w) 0 9999 := by
  unfold stand sm
  by_cases h : fnd τ 2 < τ.1
  · rw [if_pos h]; exact ck_rg _ (by decide) (by decide)
  · rw [if_neg h]
    have hw := ok.1
    obtain ⟨k, k1, k2, e1⟩ := ok.2.1.2.2.1
    obtain ⟨m, m1, m2, e2⟩ := ok.2.1.2.2.2.1
    rw [e1, e2, pk_mul, pk_mul, pk_mul, nI_add, nI_add]
    exact ⟨_, Nat.zero_le _, by omega, rfl⟩
theorem fall_iff {τ : TX} {w : Nat} {y : VW} (ok : OKP w y) : stand τ y w < absI (lean τ y w) ↔ (stand τ y w < lean τ y w ∨ ¬ -(stand τ y w) ≤ lean τ y w) := by
  have hw := ok.1
  obtain ⟨k, k1, k2, e⟩ := stand_rg (τ := τ) ok
  obtain ⟨m, m1, m2, e2⟩ := height_rg (τ := τ) ok (c := w - 1) (by omega)
  obtain ⟨n, n1, n2, e3⟩ := height_rg (τ := τ) ok (c := 0) (by omega)
  unfold lean
  rw [e, e2, e3]
  have hl := pk_sub_toInt (a := m) (b := n) (by omega) (by omega)
  generalize nI m - nI n = l at hl ⊢
  have hk := nI_toInt (n := k) (by omega)
  have h0 : (nI 0).toInt = 0 := rfl
  have hneg : (-(nI k)).toInt = -(k : Int) := by rw [fb_negI (by omega), hk]
  unfold absI
  simp only [fa_lt, fa_le, hneg, h0]
  by_cases q : 0 ≤ l.toInt
  · rw [if_pos q]; omega
  · rw [if_neg q, fb_subI (by omega) (by omega), h0]; omega
