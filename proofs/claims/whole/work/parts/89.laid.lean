/-! cleared; the call laid -/
def vclr (y : VW) : VW := fun a j => if a = 1 then nI 0 else if a = 0 ∧ j = 1 then N1 else y a j
theorem vclr_ne {y : VW} {a j : Nat} (h1 : a ≠ 1) (h2 : ¬ (a = 0 ∧ j = 1)) : vclr y a j = y a j := by unfold vclr; rw [if_neg h1, if_neg h2]
theorem cn_clr (y : VW) (c : Nat) : cn (vclr y) c = 0 := by unfold cn vclr; rw [if_pos rfl]; rfl
theorem vp_clr {y : VW} : vp y (vclr y) := fun a j h => vclr_ne (by omega) (by omega)
theorem OKP_clr {w : Nat} {y : VW} (ok : OKP w y) : OKP w (vclr y) := by
  refine ⟨ok.1, ⟨?_, Or.inl rfl, ?_, ?_, ?_⟩, fun c hc => ⟨by rw [cn_clr]; omega, by rw [cn_clr]; rfl⟩, fun c z hc hz => by rw [cn_clr] at hz; omega⟩
  · rw [vclr_ne (by omega) (by omega)]; exact ok.2.1.1
  · rw [vclr_ne (by omega) (by omega)]; exact ok.2.1.2.2.1
  · rw [vclr_ne (by omega) (by omega)]; exact ok.2.1.2.2.2.1
  · rw [vclr_ne (by omega) (by omega)]; exact ok.2.1.2.2.2.2
theorem clr_e (s : qm_Hp) (p : Nat) : ∀ n k i j, zI (hp_clr s p n) k i j = if k = 17 ∧ i = p ∧ j < n then nI 0 else zI s k i j
  | 0, k, i, j => by rw [if_neg (by omega)]; rfl
  | n + 1, k, i, j => by
    show zI (uI (hp_clr s p n) 17 p n 0) k i j = _
    rw [zI_uI, clr_e s p n]
    by_cases h : k = 17 ∧ i = p ∧ j = n
    · rw [if_pos h, if_pos (by omega)]; rfl
    · rw [if_neg h]
      by_cases h2 : k = 17 ∧ i = p ∧ j < n
      · rw [if_pos h2, if_pos (by omega)]
      · rw [if_neg h2, if_neg (by omega)]
theorem clr_fp (s : qm_Hp) (p : Nat) : ∀ n, fp (PP p) s (hp_clr s p n)
  | 0 => fp_refl _ _
  | n + 1 => fp_uI (k := 17) (i := p) (by unfold PP; omega) (clr_fp s p n) _ _
theorem PC_clr {s : qm_Hp} {p w : Nat} {y : VW} (h : PC s p w y) (ok : OKP w y) : PC (uI (hp_clr s p 6) 3 p 9 (-1)) p w (vclr y) := by
  have hw := ok.1.2
  have e : ∀ j, j ≠ 9 → zI (uI (hp_clr s p 6) 3 p 9 (-1)) 3 p j = zI s 3 p j := fun j hj => by rw [zI_uI, if_neg (by omega), clr_e, if_neg (by omega)]
  refine ⟨(e 0 (by omega)).trans h.1, ⟨?_, ?_, ?_, ?_, ?_⟩, fun c hc => ?_, fun f c z hf hc hz => by rw [cn_clr] at hz; omega⟩
  · rw [e _ (by omega), vclr_ne (by omega) (by omega)]; exact h.2.1.1
  · rw [zI_uI, if_pos ⟨rfl, rfl, rfl⟩]; rfl
  · rw [e _ (by omega), vclr_ne (by omega) (by omega)]; exact h.2.1.2.2.1
  · rw [e _ (by omega), vclr_ne (by omega) (by omega)]; exact h.2.1.2.2.2.1
  · rw [e _ (by omega), vclr_ne (by omega) (by omega)]; exact h.2.1.2.2.2.2
  · rw [cn_clr, zI_uI, if_neg (by omega), clr_e, if_pos (by omega)]
/-- the reference's columns emptied -/
def hm_clr (s : qm_Hp) (b : Nat) : Nat → qm_Hp
  | 0 => s
  | c + 1 => uI (hm_clr s b c) 61 0 (b + 120 + c) (nI 0)
theorem mclr_e (s : qm_Hp) (b : Nat) : ∀ n j, zI (hm_clr s b n) 61 0 j = if b + 120 ≤ j ∧ j < b + 120 + n then nI 0 else zI s 61 0 j
  | 0, j => by rw [if_neg (by omega)]; rfl
  | n + 1, j => by
    show zI (uI (hm_clr s b n) 61 0 (b + 120 + n) (nI 0)) 61 0 j = _
    rw [zI_uI, mclr_e s b n]
    by_cases h : j = b + 120 + n
    · rw [if_pos ⟨rfl, rfl, h⟩, if_pos (by omega)]
    · rw [if_neg (fun g => h g.2.2)]
      by_cases h2 : b + 120 ≤ j ∧ j < b + 120 + n
      · rw [if_pos h2, if_pos (by omega)]
      · rw [if_neg h2, if_neg (by omega)]
theorem mclr_fr (s : qm_Hp) (b : Nat) : ∀ n, fr [61] s (hm_clr s b n)
  | 0 => fr_refl _ _
  | n + 1 => fr_uI (by decide) (mclr_fr s b n) _ _ _
theorem PM_clr {s : qm_Hp} {b w : Nat} {y : VW} (h : PM s b w y) (ok : OKP w y) : PM (uI (hm_clr s b w) 61 0 (b + 7) N1) b w (vclr y) := by
  have hw := ok.1.2
  have e : ∀ j, j ≠ b + 7 → zI (uI (hm_clr s b w) 61 0 (b + 7) N1) 61 0 j = if b + 120 ≤ j ∧ j < b + 120 + w then nI 0 else zI s 61 0 j := fun j hj => by rw [zI_uI, if_neg (by omega), mclr_e]
  refine ⟨((mclr_fr s b w).1 9 0 1 (by decide)).trans h.1, ⟨?_, ?_, ?_, ?_, ?_⟩, fun c hc => ?_, fun f c z hf hc hz => by rw [cn_clr] at hz; omega⟩
  · rw [e _ (by omega), if_neg (by omega), vclr_ne (by omega) (by omega)]; exact h.2.1.1
  · rw [zI_uI, if_pos ⟨rfl, rfl, rfl⟩]; rfl
  · rw [e _ (by omega), if_neg (by omega), vclr_ne (by omega) (by omega)]; exact h.2.1.2.2.1
  · rw [e _ (by omega), if_neg (by omega), vclr_ne (by omega) (by omega)]; exact h.2.1.2.2.2.1
  · rw [e _ (by omega), if_neg (by omega), vclr_ne (by omega) (by omega)]; exact h.2.1.2.2.2.2
  · rw [cn_clr, e _ (by omega), if_pos (by omega)]
theorem cdC_at {f : Nat → Int32} : ∀ {C : List (Nat × Nat)} {i j : Nat}, cdC f i C → j < C.length → f (i + j) = nI (enc (C.getD j (0, 0)))
  | [], _, _, _, hj => absurd hj (Nat.not_lt_zero _)
  | c :: C, i, 0, h, _ => h.1
  | c :: C, i, j + 1, h, hj => by
    have := cdC_at (j := j) h.2 (by simp only [List.length_cons] at hj; omega)
    rw [show i + (j + 1) = i + 1 + j by omega]
    exact this
/-- a number of a clause that lays -/
def lyn (q : Nat × List (Nat × Nat)) (i : Nat) : Nat := (q.2.getD i (0, 0)).2
theorem c_codeAt (d : Nat) {s : qm_Hp} {t k i : Nat} {τ : TX} (h : TC s t τ) (okt : OKT τ) (hk : k < τ.1) (h6 : (τ.2 k).1 = 6) (hi : i < 4) : qm_evM (d + 1) jT_codeAt [qP 4 t, qI (nI k), qI (nI i)] s = some (some (qI (nI (lyn (τ.2 k) i))), s) := by
  obtain ⟨q1, fm, q2, q3, q4, q5⟩ := h.2.1 k hk
  obtain ⟨o1, o2, o3, o4, o5⟩ := okt.2 k hk
  obtain ⟨p1, p2, _⟩ := o5 h6
  have h20 := okt.1
  have hc : zI s 31 t (fm + i) = nI (lyn (τ.2 k) i) := by
    have := cdC_at (j := i) q5 (by omega)
    rw [this]
    unfold enc lyn
    rw [if_pos (p2 i hi)]
  simp (config := {maxSteps := 1000000}) (disch := first | omega | assumption | (simp only [qm_wid_n, qm_wid_I, qm_wid_L, qm_wid_P] <;> omega)) only [e_T_codeAt, b_T_codeAt_0, b_T_codeAt_1, b_T_codeAt_2, qy0, qy1, qy2, qy3, qe, qcn, qin, ↓reduceIte, Nat.reduceEqDiff, Nat.reduceLeDiff, Bool.false_eq_true, Nat.reduceAdd, Nat.reduceSub, Nat.reduceMul, Nat.reduceLT, or_self, or_false, false_or, or_true, true_or, and_self, and_true, true_and, and_false, false_and, not_true_eq_false, not_false_eq_true, q2, t_within, hc]
theorem c_layClause_y (d : Nat) {s : qm_Hp} {t k w : Nat} {y : VW} {τ : TX} (hP : PC s 0 w y) (ok : OKP w y) (h : TC s t τ) (okt : OKT τ) (hk : k < τ.1) (h6 : (τ.2 k).1 = 6) (hc : lyn (τ.2 k) 3 < w) (hn : cn y (lyn (τ.2 k) 3) < 8) : qm_evM (d + 2) jC_layClause [qP 1 0, qP 4 t, qI (nI k)] s = some (some (qI (nI 1)), hp_add s 0 (lyn (τ.2 k) 3) (cn y (lyn (τ.2 k) 3)) (nI (lyn (τ.2 k) 0)) (nI (lyn (τ.2 k) 1)) (nI (lyn (τ.2 k) 2))) := by
  have a0 := c_codeAt d h okt hk h6 (i := 0) (by decide)
  have a1 := c_codeAt d h okt hk h6 (i := 1) (by decide)
  have a2 := c_codeAt d h okt hk h6 (i := 2) (by decide)
  have a3 := c_codeAt d h okt hk h6 (i := 3) (by decide)
  have ha := t_add_ok d hP ok hc hn (nI (lyn (τ.2 k) 0)) (nI (lyn (τ.2 k) 1)) (nI (lyn (τ.2 k) 2))
  simp (config := {maxSteps := 1000000}) (disch := first | omega | assumption | (simp only [qm_wid_n, qm_wid_I, qm_wid_L, qm_wid_P] <;> omega)) only [e_C_layClause, b_C_layClause_0, b_C_layClause_1, b_C_layClause_2, qy0, qy1, qy2, qy3, qe, qcn, qin, ↓reduceIte, Nat.reduceEqDiff, Nat.reduceLeDiff, Bool.false_eq_true, Nat.reduceAdd, Nat.reduceSub, Nat.reduceMul, Nat.reduceLT, or_self, or_false, false_or, or_true, true_or, and_self, and_true, true_and, and_false, false_and, not_true_eq_false, not_false_eq_true, a0, a1, a2, a3, ha]
theorem c_layClause_n (d : Nat) {s : qm_Hp} {t k w : Nat} {y : VW} {τ : TX} (hP : PC s 0 w y) (ok : OKP w y) (h : TC s t τ) (okt : OKT τ) (hk : k < τ.1) (h6 : (τ.2 k).1 = 6) (hq : ¬ (lyn (τ.2 k) 3 < w ∧ cn y (lyn (τ.2 k) 3) < 8)) : qm_evM (d + 2) jC_layClause [qP 1 0, qP 4 t, qI (nI k)] s = some (some (qI (nI 0)), s) := by
  have a0 := c_codeAt d h okt hk h6 (i := 0) (by decide)
  have a1 := c_codeAt d h okt hk h6 (i := 1) (by decide)
  have a2 := c_codeAt d h okt hk h6 (i := 2) (by decide)
  have a3 := c_codeAt d h okt hk h6 (i := 3) (by decide)
  have hw := ok.1
  obtain ⟨o1, o2, o3, o4, o5⟩ := okt.2 k hk
  have h5 : lyn (τ.2 k) 3 ≤ 5 := (o5 h6).2.2.2.2.2.2
  by_cases hc : lyn (τ.2 k) 3 < w
  · have h8 := OK_n ok hc
    have ha := t_add_full d hP ok hc (by omega) (nI (lyn (τ.2 k) 0)) (nI (lyn (τ.2 k) 1)) (nI (lyn (τ.2 k) 2))
    simp (config := {maxSteps := 1000000}) (disch := first | omega | assumption | (simp only [qm_wid_n, qm_wid_I, qm_wid_L, qm_wid_P] <;> omega)) only [e_C_layClause, b_C_layClause_0, b_C_layClause_1, b_C_layClause_2, qy0, qy1, qy2, qy3, qe, qcn, qin, ↓reduceIte, Nat.reduceEqDiff, Nat.reduceLeDiff, Bool.false_eq_true, Nat.reduceAdd, Nat.reduceSub, Nat.reduceMul, Nat.reduceLT, or_self, or_false, false_or, or_true, true_or, and_self, and_true, true_and, and_false, false_and, not_true_eq_false, not_false_eq_true, a0, a1, a2, a3, ha]
  · have ha := t_add_col d hP ok (nI (lyn (τ.2 k) 3)) (nI (lyn (τ.2 k) 0)) (nI (lyn (τ.2 k) 1)) (nI (lyn (τ.2 k) 2)) (fun g => nI_ge (by omega) (by omega) g.2)
    simp (config := {maxSteps := 1000000}) (disch := first | omega | assumption | (simp only [qm_wid_n, qm_wid_I, qm_wid_L, qm_wid_P] <;> omega)) only [e_C_layClause, b_C_layClause_0, b_C_layClause_1, b_C_layClause_2, qy0, qy1, qy2, qy3, qe, qcn, qin, ↓reduceIte, Nat.reduceEqDiff, Nat.reduceLeDiff, Bool.false_eq_true, Nat.reduceAdd, Nat.reduceSub, Nat.reduceMul, Nat.reduceLT, or_self, or_false, false_or, or_true, true_or, and_self, and_true, true_and, and_false, false_and, not_true_eq_false, not_false_eq_true, a0, a1, a2, a3, ha]
theorem r_lay_n (d : Nat) {s : qm_Hp} {w c : Nat} {y : VW} {kd sz wt : Int32} (hP : PM s 0 w y) (ok : OKP w y) (hb : zI s 9 0 2 = nI 0) (h1 : nI 0 ≤ kd ∧ kd ≤ nI 3) (h2 : nI 1 ≤ sz ∧ sz ≤ nI 20) (h3 : nI 0 ≤ wt ∧ wt ≤ nI 2000) (hc5 : c ≤ 5) (hq : ¬ (c < w ∧ cn y c < 8)) : qm_evM (d + 3) jM_lay [qP 9 0, qI (nI c), qI kd, qI sz, qI wt] s = some (some (qI N1), s) := by
  have hw := ok.1
  have hic := r_isCol (d + 1) hP.1 (by omega) (nI c)
  by_cases hc : c < w
  · have hct := r_count (d + 2) hP ok hb (by decide) hc
    have h8 := OK_n ok hc
    have e8 : cn y c = 8 := by omega
    rw [e8] at hct
    simp (config := {maxSteps := 1000000}) (disch := first | omega | assumption | (simp only [qm_wid_n, qm_wid_I, qm_wid_L, qm_wid_P] <;> omega)) only [e_M_lay, b_M_lay_0, b_M_lay_1, qy0, qy1, qy2, qy3, qe, qcn, qin, ↓reduceIte, Nat.reduceEqDiff, Nat.reduceLeDiff, Bool.false_eq_true, Nat.reduceAdd, Nat.reduceSub, Nat.reduceMul, Nat.reduceLT, or_self, or_false, false_or, or_true, true_or, and_self, and_true, true_and, and_false, false_and, not_true_eq_false, not_false_eq_true, hic, t_isIn, h1, h2, h3, hct]
  · rw [if_neg (fun g => nI_ge (by omega) (by omega) g.2)] at hic
    simp (config := {maxSteps := 1000000}) (disch := first | omega | assumption | (simp only [qm_wid_n, qm_wid_I, qm_wid_L, qm_wid_P] <;> omega)) only [e_M_lay, b_M_lay_0, b_M_lay_1, qy0, qy1, qy2, qy3, qe, qcn, qin, ↓reduceIte, Nat.reduceEqDiff, Nat.reduceLeDiff, Bool.false_eq_true, Nat.reduceAdd, Nat.reduceSub, Nat.reduceMul, Nat.reduceLT, or_self, or_false, false_or, or_true, true_or, and_self, and_true, true_and, and_false, false_and, not_true_eq_false, not_false_eq_true, hic]
/-- laid as a text tells: m clauses from k on -/
def ldf (τ : TX) (w : Nat) : Nat → Nat → VW → Int32 × VW
  | 0, _, y => (N1, y)
  | m + 1, k, y => if (τ.2 k).1 = 6 then (if lyn (τ.2 k) 3 < w ∧ cn y (lyn (τ.2 k) 3) < 8 then ldf τ w m (k + 1) (vadd y (lyn (τ.2 k) 3) (nI (lyn (τ.2 k) 0)) (nI (lyn (τ.2 k) 1)) (nI (lyn (τ.2 k) 2))) else (nI k, y)) else ldf τ w m (k + 1) y
theorem lyn_ok {τ : TX} (okt : OKT τ) {k : Nat} (hk : k < τ.1) (h6 : (τ.2 k).1 = 6) : lyn (τ.2 k) 0 ≤ 3 ∧ 1 ≤ lyn (τ.2 k) 1 ∧ lyn (τ.2 k) 1 ≤ 20 ∧ lyn (τ.2 k) 2 ≤ 2000 ∧ lyn (τ.2 k) 3 ≤ 5 := (okt.2 k hk).2.2.2.2 h6 |>.2.2
theorem ldf_ok {τ : TX} {w : Nat} (okt : OKT τ) : ∀ m k y, k + m = τ.1 → OKP w y → OKP w (ldf τ w m k y).2 ∧ vp y (ldf τ w m k y).2
  | 0, _, y, _, ok => ⟨ok, vp_refl y⟩
  | m + 1, k, y, h, ok => by
    unfold ldf
    by_cases h6 : (τ.2 k).1 = 6
    · rw [if_pos h6]
      obtain ⟨l0, l1, l1', l2, l3⟩ := lyn_ok okt (k := k) (by omega) h6
      by_cases hq : lyn (τ.2 k) 3 < w ∧ cn y (lyn (τ.2 k) 3) < 8
      · rw [if_pos hq]
        obtain ⟨a1, a2⟩ := ldf_ok okt m (k + 1) _ (by omega) (OKP_add ok hq.1 hq.2 (kd := nI (lyn (τ.2 k) 0)) (sz := nI (lyn (τ.2 k) 1)) (wt := nI (lyn (τ.2 k) 2)) ⟨_, Nat.zero_le _, l0, rfl⟩ ⟨_, l1, l1', rfl⟩ ⟨_, Nat.zero_le _, l2, rfl⟩)
        exact ⟨a1, vp_trans vp_add a2⟩
      · rw [if_neg hq]; exact ⟨ok, vp_refl y⟩
    · rw [if_neg h6]
      exact ldf_ok okt m (k + 1) y (by omega) ok
theorem c_ldf (d : Nat) {s : qm_Hp} {t w : Nat} {τ : TX} (hT : TC s t τ) (okt : OKT τ) (ht : t < 4) : ∀ m k y x, k + m = τ.1 → PC x 0 w y → OKP w y → fp (PP 0) s x → ∃ x', qm_evB (d + 3) jC_laid 2 [qP 1 0, qI (nI t), qP 4 t, qI (nI k)] [] x = some (some (qI (ldf τ w m k y).1), x') ∧ PC x' 0 w (ldf τ w m k y).2 ∧ fp (PP 0) s x' := by
  have h20 := okt.1
  intro m
  induction m with
  | zero =>
    intro k y x hk hP ok hf
    have hTx := TC_fp (fun k hk => by unfold PP; omega) hf hT
    have h1 := hTx.1
    refine ⟨x, (b_C_laid_2 ..).trans ?_, hP, hf⟩
    simp (config := {maxSteps := 1000000}) (disch := first | omega | assumption | (simp only [qm_wid_n, qm_wid_I, qm_wid_L, qm_wid_P] <;> omega)) only [b_C_laid_4, qy0, qy1, qy2, qy3, qe, qcn, qin, ↓reduceIte, Nat.reduceEqDiff, Nat.reduceLeDiff, Bool.false_eq_true, Nat.reduceAdd, Nat.reduceSub, Nat.reduceMul, Nat.reduceLT, or_self, or_false, false_or, or_true, true_or, and_self, and_true, true_and, and_false, false_and, not_true_eq_false, not_false_eq_true, h1, ldf]
  | succ m ih =>
    intro k y x hk hP ok hf
    have hTx := TC_fp (fun k hk => by unfold PP; omega) hf hT
    have h1 := hTx.1
    have hw := (hTx.2.1 k (by omega)).1
    have hs6 := sort_le okt (k := k) (by omega)
    unfold ldf
    by_cases h6 : (τ.2 k).1 = 6
    · rw [if_pos h6]
      by_cases hq : lyn (τ.2 k) 3 < w ∧ cn y (lyn (τ.2 k) 3) < 8
      · rw [if_pos hq]
        have ha := c_layClause_y d hP ok hTx okt (by omega) h6 hq.1 hq.2
        obtain ⟨l0, l1, l1', l2, l3⟩ := lyn_ok okt (k := k) (by omega) h6
        obtain ⟨x', e1, e2, e3⟩ := ih (k + 1) _ (hp_add x 0 (lyn (τ.2 k) 3) (cn y (lyn (τ.2 k) 3)) (nI (lyn (τ.2 k) 0)) (nI (lyn (τ.2 k) 1)) (nI (lyn (τ.2 k) 2))) (by omega) (PC_add hP ok hq.1 hq.2 _ _ _) (OKP_add ok hq.1 hq.2 ⟨_, Nat.zero_le _, l0, rfl⟩ ⟨_, l1, l1', rfl⟩ ⟨_, Nat.zero_le _, l2, rfl⟩) (fp_trans hf (fp_add _ _ _ _ _ _ 0))
        refine ⟨x', ?_, e2, e3⟩
        rw [← e1]
        refine (b_C_laid_2 ..).trans ?_
        simp (config := {maxSteps := 1000000}) (disch := first | omega | assumption | (simp only [qm_wid_n, qm_wid_I, qm_wid_L, qm_wid_P] <;> omega)) only [b_C_laid_3, qy0, qy1, qy2, qy3, qe, qcn, qin, ↓reduceIte, Nat.reduceEqDiff, Nat.reduceLeDiff, Bool.false_eq_true, Nat.reduceAdd, Nat.reduceSub, Nat.reduceMul, Nat.reduceLT, or_self, or_false, false_or, or_true, true_or, and_self, and_true, true_and, and_false, false_and, not_true_eq_false, not_false_eq_true, h1, hw, ha]
      · rw [if_neg hq]
        have ha := c_layClause_n d hP ok hTx okt (by omega) h6 hq
        refine ⟨x, (b_C_laid_2 ..).trans ?_, hP, hf⟩
        simp (config := {maxSteps := 1000000}) (disch := first | omega | assumption | (simp only [qm_wid_n, qm_wid_I, qm_wid_L, qm_wid_P] <;> omega)) only [qy0, qy1, qy2, qy3, qe, qcn, qin, ↓reduceIte, Nat.reduceEqDiff, Nat.reduceLeDiff, Bool.false_eq_true, Nat.reduceAdd, Nat.reduceSub, Nat.reduceMul, Nat.reduceLT, or_self, or_false, false_or, or_true, true_or, and_self, and_true, true_and, and_false, false_and, not_true_eq_false, not_false_eq_true, h1, hw, ha]
    · rw [if_neg h6]
      obtain ⟨x', e1, e2, e3⟩ := ih (k + 1) y x (by omega) hP ok hf
      refine ⟨x', ?_, e2, e3⟩
      rw [← e1]
      refine (b_C_laid_2 ..).trans ?_
      simp (config := {maxSteps := 1000000}) (disch := first | omega | assumption | (simp only [qm_wid_n, qm_wid_I, qm_wid_L, qm_wid_P] <;> omega)) only [b_C_laid_3, qy0, qy1, qy2, qy3, qe, qcn, qin, ↓reduceIte, Nat.reduceEqDiff, Nat.reduceLeDiff, Bool.false_eq_true, Nat.reduceAdd, Nat.reduceSub, Nat.reduceMul, Nat.reduceLT, or_self, or_false, false_or, or_true, true_or, and_self, and_true, true_and, and_false, false_and, not_true_eq_false, not_false_eq_true, h1, hw]
theorem fc_add {s s' : qm_Hp} (h : fc 0 s s') (c n : Nat) (hc : c < 6) (hn : n < 8) (kd sz wt : Int32) : fc 0 s (hm_add s' 0 c n kd sz wt) := by
  refine ⟨?_, fun j j1 j2 j3 => ?_⟩
  · unfold hm_add
    repeat' (first | exact h.1 | refine fr_uI (by decide) ?_ _ _ _)
  · rw [hm_add_e _ _ _ _ _ _ _ _ (by omega) (by omega)]; exact h.2 j j1 j2 j3
theorem r_ldf (d : Nat) {s : qm_Hp} {t w : Nat} {τ : TX} (hT : TM s t τ) (hb : zI s 9 0 2 = nI 0) (okt : OKT τ) (ht : t < 4) : ∀ m k y x x3, k + m = τ.1 → PM x 0 w y → OKP w y → y 0 1 = N1 → fc 0 s x → ∃ x', qm_evB (d + 4) jM_laid 4 [qP 9 0, qI (nI t), qI (nI k), x3] [] x = some (some (qI (ldf τ w m k y).1), x') ∧ PM x' 0 w (ldf τ w m k y).2 ∧ fc 0 s x' := by
  have h20 := okt.1
  intro m
  induction m with
  | zero =>
    intro k y x x3 hk hP ok hy hf
    have h1 : zI x 62 0 (720 * t) = nI τ.1 := (hf.1.1 62 0 _ (by decide)).trans hT.1
    refine ⟨x, (b_M_laid_4 ..).trans ?_, hP, hf⟩
    simp (config := {maxSteps := 1000000}) (disch := first | omega | assumption | (simp only [qm_wid_n, qm_wid_I, qm_wid_L, qm_wid_P] <;> omega)) only [b_M_laid_6, qy0, qy1, qy2, qy3, qe, qcn, qin, ↓reduceIte, Nat.reduceEqDiff, Nat.reduceLeDiff, Bool.false_eq_true, Nat.reduceAdd, Nat.reduceSub, Nat.reduceMul, Nat.reduceLT, or_self, or_false, false_or, or_true, true_or, and_self, and_true, true_and, and_false, false_and, not_true_eq_false, not_false_eq_true, h1, ldf]
  | succ m ih =>
    intro k y x x3 hk hP ok hy hf
    have e62 : ∀ j, zI x 62 0 j = zI s 62 0 j := fun j => hf.1.1 62 0 j (by decide)
    have h1 : zI x 62 0 (720 * t) = nI τ.1 := (e62 _).trans hT.1
    obtain ⟨q1, q2, _⟩ := hT.2 k (by omega)
    have hw := (e62 _).trans q1
    have hs6 := sort_le okt (k := k) (by omega)
    have hbx : zI x 9 0 2 = nI 0 := (hf.1.1 9 0 2 (by decide)).trans hb
    unfold ldf
    by_cases h6 : (τ.2 k).1 = 6
    · rw [if_pos h6]
      obtain ⟨l0, l1, l1', l2, l3⟩ := lyn_ok okt (k := k) (by omega) h6
      have v0 : zI x 62 0 (720 * t + 1 + 5 * k + 1) = nI (lyn (τ.2 k) 0) := (e62 _).trans (q2 h6 0 (by decide))
      have v1 : zI x 62 0 (720 * t + 1 + 5 * k + 2) = nI (lyn (τ.2 k) 1) := (e62 _).trans (q2 h6 1 (by decide))
      have v2 : zI x 62 0 (720 * t + 1 + 5 * k + 3) = nI (lyn (τ.2 k) 2) := (e62 _).trans (q2 h6 2 (by decide))
      have v3 : zI x 62 0 (720 * t + 1 + 5 * k + 4) = nI (lyn (τ.2 k) 3) := (e62 _).trans (q2 h6 3 (by decide))
      have g1 : nI 0 ≤ nI (lyn (τ.2 k) 0) ∧ nI (lyn (τ.2 k) 0) ≤ nI 3 := ⟨nI_le (Nat.zero_le _) (by omega), nI_le l0 (by decide)⟩
      have g2 : nI 1 ≤ nI (lyn (τ.2 k) 1) ∧ nI (lyn (τ.2 k) 1) ≤ nI 20 := ⟨nI_le l1 (by omega), nI_le l1' (by decide)⟩
      have g3 : nI 0 ≤ nI (lyn (τ.2 k) 2) ∧ nI (lyn (τ.2 k) 2) ≤ nI 2000 := ⟨nI_le (Nat.zero_le _) (by omega), nI_le l2 (by decide)⟩
      by_cases hq : lyn (τ.2 k) 3 < w ∧ cn y (lyn (τ.2 k) 3) < 8
      · rw [if_pos hq]
        have ha := r_lay_ok d hP ok hbx hq.1 hq.2 g1 g2 g3 hy
        have hw6 := ok.1.2
        obtain ⟨x', e1, e2, e3⟩ := ih (k + 1) (vadd y (lyn (τ.2 k) 3) (nI (lyn (τ.2 k) 0)) (nI (lyn (τ.2 k) 1)) (nI (lyn (τ.2 k) 2))) (hm_add x 0 (lyn (τ.2 k) 3) (cn y (lyn (τ.2 k) 3)) (nI (lyn (τ.2 k) 0)) (nI (lyn (τ.2 k) 1)) (nI (lyn (τ.2 k) 2))) (qI (nI (720 * t + 1 + 5 * k))) (by omega) (PM_add hP ok hq.1 hq.2 _ _ _) (OKP_add ok hq.1 hq.2 ⟨_, Nat.zero_le _, l0, rfl⟩ ⟨_, l1, l1', rfl⟩ ⟨_, Nat.zero_le _, l2, rfl⟩) (by rw [vadd_old (by omega) (by omega)]; exact hy) (fc_add hf _ _ (by omega) hq.2 _ _ _)
        refine ⟨x', ?_, e2, e3⟩
        rw [← e1]
        refine (b_M_laid_4 ..).trans ?_
        simp (config := {maxSteps := 1000000}) (disch := first | omega | assumption | (simp only [qm_wid_n, qm_wid_I, qm_wid_L, qm_wid_P] <;> omega)) only [b_M_laid_5, qy0, qy1, qy2, qy3, qe, qcn, qin, ↓reduceIte, Nat.reduceEqDiff, Nat.reduceLeDiff, Bool.false_eq_true, Nat.reduceAdd, Nat.reduceSub, Nat.reduceMul, Nat.reduceLT, or_self, or_false, false_or, or_true, true_or, and_self, and_true, true_and, and_false, false_and, not_true_eq_false, not_false_eq_true, h1, hw, v0, v1, v2, v3, ha]
      · rw [if_neg hq]
        have ha := r_lay_n d hP ok hbx g1 g2 g3 l3 hq
        have hm1 : (nI 0 ≤ N1) = False := eq_false (by decide)
        refine ⟨x, (b_M_laid_4 ..).trans ?_, hP, hf⟩
        simp (config := {maxSteps := 1000000}) (disch := first | omega | assumption | (simp only [qm_wid_n, qm_wid_I, qm_wid_L, qm_wid_P] <;> omega)) only [qy0, qy1, qy2, qy3, qe, qcn, qin, ↓reduceIte, Nat.reduceEqDiff, Nat.reduceLeDiff, Bool.false_eq_true, Nat.reduceAdd, Nat.reduceSub, Nat.reduceMul, Nat.reduceLT, or_self, or_false, false_or, or_true, true_or, and_self, and_true, true_and, and_false, false_and, not_true_eq_false, not_false_eq_true, h1, hw, v0, v1, v2, v3, ha, hm1]
    · rw [if_neg h6]
      obtain ⟨x', e1, e2, e3⟩ := ih (k + 1) y x (qI (nI (720 * t + 1 + 5 * k))) (by omega) hP ok hy hf
      refine ⟨x', ?_, e2, e3⟩
      rw [← e1]
      refine (b_M_laid_4 ..).trans ?_
      simp (config := {maxSteps := 1000000}) (disch := first | omega | assumption | (simp only [qm_wid_n, qm_wid_I, qm_wid_L, qm_wid_P] <;> omega)) only [b_M_laid_5, qy0, qy1, qy2, qy3, qe, qcn, qin, ↓reduceIte, Nat.reduceEqDiff, Nat.reduceLeDiff, Bool.false_eq_true, Nat.reduceAdd, Nat.reduceSub, Nat.reduceMul, Nat.reduceLT, or_self, or_false, false_or, or_true, true_or, and_self, and_true, true_and, and_false, false_and, not_true_eq_false, not_false_eq_true, h1, hw]
theorem st_laid (d : Nat) (a : Int32) : STP (d + 40) jC_laid jM_laid [qI a] := by
  refine stp_rw fun s w y k tp fd fa pl T hC hM ok => ?_
  have okp := ok.1.1
  have hw := okp.1
  have hPC := hC.1.1
  obtain ⟨n, _, hn, en⟩ := ok.1.2.2.1
  have hcn : zI s 2 0 11 = nI n := hC.1.2.1.2.1.trans en
  have hnt : nt y = n := by unfold nt; rw [en, nI_clamp (by omega)]
  have hmn : ∀ s1, RM s1 w y k tp fd fa pl T → zI s1 61 0 2 = nI n := fun s1 g1 => g1.2.1.2.1.2.1.trans en
  rcases wth_or a n (by omega) with ⟨t, ht, rfl, hq⟩ | hq
  · have okt : OKT (T t) := ok.2.2.2.1 t (by omega)
    have hit := t_isText (d + 38) hcn (nI t)
    rw [if_pos hq] at hit
    have hcl := s_clear (d + 39) s 0
    have hP1 := PC_clr hPC okp
    have ok1 := OKP_clr okp
    have f1 : fp (PP 0) s (uI (hp_clr s 0 6) 3 0 9 (-1)) := fp_uI (by unfold PP; omega) (clr_fp s 0 6) _ _
    have hT : TC s t (T t) := hC.2.2.2.2.2.1.1 t (by omega)
    obtain ⟨x, e1, e2, e3⟩ := c_ldf (d + 37) (w := w) hT okt (by omega) (T t).1 0 (vclr y) _ (Nat.zero_add _) hP1 ok1 f1
    obtain ⟨o1, o2⟩ := ldf_ok okt (T t).1 0 (vclr y) (Nat.zero_add _) ok1
    have o3 := vp_trans (vp_clr (y := y)) o2
    refine ⟨(ldf (T t) w (T t).1 0 (vclr y)).1, (ldf (T t) w (T t).1 0 (vclr y)).2, k, tp, fd, fa, pl, T, OKG_pile o1 o3 ok, ⟨x, ?_, PP_CP e3, RC_pile e3 e2 o3 hC⟩, fun s1 g1 => ?_⟩
    · simp (config := {maxSteps := 1000000}) (disch := first | omega | assumption | (simp only [qm_wid_n, qm_wid_I, qm_wid_L, qm_wid_P] <;> omega)) only [e_C_laid, b_C_laid_0, b_C_laid_1, qy0, qy1, qy2, qy3, qe, qcn, qin, ↓reduceIte, Nat.reduceEqDiff, Nat.reduceLeDiff, Bool.false_eq_true, Nat.reduceAdd, Nat.reduceSub, Nat.reduceMul, Nat.reduceLT, or_self, or_false, false_or, or_true, true_or, and_self, and_true, true_and, and_false, false_and, not_true_eq_false, not_false_eq_true, hit, hcl]
      exact e1
    · have hP2 := PM_clr g1.2.1.1 okp
      have f2 : fc 0 s1 (uI (hm_clr s1 0 w) 61 0 (0 + 7) N1) := ⟨fr_mono (by decide) (fr_uI (by decide) (mclr_fr s1 0 w) _ _ _), fun j j1 j2 j3 => by rw [zI_uI, if_neg (by omega), mclr_e, if_neg (by omega)]⟩
      obtain ⟨x, e1, e2, e3⟩ := r_ldf (d + 36) (w := w) (g1.2.2.2.2.2 t (by omega)) g1.1.1 okt (by omega) (T t).1 0 (vclr y) _ (qU) (Nat.zero_add _) hP2 ok1 rfl f2
      refine ⟨x, ?_, fc_MP e3, RM_fc hw.2 e3 e2 o3 g1⟩
      have hl := q_up (w := w) (fun c => qm_evB (d + 40) jM_laid 2 [qP 9 0, qI (nI t), qI (nI c), qU] [] (hm_clr s1 0 c)) rfl (fun c hc => by
        have hw9 : zI (hm_clr s1 0 c) 9 0 1 = nI w := ((mclr_fr s1 0 c).1 9 0 1 (by decide)).trans g1.2.1.1.1
        refine (b_M_laid_2 ..).trans ?_
        simp (config := {maxSteps := 1000000}) (disch := first | omega | assumption | (simp only [qm_wid_n, qm_wid_I, qm_wid_L, qm_wid_P] <;> omega)) only [qy0, qy1, qy2, qy3, qe, qcn, qin, ↓reduceIte, Nat.reduceEqDiff, Nat.reduceLeDiff, Bool.false_eq_true, Nat.reduceAdd, Nat.reduceSub, Nat.reduceMul, Nat.reduceLT, or_self, or_false, false_or, or_true, true_or, and_self, and_true, true_and, and_false, false_and, not_true_eq_false, not_false_eq_true, hw9, hm_clr, Nat.zero_add]) 0 (Nat.zero_le _)
      have hw9 : zI (hm_clr s1 0 w) 9 0 1 = nI w := ((mclr_fr s1 0 w).1 9 0 1 (by decide)).trans g1.2.1.1.1
      have hm2 := hmn s1 g1
      have hw5 : w < 7 := by omega
      have hX : ∀ X : qm_Hp, zI X 9 0 1 = nI w → qm_evB (d + 40) jM_laid 2 [qP 9 0, qI (nI t), qI (nI w), qU] [] X = qm_evB (d + 40) jM_laid 4 [qP 9 0, qI (nI t), qI (nI 0), qU] [] (uI X 61 0 7 N1) := by
        clear hl e1 e2 e3 hP2 f2 hw9 hm2
        intro X h
        refine (b_M_laid_2 ..).trans ?_
        simp (config := {maxSteps := 1000000}) (disch := first | omega | assumption | (simp only [qm_wid_n, qm_wid_I, qm_wid_L, qm_wid_P] <;> omega)) only [b_M_laid_3, qy0, qy1, qy2, qy3, qe, qcn, qin, ↓reduceIte, Nat.reduceEqDiff, Nat.reduceLeDiff, Bool.false_eq_true, Nat.reduceAdd, Nat.reduceSub, Nat.reduceMul, Nat.reduceLT, or_self, or_false, false_or, or_true, true_or, and_self, and_true, true_and, and_false, false_and, not_true_eq_false, not_false_eq_true, h]
      simp (config := {maxSteps := 1000000}) (disch := first | omega | assumption | (simp only [qm_wid_n, qm_wid_I, qm_wid_L, qm_wid_P] <;> omega)) only [e_M_laid, b_M_laid_0, b_M_laid_1, qy0, qy1, qy2, qy3, qe, qcn, qin, ↓reduceIte, Nat.reduceEqDiff, Nat.reduceLeDiff, Bool.false_eq_true, Nat.reduceAdd, Nat.reduceSub, Nat.reduceMul, Nat.reduceLT, or_self, or_false, false_or, or_true, true_or, and_self, and_true, true_and, and_false, false_and, not_true_eq_false, not_false_eq_true, hm2, t_isIn, hq]
      exact hl.trans ((hX _ hw9).trans e1)
  · refine nochg ok hC NM2 ?_ (fun s1 g1 => ?_)
    · have hit := t_isText (d + 38) hcn a
      rw [if_neg hq] at hit
      simp (config := {maxSteps := 1000000}) (disch := first | omega | assumption | (simp only [qm_wid_n, qm_wid_I, qm_wid_L, qm_wid_P] <;> omega)) only [e_C_laid, b_C_laid_0, qy0, qy1, qy2, qy3, qe, qcn, qin, ↓reduceIte, Nat.reduceEqDiff, Nat.reduceLeDiff, Bool.false_eq_true, Nat.reduceAdd, Nat.reduceSub, Nat.reduceMul, Nat.reduceLT, or_self, or_false, false_or, or_true, true_or, and_self, and_true, true_and, and_false, false_and, not_true_eq_false, not_false_eq_true, hit]
    · have hm2 := hmn s1 g1
      by_cases h1 : 1 ≤ n
      · rw [pk_sub h1] at hq
        simp (config := {maxSteps := 1000000}) (disch := first | omega | assumption | (simp only [qm_wid_n, qm_wid_I, qm_wid_L, qm_wid_P] <;> omega)) only [e_M_laid, b_M_laid_0, qy0, qy1, qy2, qy3, qe, qcn, qin, ↓reduceIte, Nat.reduceEqDiff, Nat.reduceLeDiff, Bool.false_eq_true, Nat.reduceAdd, Nat.reduceSub, Nat.reduceMul, Nat.reduceLT, or_self, or_false, false_or, or_true, true_or, and_self, and_true, true_and, and_false, false_and, not_true_eq_false, not_false_eq_true, hm2, t_isIn, hq]
      · have h0 : n = 0 := by omega
        rw [h0] at hm2 hq
        simp (config := {maxSteps := 1000000}) (disch := first | omega | assumption | (simp only [qm_wid_n, qm_wid_I, qm_wid_L, qm_wid_P] <;> omega)) only [e_M_laid, b_M_laid_0, qy0, qy1, qy2, qy3, qe, qcn, qin, ↓reduceIte, Nat.reduceEqDiff, Nat.reduceLeDiff, Bool.false_eq_true, Nat.reduceAdd, Nat.reduceSub, Nat.reduceMul, Nat.reduceLT, or_self, or_false, false_or, or_true, true_or, and_self, and_true, true_and, and_false, false_and, not_true_eq_false, not_false_eq_true, hm2, t_isIn, hq]
