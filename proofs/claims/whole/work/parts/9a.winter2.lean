/-! the call winter: both runs -/
theorem bo_lt (f : Nat → Int32) : ∀ k, 0 < k → bo f k < k
  | 0, h => absurd h (Nat.lt_irrefl 0)
  | k + 1, _ => by
    show (if f (bo f k) < f k then k else bo f k) < k + 1
    by_cases q : f (bo f k) < f k
    · rw [if_pos q]; omega
    · rw [if_neg q]
      by_cases k0 : k = 0
      · subst k0; exact Nat.zero_lt_succ 0
      · have := bo_lt f k (by omega); omega
theorem c_listHeats (d : Nat) {s : qm_Hp} {w : Nat} {y : VW} {τ : TX} (hP : PC s 0 w y) (ok : OKP w y) (hL : LC s τ) (okt : OKT τ) : ∃ x', qm_evM (d + 5) jC_listHeats [qP 1 0] s = some (some (qI (nI (spl y w))), x') ∧ fr [41, 42, 53] s x' ∧ (∀ c z, c < w → z < cn y c → zI x' 53 0 (spl y c + z) = heat τ y w c z) := by
  have hw6 := ok.1.2
  obtain ⟨x', a3, e, q1, q2⟩ := q_l3 w (cn y) (fun _ (a : Unit) => a) (fun _ _ a => a) (fun _ a => a) (fun c _ x => fr [41, 42, 53] s x ∧ (∀ c' z', c' < w → z' < cn y c' → c' < c → zI x 53 0 (spl y c' + z') = heat τ y w c' z')) (fun c z _ x => fr [41, 42, 53] s x ∧ (∀ c' z', c' < w → z' < cn y c' → (c' < c ∨ (c' = c ∧ z' < z)) → zI x 53 0 (spl y c' + z') = heat τ y w c' z')) (fun c _ x (a : qm_AV) => qm_evB (d + 5) jC_listHeats 1 [qP 1 0, qI (nI (spl y c)), qI (nI c), a] [] x) (fun c z _ x (_ : Unit) => qm_evB (d + 5) jC_listHeats 2 [qP 1 0, qI (nI (spl y c + z)), qI (nI c), qI (nI z)] [] x) (fun c _ x a hc hs => by
      have hww := (PC_fr (K := [41, 42, 53]) (by decide) hs.1 hP).1
      refine ⟨⟨(), ?_⟩, hs.1, fun c' z' h1 h2 h3 => hs.2 c' z' h1 h2 (by omega)⟩
      refine (b_C_listHeats_1 ..).trans ?_
      simp (config := {maxSteps := 1000000}) (disch := first | omega | assumption | (simp only [qm_wid_n, qm_wid_I, qm_wid_L, qm_wid_P]; omega) | (simp only [qm_wid_n, qm_wid_I, qm_wid_L, qm_wid_P]; done) | fail) only [qy0, qy1, qy2, qy3, qe, qcn, qin, ↓reduceIte, Nat.reduceEqDiff, Nat.reduceLeDiff, Bool.false_eq_true, Nat.reduceAdd, Nat.reduceSub, Nat.reduceMul, Nat.reduceLT, or_self, or_false, false_or, or_true, true_or, and_self, and_true, true_and, and_false, false_and, not_true_eq_false, not_false_eq_true, hww, Nat.add_zero]) (fun c z _ x _ hc hz hs => by
      have hPx := PC_fr (K := [41, 42, 53]) (by decide) hs.1 hP
      have h8 := OK_n ok hc
      have hsl := spl_le ok c (by omega)
      have hcn := PC_c hPx hc
      obtain ⟨x2, g1, g2⟩ := c_heat d hPx ok (LC_fr (K := [41, 42, 53]) (by decide) hs.1 hL) okt hc hz
      refine ⟨uI x2 53 0 (spl y c + z) (heat τ y w c z), (), ?_, fr_uI (by decide) (fr_trans hs.1 (fr_mono (by decide) g2)) _ _ _, fun c' z' h1 h2 h3 => ?_⟩
      · refine (b_C_listHeats_2 ..).trans ?_
        simp (config := {maxSteps := 1000000}) (disch := first | omega | assumption | (simp only [qm_wid_n, qm_wid_I, qm_wid_L, qm_wid_P]; omega) | (simp only [qm_wid_n, qm_wid_I, qm_wid_L, qm_wid_P]; done) | fail) only [qy0, qy1, qy2, qy3, qe, qcn, qin, ↓reduceIte, Nat.reduceEqDiff, Nat.reduceLeDiff, Bool.false_eq_true, Nat.reduceAdd, Nat.reduceSub, Nat.reduceMul, Nat.reduceLT, or_self, or_false, false_or, or_true, true_or, and_self, and_true, true_and, and_false, false_and, not_true_eq_false, not_false_eq_true, hcn, g1, Nat.add_assoc]
      · rw [zI_uI]
        by_cases q : c' = c ∧ z' = z
        · rw [if_pos ⟨rfl, rfl, by rw [q.1, q.2]⟩, q.1, q.2]
        · rw [if_neg (fun g => q (pos_inj h2 hz g.2.2)), g2.1 53 0 _ (by decide)]
          exact hs.2 c' z' h1 h2 (by omega)) (fun c _ x _ hc hs => by
      have hPx := PC_fr (K := [41, 42, 53]) (by decide) hs.1 hP
      have h8 := OK_n ok hc
      have hcn := PC_c hPx hc
      have es : spl y (c + 1) = spl y c + cn y c := rfl
      refine ⟨x, qI (nI (cn y c)), ?_, hs.1, fun c' z' h1 h2 h3 => hs.2 c' z' h1 h2 (by
        by_cases q : c' = c
        · subst q; omega
        · omega)⟩
      refine (b_C_listHeats_2 ..).trans ?_
      simp (config := {maxSteps := 1000000}) (disch := first | omega | assumption | (simp only [qm_wid_n, qm_wid_I, qm_wid_L, qm_wid_P]; omega) | (simp only [qm_wid_n, qm_wid_I, qm_wid_L, qm_wid_P]; done) | fail) only [b_C_listHeats_3, qy0, qy1, qy2, qy3, qe, qcn, qin, ↓reduceIte, Nat.reduceEqDiff, Nat.reduceLeDiff, Bool.false_eq_true, Nat.reduceAdd, Nat.reduceSub, Nat.reduceMul, Nat.reduceLT, or_self, or_false, false_or, or_true, true_or, and_self, and_true, true_and, and_false, false_and, not_true_eq_false, not_false_eq_true, hcn, es]) () s qU ⟨fr_refl _ _, fun c' z' h1 h2 h3 => by omega⟩
  have hww := (PC_fr (K := [41, 42, 53]) (by decide) q1 hP).1
  refine ⟨x', ?_, q1, fun c z hc hz => q2 c z hc hz hc⟩
  have e' : qm_evB (d + 5) jC_listHeats 1 [qP 1 0, qI (nI 0), qI (nI 0), qU] [] s = _ := e
  simp (config := {maxSteps := 1000000}) (disch := first | omega | assumption | (simp only [qm_wid_n, qm_wid_I, qm_wid_L, qm_wid_P]; omega) | (simp only [qm_wid_n, qm_wid_I, qm_wid_L, qm_wid_P]; done) | fail) only [e_C_listHeats, b_C_listHeats_0, qy0, qy1, qy2, qy3, qe, qcn, qin, ↓reduceIte, Nat.reduceEqDiff, Nat.reduceLeDiff, Bool.false_eq_true, Nat.reduceAdd, Nat.reduceSub, Nat.reduceMul, Nat.reduceLT, or_self, or_false, false_or, or_true, true_or, and_self, and_true, true_and, and_false, false_and, not_true_eq_false, not_false_eq_true]
  refine e'.trans ?_
  simp (config := {maxSteps := 1000000}) (disch := first | omega | assumption | (simp only [qm_wid_n, qm_wid_I, qm_wid_L, qm_wid_P]; omega) | (simp only [qm_wid_n, qm_wid_I, qm_wid_L, qm_wid_P]; done) | fail) only [b_C_listHeats_1, b_C_listHeats_4, qy0, qy1, qy2, qy3, qe, qcn, qin, ↓reduceIte, Nat.reduceEqDiff, Nat.reduceLeDiff, Bool.false_eq_true, Nat.reduceAdd, Nat.reduceSub, Nat.reduceMul, Nat.reduceLT, or_self, or_false, false_or, or_true, true_or, and_self, and_true, true_and, and_false, false_and, not_true_eq_false, not_false_eq_true, hww]
theorem c_pull (d : Nat) (x : qm_Hp) (S : Nat) (h1 : 0 < S) (h2 : S ≤ 48) : qm_evM d jC_pullGreatest [qP 1 0, qI (nI S)] x = some (some (qI (zI x 53 0 (bo (fun p => zI x 53 0 p) S))), uI x 53 0 (bo (fun p => zI x 53 0 p) S) (nI 0)) := by
  have hl := q_up (w := S) (fun k => qm_evB d jC_pullGreatest 1 [qP 1 0, qI (nI S), qI (nI (bo (fun p => zI x 53 0 p) k)), qI (nI k)] [] x) rfl (fun k hk => by
    have hb : bo (fun p => zI x 53 0 p) k < 48 := by
      by_cases k0 : k = 0
      · subst k0; exact Nat.zero_lt_succ 47
      · have := bo_lt (fun p => zI x 53 0 p) k (by omega); omega
    refine (b_C_pullGreatest_1 ..).trans ?_
    by_cases q : zI x 53 0 (bo (fun p => zI x 53 0 p) k) < zI x 53 0 k
    · have e : bo (fun p => zI x 53 0 p) (k + 1) = k := if_pos q
      have q' := Int32.not_le.mpr q
      rw [e]
      simp (config := {maxSteps := 1000000}) (disch := first | omega | assumption | (simp only [qm_wid_n, qm_wid_I, qm_wid_L, qm_wid_P]; omega) | (simp only [qm_wid_n, qm_wid_I, qm_wid_L, qm_wid_P]; done) | fail) only [b_C_pullGreatest_2, qy0, qy1, qy2, qy3, qe, qcn, qin, ↓reduceIte, Nat.reduceEqDiff, Nat.reduceLeDiff, Bool.false_eq_true, Nat.reduceAdd, Nat.reduceSub, Nat.reduceMul, Nat.reduceLT, or_self, or_false, false_or, or_true, true_or, and_self, and_true, true_and, and_false, false_and, not_true_eq_false, not_false_eq_true, q']
    · have e : bo (fun p => zI x 53 0 p) (k + 1) = bo (fun p => zI x 53 0 p) k := if_neg q
      have q' := Int32.not_lt.mp q
      rw [e]
      simp (config := {maxSteps := 1000000}) (disch := first | omega | assumption | (simp only [qm_wid_n, qm_wid_I, qm_wid_L, qm_wid_P]; omega) | (simp only [qm_wid_n, qm_wid_I, qm_wid_L, qm_wid_P]; done) | fail) only [b_C_pullGreatest_2, qy0, qy1, qy2, qy3, qe, qcn, qin, ↓reduceIte, Nat.reduceEqDiff, Nat.reduceLeDiff, Bool.false_eq_true, Nat.reduceAdd, Nat.reduceSub, Nat.reduceMul, Nat.reduceLT, or_self, or_false, false_or, or_true, true_or, and_self, and_true, true_and, and_false, false_and, not_true_eq_false, not_false_eq_true, q']) 1 h1
  rw [bo_1] at hl
  have hb := bo_lt (fun p => zI x 53 0 p) S h1
  simp (config := {maxSteps := 1000000}) (disch := first | omega | assumption | (simp only [qm_wid_n, qm_wid_I, qm_wid_L, qm_wid_P]; omega) | (simp only [qm_wid_n, qm_wid_I, qm_wid_L, qm_wid_P]; done) | fail) only [e_C_pullGreatest, b_C_pullGreatest_0, qy0, qy1, qy2, qy3, qe, qcn, qin, ↓reduceIte, Nat.reduceEqDiff, Nat.reduceLeDiff, Bool.false_eq_true, Nat.reduceAdd, Nat.reduceSub, Nat.reduceMul, Nat.reduceLT, or_self, or_false, false_or, or_true, true_or, and_self, and_true, true_and, and_false, false_and, not_true_eq_false, not_false_eq_true]
  refine hl.trans ?_
  generalize bo (fun p => zI x 53 0 p) S = B at hb
  simp (config := {maxSteps := 1000000}) (disch := first | omega | assumption | (simp only [qm_wid_n, qm_wid_I, qm_wid_L, qm_wid_P]; omega) | (simp only [qm_wid_n, qm_wid_I, qm_wid_L, qm_wid_P]; done) | fail) only [b_C_pullGreatest_1, b_C_pullGreatest_3, qy0, qy1, qy2, qy3, qe, qcn, qin, ↓reduceIte, Nat.reduceEqDiff, Nat.reduceLeDiff, Bool.false_eq_true, Nat.reduceAdd, Nat.reduceSub, Nat.reduceMul, Nat.reduceLT, or_self, or_false, false_or, or_true, true_or, and_self, and_true, true_and, and_false, false_and, not_true_eq_false, not_false_eq_true]
theorem c_winter_l (d : Nat) {s : qm_Hp} {w S : Nat} {lim : Int32} {h : Nat → Nat → Int32} {y k : VW} {tp : Nat → Int32} {fd : Nat} {fa pl : Int32} {T : Nat → TX} (okp : OKP w y) (hS : S = spl y w) (hh : ∀ c z, c < w → z < cn y c → nI 0 ≤ h c z) : ∀ m t x, t + m = S → RC x w y k tp fd fa pl T → fp CP s x → wH h y w (fun p => zI x 53 0 p) (wst h y w t).1 → ∃ x', qm_evB (d + 1) jC_winter 2 [qP 1 0, qI lim, qI (nI S), qI (wst h y w t).2, qI (nI (t + 1))] [] x = some (some (qI (wan h y w lim m t)), x') ∧ RC x' w y k tp fd fa pl T ∧ fp CP s x' := by
  have hle := spl_le okp w (Nat.le_refl _)
  have hw6 := okp.1.2
  intro m
  induction m with
  | zero =>
    intro t x ht hR hf hH
    refine ⟨x, (b_C_winter_2 ..).trans ?_, hR, hf⟩
    simp (config := {maxSteps := 1000000}) (disch := first | omega | assumption | (simp only [qm_wid_n, qm_wid_I, qm_wid_L, qm_wid_P]; omega) | (simp only [qm_wid_n, qm_wid_I, qm_wid_L, qm_wid_P]; done) | fail) only [b_C_winter_4, qy0, qy1, qy2, qy3, qe, qcn, qin, ↓reduceIte, Nat.reduceEqDiff, Nat.reduceLeDiff, Bool.false_eq_true, Nat.reduceAdd, Nat.reduceSub, Nat.reduceMul, Nat.reduceLT, or_self, or_false, false_or, or_true, true_or, and_self, and_true, true_and, and_false, false_and, not_true_eq_false, not_false_eq_true, wan]
  | succ m ih =>
    intro t x ht hR hf hH
    obtain ⟨q, e, q1, q2, q3⟩ := wpk_s (h := h) (t := t) okp (by omega)
    obtain ⟨r1, r2, r3⟩ := wH_s okp hh hH (by omega) e
    rw [← hS] at r1 r2 r3
    have hpu := c_pull d x S (by omega) (by omega)
    rw [r1] at hpu
    generalize bo (fun p => zI x 53 0 p) S = B at hpu r2 r3
    have hR2 : RC (uI x 53 0 B (nI 0)) w y k tp fd fa pl T := RC_SP (fp_uI (by unfold SP; omega) (fp_refl _ _) _ _) (fun p hp => hR.2.2.1 p hp) hR
    have hf2 : fp CP s (uI x 53 0 B (nI 0)) := fp_uI (by unfold CP; omega) hf _ _
    have eH : (fun p => zI (uI x 53 0 B (nI 0)) 53 0 p) = fun p => if p = B then nI 0 else zI x 53 0 p := funext fun p => by
      rw [zI_uI]
      by_cases g : p = B
      · rw [if_pos ⟨rfl, rfl, g⟩, if_pos g]
      · rw [if_neg (fun z => g z.2.2), if_neg g]
    have e2 : (wst h y w (t + 1)).2 = (wst h y w t).2 + h q.1 q.2 := by rw [wst_s e]
    unfold wan
    by_cases hlt : (wst h y w (t + 1)).2 < lim
    · rw [if_pos hlt]
      obtain ⟨x', g1, g2, g3⟩ := ih (t + 1) (uI x 53 0 B (nI 0)) (by omega) hR2 hf2 (by rw [eH]; exact r3)
      refine ⟨x', ?_, g2, g3⟩
      rw [← g1]
      refine (b_C_winter_2 ..).trans ?_
      rw [e2] at hlt ⊢
      simp (config := {maxSteps := 1000000}) (disch := first | omega | assumption | (simp only [qm_wid_n, qm_wid_I, qm_wid_L, qm_wid_P]; omega) | (simp only [qm_wid_n, qm_wid_I, qm_wid_L, qm_wid_P]; done) | fail) only [b_C_winter_3, qy0, qy1, qy2, qy3, qe, qcn, qin, ↓reduceIte, Nat.reduceEqDiff, Nat.reduceLeDiff, Bool.false_eq_true, Nat.reduceAdd, Nat.reduceSub, Nat.reduceMul, Nat.reduceLT, or_self, or_false, false_or, or_true, true_or, and_self, and_true, true_and, and_false, false_and, not_true_eq_false, not_false_eq_true, hpu, hlt]
    · rw [if_neg hlt]
      refine ⟨_, (b_C_winter_2 ..).trans ?_, hR2, hf2⟩
      rw [e2] at hlt
      simp (config := {maxSteps := 1000000}) (disch := first | omega | assumption | (simp only [qm_wid_n, qm_wid_I, qm_wid_L, qm_wid_P]; omega) | (simp only [qm_wid_n, qm_wid_I, qm_wid_L, qm_wid_P]; done) | fail) only [qy0, qy1, qy2, qy3, qe, qcn, qin, ↓reduceIte, Nat.reduceEqDiff, Nat.reduceLeDiff, Bool.false_eq_true, Nat.reduceAdd, Nat.reduceSub, Nat.reduceMul, Nat.reduceLT, or_self, or_false, false_or, or_true, true_or, and_self, and_true, true_and, and_false, false_and, not_true_eq_false, not_false_eq_true, hpu, hlt]
def wc : wO → Int32
  | none => N1
  | some q => nI (8 * q.1 + q.2)
def wm (h : Nat → Nat → Int32) : wO → Int32
  | none => nI 0
  | some q => h q.1 q.2
theorem r_pick (d : Nat) {s : qm_Hp} {w : Nat} {y : VW} {τ : TX} {U : Nat → Int32} (hP : PM s 0 w y) (ok : OKP w y) (hb : zI s 9 0 2 = nI 0) (hL : LM s τ) (okt : OKT τ) (hU : ∀ j, j < 48 → zI s 76 0 j = U j) (lim sm n : Int32) (a7 : qm_AV) : ∃ x' a7', qm_evB (d + 5) jM_winter 5 [qP 9 0, qI lim, qI sm, qI n, qI N1, qI (nI 0), qI (nI 0), a7] [] s = qm_evB (d + 5) jM_winter 10 [qP 9 0, qI lim, qI sm, qI n, qI (wc (wpk (heat τ y w) y w U)), qI (wm (heat τ y w) (wpk (heat τ y w) y w U)), qI (nI w), a7'] [] x' ∧ fr [65, 66, 67] s x' := by
  have hw6 := ok.1.2
  have hnl : (N1 < nI 0) = True := eq_true (by decide)
  obtain ⟨x', a7', e, _, q1⟩ := q_l3 w (cn y) wid (wg (heat τ y w) U) wid (fun c b x => wJ y w U c 0 b ∧ fr [65, 66, 67] s x) (fun c z b x => wJ y w U c z b ∧ fr [65, 66, 67] s x) (fun c b x (a : qm_AV) => qm_evB (d + 5) jM_winter 5 [qP 9 0, qI lim, qI sm, qI n, qI (wc b), qI (wm (heat τ y w) b), qI (nI c), a] [] x) (fun c z b x (_ : Unit) => qm_evB (d + 5) jM_winter 6 [qP 9 0, qI lim, qI sm, qI n, qI (wc b), qI (wm (heat τ y w) b), qI (nI c), qI (nI z)] [] x) (fun c b x a hc hs => by
      have hww := (PM_scr hs.2 hP).1
      refine ⟨⟨(), ?_⟩, hs⟩
      refine (b_M_winter_5 ..).trans ?_
      simp (config := {maxSteps := 1000000}) (disch := first | omega | assumption | (simp only [qm_wid_n, qm_wid_I, qm_wid_L, qm_wid_P]; omega) | (simp only [qm_wid_n, qm_wid_I, qm_wid_L, qm_wid_P]; done) | fail) only [qy0, qy1, qy2, qy3, qe, qcn, qin, ↓reduceIte, Nat.reduceEqDiff, Nat.reduceLeDiff, Bool.false_eq_true, Nat.reduceAdd, Nat.reduceSub, Nat.reduceMul, Nat.reduceLT, or_self, or_false, false_or, or_true, true_or, and_self, and_true, true_and, and_false, false_and, not_true_eq_false, not_false_eq_true, hww, wid]) (fun c z b x _ hc hz hs => by
      have hPx := PM_scr hs.2 hP
      have hbx : zI x 9 0 2 = nI 0 := (hs.2.1 9 0 2 (by decide)).trans hb
      have h8 := OK_n ok hc
      have hct := r_count (d + 4) hPx ok hbx (by decide) hc
      have hux : zI x 76 0 (8 * c + z) = U (8 * c + z) := (hs.2.1 76 0 _ (by decide)).trans (hU _ (by omega))
      have hJ : wJ y w U c (z + 1) (wg (heat τ y w) U c z b) := by
        obtain ⟨j1, j2⟩ := hs.1
        unfold wg
        by_cases hu : U (8 * c + z) = nI 0
        · rw [if_neg (fun g => g hu)]
          cases b with
          | none => exact ⟨(fun e => by cases e), fun q e => by cases e; exact ⟨hc, hz, hu⟩⟩
          | some q0 =>
            rw [wg2_s]
            by_cases h2 : heat τ y w q0.1 q0.2 < heat τ y w c z
            · rw [if_pos h2]; exact ⟨(fun e => by cases e), fun q e => by cases e; exact ⟨hc, hz, hu⟩⟩
            · rw [if_neg h2]; exact ⟨(fun e => by cases e), j2⟩
        · rw [if_pos hu]
          refine ⟨fun e => ?_, j2⟩
          have := j1 e
          show uw y U c + (uz U c z + (if U (8 * c + z) = nI 0 then 0 else 1)) = _
          rw [if_neg hu]; omega
      obtain ⟨x2, g1, g2⟩ := r_heat d hPx ok hbx (by decide) (LM_scr hs.2 hL) okt hc hz
      have hPx2 := PM_scr g2 hPx
      have hbx2 : zI x2 9 0 2 = nI 0 := (g2.1 9 0 2 (by decide)).trans hbx
      obtain ⟨x3, g3, g4⟩ := r_heat d hPx2 ok hbx2 (by decide) (LM_scr g2 (LM_scr hs.2 hL)) okt hc hz
      by_cases hu : U (8 * c + z) = nI 0
      · rw [hu] at hux
        have ew : wg (heat τ y w) U c z b = wg2 (heat τ y w) c z b := by unfold wg; rw [if_neg (fun g => g hu)]
        rw [ew] at hJ ⊢
        cases b with
        | none =>
          refine ⟨x2, (), (b_M_winter_6 ..).trans ?_, hJ, fr_trans hs.2 g2⟩
          simp (config := {maxSteps := 1000000}) (disch := first | omega | assumption | (simp only [qm_wid_n, qm_wid_I, qm_wid_L, qm_wid_P]; omega) | (simp only [qm_wid_n, qm_wid_I, qm_wid_L, qm_wid_P]; done) | fail) only [b_M_winter_7, b_M_winter_8, qy0, qy1, qy2, qy3, qe, qcn, qin, ↓reduceIte, Nat.reduceEqDiff, Nat.reduceLeDiff, Bool.false_eq_true, Nat.reduceAdd, Nat.reduceSub, Nat.reduceMul, Nat.reduceLT, or_self, or_false, false_or, or_true, true_or, and_self, and_true, true_and, and_false, false_and, not_true_eq_false, not_false_eq_true, hct, hux, wc, wm, hnl, g1, wg2]
        | some q =>
          obtain ⟨k1, k2, k3⟩ := hs.1.2 q rfl
          have h8q := OK_n ok k1
          rw [wg2_s] at hJ ⊢
          by_cases h2 : heat τ y w q.1 q.2 < heat τ y w c z
          · rw [if_pos h2] at hJ ⊢
            refine ⟨x3, (), (b_M_winter_6 ..).trans ?_, hJ, fr_trans hs.2 (fr_trans g2 g4)⟩
            simp (config := {maxSteps := 1000000}) (disch := first | omega | assumption | (simp only [qm_wid_n, qm_wid_I, qm_wid_L, qm_wid_P]; omega) | (simp only [qm_wid_n, qm_wid_I, qm_wid_L, qm_wid_P]; done) | fail) only [b_M_winter_7, b_M_winter_8, qy0, qy1, qy2, qy3, qe, qcn, qin, ↓reduceIte, Nat.reduceEqDiff, Nat.reduceLeDiff, Bool.false_eq_true, Nat.reduceAdd, Nat.reduceSub, Nat.reduceMul, Nat.reduceLT, or_self, or_false, false_or, or_true, true_or, and_self, and_true, true_and, and_false, false_and, not_true_eq_false, not_false_eq_true, hct, hux, wc, wm, g1, h2, g3]
          · rw [if_neg h2] at hJ ⊢
            refine ⟨x2, (), (b_M_winter_6 ..).trans ?_, hJ, fr_trans hs.2 g2⟩
            simp (config := {maxSteps := 1000000}) (disch := first | omega | assumption | (simp only [qm_wid_n, qm_wid_I, qm_wid_L, qm_wid_P]; omega) | (simp only [qm_wid_n, qm_wid_I, qm_wid_L, qm_wid_P]; done) | fail) only [b_M_winter_8, qy0, qy1, qy2, qy3, qe, qcn, qin, ↓reduceIte, Nat.reduceEqDiff, Nat.reduceLeDiff, Bool.false_eq_true, Nat.reduceAdd, Nat.reduceSub, Nat.reduceMul, Nat.reduceLT, or_self, or_false, false_or, or_true, true_or, and_self, and_true, true_and, and_false, false_and, not_true_eq_false, not_false_eq_true, hct, hux, wc, wm, g1, h2]
      · have ew : wg (heat τ y w) U c z b = b := by unfold wg; rw [if_pos hu]
        rw [ew] at hJ ⊢
        refine ⟨x, (), (b_M_winter_6 ..).trans ?_, hJ, hs.2⟩
        simp (config := {maxSteps := 1000000}) (disch := first | omega | assumption | (simp only [qm_wid_n, qm_wid_I, qm_wid_L, qm_wid_P]; omega) | (simp only [qm_wid_n, qm_wid_I, qm_wid_L, qm_wid_P]; done) | fail) only [b_M_winter_8, qy0, qy1, qy2, qy3, qe, qcn, qin, ↓reduceIte, Nat.reduceEqDiff, Nat.reduceLeDiff, Bool.false_eq_true, Nat.reduceAdd, Nat.reduceSub, Nat.reduceMul, Nat.reduceLT, or_self, or_false, false_or, or_true, true_or, and_self, and_true, true_and, and_false, false_and, not_true_eq_false, not_false_eq_true, hct, hux, hu]) (fun c b x _ hc hs => by
      have hPx := PM_scr hs.2 hP
      have hbx : zI x 9 0 2 = nI 0 := (hs.2.1 9 0 2 (by decide)).trans hb
      have h8 := OK_n ok hc
      have hct := r_count (d + 4) hPx ok hbx (by decide) hc
      refine ⟨x, qI (nI (cn y c)), ?_, ⟨fun e => ?_, hs.1.2⟩, hs.2⟩
      · refine (b_M_winter_6 ..).trans ?_
        simp (config := {maxSteps := 1000000}) (disch := first | omega | assumption | (simp only [qm_wid_n, qm_wid_I, qm_wid_L, qm_wid_P]; omega) | (simp only [qm_wid_n, qm_wid_I, qm_wid_L, qm_wid_P]; done) | fail) only [b_M_winter_9, qy0, qy1, qy2, qy3, qe, qcn, qin, ↓reduceIte, Nat.reduceEqDiff, Nat.reduceLeDiff, Bool.false_eq_true, Nat.reduceAdd, Nat.reduceSub, Nat.reduceMul, Nat.reduceLT, or_self, or_false, false_or, or_true, true_or, and_self, and_true, true_and, and_false, false_and, not_true_eq_false, not_false_eq_true, hct, wid]
      · have := hs.1.1 e
        show uw y U c + uz U c (cn y c) + 0 = spl y c + cn y c + 0
        omega) none s a7 ⟨⟨fun _ => rfl, fun q e => by cases e⟩, fr_refl _ _⟩
  have hww := (PM_scr q1 hP).1
  refine ⟨x', a7', ?_, q1⟩
  have e' : qm_evB (d + 5) jM_winter 5 [qP 9 0, qI lim, qI sm, qI n, qI N1, qI (nI 0), qI (nI 0), a7] [] s = qm_evB (d + 5) jM_winter 5 [qP 9 0, qI lim, qI sm, qI n, qI (wc (wpk (heat τ y w) y w U)), qI (wm (heat τ y w) (wpk (heat τ y w) y w U)), qI (nI w), a7'] [] x' := e
  refine e'.trans ?_
  refine (b_M_winter_5 ..).trans ?_
  simp (config := {maxSteps := 1000000}) (disch := first | omega | assumption | (simp only [qm_wid_n, qm_wid_I, qm_wid_L, qm_wid_P]; omega) | (simp only [qm_wid_n, qm_wid_I, qm_wid_L, qm_wid_P]; done) | fail) only [qy0, qy1, qy2, qy3, qe, qcn, qin, ↓reduceIte, Nat.reduceEqDiff, Nat.reduceLeDiff, Bool.false_eq_true, Nat.reduceAdd, Nat.reduceSub, Nat.reduceMul, Nat.reduceLT, or_self, or_false, false_or, or_true, true_or, and_self, and_true, true_and, and_false, false_and, not_true_eq_false, not_false_eq_true, hww]
theorem r_winter_l (d : Nat) {s : qm_Hp} {w S : Nat} {lim : Int32} {y k : VW} {tp : Nat → Int32} {fd : Nat} {fa pl : Int32} {T : Nat → TX} (ok : OKG w y k tp fd T) (hS : S = spl y w) : ∀ m t x a4 a5 a6 a7, t + m = S → RM x w y k tp fd fa pl T → fp MP s x → (∀ j, j < 48 → zI x 76 0 j = (wst (heat (rul T y) y w) y w t).1 j) → ∃ x', qm_evB (d + 5) jM_winter 4 [qP 9 0, qI lim, qI (wst (heat (rul T y) y w) y w t).2, qI (nI (t + 1)), a4, a5, a6, a7] [] x = some (some (qI (wan (heat (rul T y) y w) y w lim m t)), x') ∧ RM x' w y k tp fd fa pl T ∧ fp MP s x' := by
  have okp := ok.1.1
  have hw6 := okp.1.2
  have hle := spl_le okp w (Nat.le_refl _)
  intro m
  induction m with
  | zero =>
    intro t x a4 a5 a6 a7 ht hR hf hU
    have hsp := r_splits (d + 3) hR.2.1.1 okp hR.1.1 (by decide)
    refine ⟨x, (b_M_winter_4 ..).trans ?_, hR, hf⟩
    simp (config := {maxSteps := 1000000}) (disch := first | omega | assumption | (simp only [qm_wid_n, qm_wid_I, qm_wid_L, qm_wid_P]; omega) | (simp only [qm_wid_n, qm_wid_I, qm_wid_L, qm_wid_P]; done) | fail) only [b_M_winter_12, qy0, qy1, qy2, qy3, qe, qcn, qin, ↓reduceIte, Nat.reduceEqDiff, Nat.reduceLeDiff, Bool.false_eq_true, Nat.reduceAdd, Nat.reduceSub, Nat.reduceMul, Nat.reduceLT, or_self, or_false, false_or, or_true, true_or, and_self, and_true, true_and, and_false, false_and, not_true_eq_false, not_false_eq_true, hsp, wan]
  | succ m ih =>
    intro t x a4 a5 a6 a7 ht hR hf hU
    have hsp := r_splits (d + 3) hR.2.1.1 okp hR.1.1 (by decide)
    obtain ⟨q, e, q1, q2, q3⟩ := wpk_s (h := heat (rul T y) y w) (t := t) okp (by omega)
    have h8 := OK_n okp q1
    obtain ⟨x1, a7', e1, f1⟩ := r_pick d hR.2.1.1 okp hR.1.1 (RM_LM hR ok) (ok_rul ok) hU lim (wst (heat (rul T y) y w) y w t).2 (nI (t + 1)) a7
    rw [e] at e1
    have hR1 : RM x1 w y k tp fd fa pl T := RM_fr hw6 (K := [65, 66, 67]) (by decide) f1 hR
    have hR2 : RM (uI x1 76 0 (8 * q.1 + q.2) (nI 1)) w y k tp fd fa pl T := RM_fr hw6 (K := [76]) (s := x1) (by decide) (fr_uI (K := [76]) (k := 76) (by decide) (fr_refl _ _) _ _ _) hR1
    have hf2 : fp MP s (uI x1 76 0 (8 * q.1 + q.2) (nI 1)) := fp_uI (by unfold MP; omega) (fp_trans hf (fr_MP f1)) _ _
    have hU2 : ∀ j, j < 48 → zI (uI x1 76 0 (8 * q.1 + q.2) (nI 1)) 76 0 j = (wst (heat (rul T y) y w) y w (t + 1)).1 j := fun j hj => by
      rw [wst_s e, zI_uI]
      show _ = if j = 8 * q.1 + q.2 then nI 1 else (wst (heat (rul T y) y w) y w t).1 j
      by_cases g : j = 8 * q.1 + q.2
      · rw [if_pos ⟨rfl, rfl, g⟩, if_pos g]
      · rw [if_neg (fun z => g z.2.2), if_neg g, f1.1 76 0 j (by decide)]; exact hU j hj
    have e2 : (wst (heat (rul T y) y w) y w (t + 1)).2 = (wst (heat (rul T y) y w) y w t).2 + heat (rul T y) y w q.1 q.2 := by rw [wst_s e]
    have start : qm_evB (d + 5) jM_winter 4 [qP 9 0, qI lim, qI (wst (heat (rul T y) y w) y w t).2, qI (nI (t + 1)), a4, a5, a6, a7] [] x = qm_evB (d + 5) jM_winter 5 [qP 9 0, qI lim, qI (wst (heat (rul T y) y w) y w t).2, qI (nI (t + 1)), qI N1, qI (nI 0), qI (nI 0), a7] [] x := by
      refine (b_M_winter_4 ..).trans ?_
      simp (config := {maxSteps := 1000000}) (disch := first | omega | assumption | (simp only [qm_wid_n, qm_wid_I, qm_wid_L, qm_wid_P]; omega) | (simp only [qm_wid_n, qm_wid_I, qm_wid_L, qm_wid_P]; done) | fail) only [qy0, qy1, qy2, qy3, qe, qcn, qin, ↓reduceIte, Nat.reduceEqDiff, Nat.reduceLeDiff, Bool.false_eq_true, Nat.reduceAdd, Nat.reduceSub, Nat.reduceMul, Nat.reduceLT, or_self, or_false, false_or, or_true, true_or, and_self, and_true, true_and, and_false, false_and, not_true_eq_false, not_false_eq_true, hsp]
    unfold wan
    by_cases hlt : (wst (heat (rul T y) y w) y w (t + 1)).2 < lim
    · rw [if_pos hlt]
      obtain ⟨x', g1, g2, g3⟩ := ih (t + 1) (uI x1 76 0 (8 * q.1 + q.2) (nI 1)) (qI (nI (8 * q.1 + q.2))) (qI (heat (rul T y) y w q.1 q.2)) (qI (nI w)) a7' (by omega) hR2 hf2 hU2
      refine ⟨x', start.trans (e1.trans ?_), g2, g3⟩
      rw [← g1]
      refine (b_M_winter_10 ..).trans ?_
      rw [e2] at hlt ⊢
      simp (config := {maxSteps := 1000000}) (disch := first | omega | assumption | (simp only [qm_wid_n, qm_wid_I, qm_wid_L, qm_wid_P]; omega) | (simp only [qm_wid_n, qm_wid_I, qm_wid_L, qm_wid_P]; done) | fail) only [b_M_winter_11, qy0, qy1, qy2, qy3, qe, qcn, qin, ↓reduceIte, Nat.reduceEqDiff, Nat.reduceLeDiff, Bool.false_eq_true, Nat.reduceAdd, Nat.reduceSub, Nat.reduceMul, Nat.reduceLT, or_self, or_false, false_or, or_true, true_or, and_self, and_true, true_and, and_false, false_and, not_true_eq_false, not_false_eq_true, wc, wm, hlt]
    · rw [if_neg hlt]
      refine ⟨_, start.trans (e1.trans ((b_M_winter_10 ..).trans ?_)), hR2, hf2⟩
      rw [e2] at hlt
      simp (config := {maxSteps := 1000000}) (disch := first | omega | assumption | (simp only [qm_wid_n, qm_wid_I, qm_wid_L, qm_wid_P]; omega) | (simp only [qm_wid_n, qm_wid_I, qm_wid_L, qm_wid_P]; done) | fail) only [qy0, qy1, qy2, qy3, qe, qcn, qin, ↓reduceIte, Nat.reduceEqDiff, Nat.reduceLeDiff, Bool.false_eq_true, Nat.reduceAdd, Nat.reduceSub, Nat.reduceMul, Nat.reduceLT, or_self, or_false, false_or, or_true, true_or, and_self, and_true, true_and, and_false, false_and, not_true_eq_false, not_false_eq_true, wc, wm, hlt]
theorem c_winter_s (d : Nat) {s x : qm_Hp} {a : Int32} {S : Nat} (h : nI 1 ≤ a ∧ a ≤ nI 999999) (g : qm_evM (d + 39) jC_listHeats [qP 1 0] s = some (some (qI (nI S)), x)) : qm_evM (d + 40) jC_winter [qP 1 0, qI a] s = qm_evB (d + 40) jC_winter 2 [qP 1 0, qI a, qI (nI S), qI (nI 0), qI (nI 1)] [] x := by
  simp (config := {maxSteps := 1000000}) (disch := first | omega | assumption | (simp only [qm_wid_n, qm_wid_I, qm_wid_L, qm_wid_P]; omega) | (simp only [qm_wid_n, qm_wid_I, qm_wid_L, qm_wid_P]; done) | fail) only [e_C_winter, b_C_winter_0, b_C_winter_1, qy0, qy1, qy2, qy3, qe, qcn, qin, ↓reduceIte, Nat.reduceEqDiff, Nat.reduceLeDiff, Bool.false_eq_true, Nat.reduceAdd, Nat.reduceSub, Nat.reduceMul, Nat.reduceLT, or_self, or_false, false_or, or_true, true_or, and_self, and_true, true_and, and_false, false_and, not_true_eq_false, not_false_eq_true, t_within, h, g]
def hus (s : qm_Hp) : Nat → qm_Hp
  | 0 => s
  | n + 1 => uI (hus s n) 76 0 n (nI 0)
theorem hus_e (s : qm_Hp) : ∀ n j, j < n → zI (hus s n) 76 0 j = nI 0
  | 0, j, h => absurd h (Nat.not_lt_zero _)
  | n + 1, j, h => by
    show zI (uI (hus s n) 76 0 n (nI 0)) 76 0 j = _
    rw [zI_uI]
    by_cases g : j = n
    · rw [if_pos ⟨rfl, rfl, g⟩]
    · rw [if_neg (fun z => g z.2.2)]; exact hus_e s n j (by omega)
theorem hus_fr (s : qm_Hp) : ∀ n, fr [76] s (hus s n)
  | 0 => fr_refl _ _
  | n + 1 => fr_uI (by decide) (hus_fr s n) _ _ _
theorem r_winter_s (d : Nat) {s : qm_Hp} {a : Int32} (h : nI 1 ≤ a ∧ a ≤ nI 999999) : qm_evM (d + 40) jM_winter [qP 9 0, qI a] s = qm_evB (d + 40) jM_winter 4 [qP 9 0, qI a, qI (nI 0), qI (nI 1), qU, qU, qU, qU] [] (hus s 48) := by
  have hl := q_up (w := 48) (fun k => qm_evB (d + 40) jM_winter 2 [qP 9 0, qI a, qI (nI k), qU, qU, qU, qU, qU] [] (hus s k)) rfl (fun k hk => by
    refine (b_M_winter_2 ..).trans ?_
    simp (config := {maxSteps := 1000000}) (disch := first | omega | assumption | (simp only [qm_wid_n, qm_wid_I, qm_wid_L, qm_wid_P]; omega) | (simp only [qm_wid_n, qm_wid_I, qm_wid_L, qm_wid_P]; done) | fail) only [qy0, qy1, qy2, qy3, qe, qcn, qin, ↓reduceIte, Nat.reduceEqDiff, Nat.reduceLeDiff, Bool.false_eq_true, Nat.reduceAdd, Nat.reduceSub, Nat.reduceMul, Nat.reduceLT, or_self, or_false, false_or, or_true, true_or, and_self, and_true, true_and, and_false, false_and, not_true_eq_false, not_false_eq_true, hus]) 0 (Nat.zero_le _)
  simp (config := {maxSteps := 1000000}) (disch := first | omega | assumption | (simp only [qm_wid_n, qm_wid_I, qm_wid_L, qm_wid_P]; omega) | (simp only [qm_wid_n, qm_wid_I, qm_wid_L, qm_wid_P]; done) | fail) only [e_M_winter, b_M_winter_0, b_M_winter_1, qy0, qy1, qy2, qy3, qe, qcn, qin, ↓reduceIte, Nat.reduceEqDiff, Nat.reduceLeDiff, Bool.false_eq_true, Nat.reduceAdd, Nat.reduceSub, Nat.reduceMul, Nat.reduceLT, or_self, or_false, false_or, or_true, true_or, and_self, and_true, true_and, and_false, false_and, not_true_eq_false, not_false_eq_true, t_isIn, h]
  refine hl.trans ?_
  generalize hus s 48 = X
  simp (config := {maxSteps := 1000000}) (disch := first | omega | assumption | (simp only [qm_wid_n, qm_wid_I, qm_wid_L, qm_wid_P]; omega) | (simp only [qm_wid_n, qm_wid_I, qm_wid_L, qm_wid_P]; done) | fail) only [b_M_winter_2, b_M_winter_3, qy0, qy1, qy2, qy3, qe, qcn, qin, ↓reduceIte, Nat.reduceEqDiff, Nat.reduceLeDiff, Bool.false_eq_true, Nat.reduceAdd, Nat.reduceSub, Nat.reduceMul, Nat.reduceLT, or_self, or_false, false_or, or_true, true_or, and_self, and_true, true_and, and_false, false_and, not_true_eq_false, not_false_eq_true]
theorem st_winter (d : Nat) (a : Int32) : STP (d + 40) jC_winter jM_winter [qI a] := by
  refine stp_rw fun s w y k tp fd fa pl T hC hM ok => ?_
  have okp := ok.1.1
  have hw6 := okp.1.2
  have okt := ok_rul ok
  by_cases h : nI 1 ≤ a ∧ a ≤ nI 999999
  · have hh : ∀ c z, c < w → z < cn y c → nI 0 ≤ heat (rul T y) y w c z := fun c z hc hz => (rg_inr (by decide) (heat_rg okp hc hz)).1
    obtain ⟨x, g1, g2, g3⟩ := c_listHeats (d + 34) hC.1.1 okp (RC_LC hC ok) okt
    have hRx : RC x w y k tp fd fa pl T := RC_SP (fp_fr (fun k i hk => by
      simp only [List.mem_cons, List.not_mem_nil, or_false] at hk
      unfold SP
      omega) g2) (fun p hp => (g2.1 3 p 0 (by decide)).trans (hC.2.2.1 p hp)) hC
    have hfx : fp CP s x := fp_fr (fun k i hk => by
      simp only [List.mem_cons, List.not_mem_nil, or_false] at hk
      unfold CP
      omega) g2
    obtain ⟨x', e1, e2, e3⟩ := c_winter_l (d + 39) (s := s) (lim := a) okp rfl hh (spl y w) 0 x (Nat.zero_add _) hRx hfx (fun c z hc hz => by
      show zI x 53 0 (spl y c + z) = if nI 0 = nI 0 then _ else _
      rw [if_pos rfl]; exact g3 c z hc hz)
    refine ⟨_, y, k, tp, fd, fa, pl, T, ok, ⟨x', (c_winter_s d h g1).trans e1, e3, e2⟩, fun s1 h1 => ?_⟩
    have hR1 : RM (hus s1 48) w y k tp fd fa pl T := RM_fr hw6 (K := [76]) (by decide) (hus_fr s1 48) h1
    have hf1 : fp MP s1 (hus s1 48) := fp_fr (fun k i hk => by
      simp only [List.mem_cons, List.not_mem_nil, or_false] at hk
      unfold MP
      omega) (hus_fr s1 48)
    obtain ⟨x2, b1, b2, b3⟩ := r_winter_l (d + 35) (s := s1) (lim := a) ok rfl (spl y w) 0 (hus s1 48) qU qU qU qU (Nat.zero_add _) hR1 hf1 (fun j hj => hus_e s1 48 j hj)
    exact ⟨x2, (r_winter_s d h).trans b1, b3, b2⟩
  · refine nochg ok hC N1 ?_ (fun s1 g1 => ?_)
    · simp (config := {maxSteps := 1000000}) (disch := first | omega | assumption | (simp only [qm_wid_n, qm_wid_I, qm_wid_L, qm_wid_P]; omega) | (simp only [qm_wid_n, qm_wid_I, qm_wid_L, qm_wid_P]; done) | fail) only [e_C_winter, b_C_winter_0, qy0, qy1, qy2, qy3, qe, qcn, qin, ↓reduceIte, Nat.reduceEqDiff, Nat.reduceLeDiff, Bool.false_eq_true, Nat.reduceAdd, Nat.reduceSub, Nat.reduceMul, Nat.reduceLT, or_self, or_false, false_or, or_true, true_or, and_self, and_true, true_and, and_false, false_and, not_true_eq_false, not_false_eq_true, t_within, h]
    · simp (config := {maxSteps := 1000000}) (disch := first | omega | assumption | (simp only [qm_wid_n, qm_wid_I, qm_wid_L, qm_wid_P]; omega) | (simp only [qm_wid_n, qm_wid_I, qm_wid_L, qm_wid_P]; done) | fail) only [e_M_winter, b_M_winter_0, qy0, qy1, qy2, qy3, qe, qcn, qin, ↓reduceIte, Nat.reduceEqDiff, Nat.reduceLeDiff, Bool.false_eq_true, Nat.reduceAdd, Nat.reduceSub, Nat.reduceMul, Nat.reduceLT, or_self, or_false, false_or, or_true, true_or, and_self, and_true, true_and, and_false, false_and, not_true_eq_false, not_false_eq_true, t_isIn, h]
