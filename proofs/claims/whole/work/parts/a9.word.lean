/-! the class's words -/
theorem str_len : qm_str.length = 149 := by decide +kernel
theorem str_lenI : Int32.ofNat qm_str.length = nI 149 := by rw [str_len]; rfl
theorem str_ch : ∀ q, q < 149 → qm_str.getD q 0 < 128 := by decide +kernel
theorem y_char (d m : Nat) (c : List qm_Ins) (ls st : List qm_AV) (s : qm_Hp) (i q : Nat) (h : qm_wid st ≤ 8) (hq : q < 149) : qm_ev d m ((88, [], 0) :: c) ls (qI (nI q) :: qP 81 i :: st) s = qm_ev d m c ls (qI (nI (qm_str.getD q 0)) :: st) s := by
  rw [x_char d m c ls st s i (nI q) h (vp_in_nI (by rw [str_len]; exact hq) (by rw [str_len]; decide)), nI_clamp (by omega)]
  rfl
theorem wo_hit (D : Nat) {x : qm_Hp} {f e w j q : Nat} {x7 : qm_AV} (hq : q < 149) (hb : f ≤ 300 ∧ e ≤ 300 ∧ w ≤ 149 ∧ j ≤ 149) (hc : qm_str.getD q 0 = 32) (he : f + j = e) : qm_evB D jK_wordOf 1 [qP 52 0, qI (nI f), qI (nI e), qI (nI w), qI (nI j), qI (nI 1), qI (nI q), x7] [] x = some (some (qI (nI w)), x) := by
  refine (b_K_wordOf_1 ..).trans ?_
  simp (config := {maxSteps := 1000000}) (disch := first | omega | assumption | (simp only [qm_wid_n, qm_wid_I, qm_wid_L, qm_wid_P]; omega) | (simp only [qm_wid_n, qm_wid_I, qm_wid_L, qm_wid_P]; done) | fail) only [qy0, qy1, qy2, qy3, qe, qcn, qin, ↓reduceIte, Nat.reduceEqDiff, Nat.reduceLeDiff, Bool.false_eq_true, Nat.reduceAdd, Nat.reduceSub, Nat.reduceMul, Nat.reduceLT, or_self, or_false, false_or, or_true, true_or, and_self, and_true, true_and, and_false, false_and, not_true_eq_false, not_false_eq_true, str_len, y_char, hc, he]
theorem wo_s0 (D : Nat) {x : qm_Hp} {f e w j q : Nat} {x7 : qm_AV} (hq : q < 149) (hb : f ≤ 300 ∧ e ≤ 300 ∧ w ≤ 149 ∧ j ≤ 149) (hc : qm_str.getD q 0 = 32) : qm_evB D jK_wordOf 1 [qP 52 0, qI (nI f), qI (nI e), qI (nI w), qI (nI j), qI (nI 0), qI (nI q), x7] [] x = qm_evB D jK_wordOf 1 [qP 52 0, qI (nI f), qI (nI e), qI (nI (w + 1)), qI (nI 0), qI (nI 1), qI (nI (q + 1)), qI (nI 32)] [] x := by
  refine (b_K_wordOf_1 ..).trans ?_
  simp (config := {maxSteps := 1000000}) (disch := first | omega | assumption | (simp only [qm_wid_n, qm_wid_I, qm_wid_L, qm_wid_P]; omega) | (simp only [qm_wid_n, qm_wid_I, qm_wid_L, qm_wid_P]; done) | fail) only [b_K_wordOf_2, b_K_wordOf_6, qy0, qy1, qy2, qy3, qe, qcn, qin, ↓reduceIte, Nat.reduceEqDiff, Nat.reduceLeDiff, Bool.false_eq_true, Nat.reduceAdd, Nat.reduceSub, Nat.reduceMul, Nat.reduceLT, or_self, or_false, false_or, or_true, true_or, and_self, and_true, true_and, and_false, false_and, not_true_eq_false, not_false_eq_true, str_len, y_char, hc]
theorem wo_s1 (D : Nat) {x : qm_Hp} {f e w j q : Nat} {x7 : qm_AV} (hq : q < 149) (hb : f ≤ 300 ∧ e ≤ 300 ∧ w ≤ 149 ∧ j ≤ 149) (hc : qm_str.getD q 0 = 32) (he : ¬ f + j = e) : qm_evB D jK_wordOf 1 [qP 52 0, qI (nI f), qI (nI e), qI (nI w), qI (nI j), qI (nI 1), qI (nI q), x7] [] x = qm_evB D jK_wordOf 1 [qP 52 0, qI (nI f), qI (nI e), qI (nI (w + 1)), qI (nI 0), qI (nI 1), qI (nI (q + 1)), qI (nI 32)] [] x := by
  refine (b_K_wordOf_1 ..).trans ?_
  simp (config := {maxSteps := 1000000}) (disch := first | omega | assumption | (simp only [qm_wid_n, qm_wid_I, qm_wid_L, qm_wid_P]; omega) | (simp only [qm_wid_n, qm_wid_I, qm_wid_L, qm_wid_P]; done) | fail) only [b_K_wordOf_2, b_K_wordOf_6, qy0, qy1, qy2, qy3, qe, qcn, qin, ↓reduceIte, Nat.reduceEqDiff, Nat.reduceLeDiff, Bool.false_eq_true, Nat.reduceAdd, Nat.reduceSub, Nat.reduceMul, Nat.reduceLT, or_self, or_false, false_or, or_true, true_or, and_self, and_true, true_and, and_false, false_and, not_true_eq_false, not_false_eq_true, str_len, y_char, hc, he]
theorem wo_c0 (D : Nat) {x : qm_Hp} {f e w j q c : Nat} {x7 : qm_AV} (hq : q < 149) (hb : f ≤ 300 ∧ e ≤ 300 ∧ w ≤ 149 ∧ j ≤ 149) (hc : qm_str.getD q 0 = c) (hc8 : c < 128) (h32 : c ≠ 32) : qm_evB D jK_wordOf 1 [qP 52 0, qI (nI f), qI (nI e), qI (nI w), qI (nI j), qI (nI 0), qI (nI q), x7] [] x = qm_evB D jK_wordOf 1 [qP 52 0, qI (nI f), qI (nI e), qI (nI w), qI (nI (j + 1)), qI (nI 0), qI (nI (q + 1)), qI (nI c)] [] x := by
  refine (b_K_wordOf_1 ..).trans ?_
  simp (config := {maxSteps := 1000000}) (disch := first | omega | assumption | (simp only [qm_wid_n, qm_wid_I, qm_wid_L, qm_wid_P]; omega) | (simp only [qm_wid_n, qm_wid_I, qm_wid_L, qm_wid_P]; done) | fail) only [b_K_wordOf_3, b_K_wordOf_4, b_K_wordOf_5, b_K_wordOf_6, qy0, qy1, qy2, qy3, qe, qcn, qin, ↓reduceIte, Nat.reduceEqDiff, Nat.reduceLeDiff, Bool.false_eq_true, Nat.reduceAdd, Nat.reduceSub, Nat.reduceMul, Nat.reduceLT, or_self, or_false, false_or, or_true, true_or, and_self, and_true, true_and, and_false, false_and, not_true_eq_false, not_false_eq_true, str_len, y_char, hc]
theorem wo_c1 (D : Nat) {x : qm_Hp} {f e w j q c : Nat} {x7 : qm_AV} (hq : q < 149) (hb : f ≤ 300 ∧ e ≤ 300 ∧ w ≤ 149 ∧ j ≤ 149) (hc : qm_str.getD q 0 = c) (hc8 : c < 128) (h32 : c ≠ 32) (hl : ¬ f + j < e) : qm_evB D jK_wordOf 1 [qP 52 0, qI (nI f), qI (nI e), qI (nI w), qI (nI j), qI (nI 1), qI (nI q), x7] [] x = qm_evB D jK_wordOf 1 [qP 52 0, qI (nI f), qI (nI e), qI (nI w), qI (nI (j + 1)), qI (nI 0), qI (nI (q + 1)), qI (nI c)] [] x := by
  refine (b_K_wordOf_1 ..).trans ?_
  simp (config := {maxSteps := 1000000}) (disch := first | omega | assumption | (simp only [qm_wid_n, qm_wid_I, qm_wid_L, qm_wid_P]; omega) | (simp only [qm_wid_n, qm_wid_I, qm_wid_L, qm_wid_P]; done) | fail) only [b_K_wordOf_3, b_K_wordOf_4, b_K_wordOf_5, b_K_wordOf_6, qy0, qy1, qy2, qy3, qe, qcn, qin, ↓reduceIte, Nat.reduceEqDiff, Nat.reduceLeDiff, Bool.false_eq_true, Nat.reduceAdd, Nat.reduceSub, Nat.reduceMul, Nat.reduceLT, or_self, or_false, false_or, or_true, true_or, and_self, and_true, true_and, and_false, false_and, not_true_eq_false, not_false_eq_true, str_len, y_char, hc]
theorem wo_c2 (D : Nat) {x : qm_Hp} {f e w j q c b : Nat} {x7 : qm_AV} (hq : q < 149) (hb : f ≤ 300 ∧ e ≤ 300 ∧ w ≤ 149 ∧ j ≤ 149) (hc : qm_str.getD q 0 = c) (hc8 : c < 128) (h32 : c ≠ 32) (hl : f + j < e) (hz : zI x 52 0 (f + j) = nI b) (hb8 : b < 256) (hn : ¬ b = c) : qm_evB D jK_wordOf 1 [qP 52 0, qI (nI f), qI (nI e), qI (nI w), qI (nI j), qI (nI 1), qI (nI q), x7] [] x = qm_evB D jK_wordOf 1 [qP 52 0, qI (nI f), qI (nI e), qI (nI w), qI (nI (j + 1)), qI (nI 0), qI (nI (q + 1)), qI (nI c)] [] x := by
  refine (b_K_wordOf_1 ..).trans ?_
  simp (config := {maxSteps := 1000000}) (disch := first | omega | assumption | (simp only [qm_wid_n, qm_wid_I, qm_wid_L, qm_wid_P]; omega) | (simp only [qm_wid_n, qm_wid_I, qm_wid_L, qm_wid_P]; done) | fail) only [b_K_wordOf_3, b_K_wordOf_4, b_K_wordOf_5, b_K_wordOf_6, qy0, qy1, qy2, qy3, qe, qcn, qin, ↓reduceIte, Nat.reduceEqDiff, Nat.reduceLeDiff, Bool.false_eq_true, Nat.reduceAdd, Nat.reduceSub, Nat.reduceMul, Nat.reduceLT, or_self, or_false, false_or, or_true, true_or, and_self, and_true, true_and, and_false, false_and, not_true_eq_false, not_false_eq_true, str_len, y_char, hc, hz]
theorem wo_c3 (D : Nat) {x : qm_Hp} {f e w j q c : Nat} {x7 : qm_AV} (hq : q < 149) (hb : f ≤ 300 ∧ e ≤ 300 ∧ w ≤ 149 ∧ j ≤ 149) (hc : qm_str.getD q 0 = c) (hc8 : c < 128) (h32 : c ≠ 32) (hl : f + j < e) (hz : zI x 52 0 (f + j) = nI c) : qm_evB D jK_wordOf 1 [qP 52 0, qI (nI f), qI (nI e), qI (nI w), qI (nI j), qI (nI 1), qI (nI q), x7] [] x = qm_evB D jK_wordOf 1 [qP 52 0, qI (nI f), qI (nI e), qI (nI w), qI (nI (j + 1)), qI (nI 1), qI (nI (q + 1)), qI (nI c)] [] x := by
  refine (b_K_wordOf_1 ..).trans ?_
  simp (config := {maxSteps := 1000000}) (disch := first | omega | assumption | (simp only [qm_wid_n, qm_wid_I, qm_wid_L, qm_wid_P]; omega) | (simp only [qm_wid_n, qm_wid_I, qm_wid_L, qm_wid_P]; done) | fail) only [b_K_wordOf_3, b_K_wordOf_5, b_K_wordOf_6, qy0, qy1, qy2, qy3, qe, qcn, qin, ↓reduceIte, Nat.reduceEqDiff, Nat.reduceLeDiff, Bool.false_eq_true, Nat.reduceAdd, Nat.reduceSub, Nat.reduceMul, Nat.reduceLT, or_self, or_false, false_or, or_true, true_or, and_self, and_true, true_and, and_false, false_and, not_true_eq_false, not_false_eq_true, str_len, y_char, hc, hz]
theorem wo_e (D : Nat) {x : qm_Hp} {f e w j sm : Nat} {x7 : qm_AV} : qm_evB D jK_wordOf 1 [qP 52 0, qI (nI f), qI (nI e), qI (nI w), qI (nI j), qI (nI sm), qI (nI 149), x7] [] x = some (some (qI (nI 42)), x) := by
  refine (b_K_wordOf_1 ..).trans ?_
  simp (config := {maxSteps := 1000000}) (disch := first | omega | assumption | (simp only [qm_wid_n, qm_wid_I, qm_wid_L, qm_wid_P]; omega) | (simp only [qm_wid_n, qm_wid_I, qm_wid_L, qm_wid_P]; done) | fail) only [b_K_wordOf_7, qy0, qy1, qy2, qy3, qe, qcn, qin, ↓reduceIte, Nat.reduceEqDiff, Nat.reduceLeDiff, Bool.false_eq_true, Nat.reduceAdd, Nat.reduceSub, Nat.reduceMul, Nat.reduceLT, or_self, or_false, false_or, or_true, true_or, and_self, and_true, true_and, and_false, false_and, not_true_eq_false, not_false_eq_true, str_len]
theorem wo_l (D : Nat) {B : Nat → Nat} {x : qm_Hp} {f e : Nat} (hB : ∀ j, j < e → zI x 52 0 j = nI (B j) ∧ B j < 256) (hf : f ≤ 300 ∧ e ≤ 300) : ∀ cs q w j sm x7, qm_str.drop q = cs → q + cs.length = 149 → w ≤ q → j ≤ q → qm_evB D jK_wordOf 1 [qP 52 0, qI (nI f), qI (nI e), qI (nI w), qI (nI j), qI (nI (if sm = true then 1 else 0)), qI (nI q), x7] [] x = some (some (qI (nI (wo B f e cs w j sm))), x) := by
  intro cs
  induction cs with
  | nil =>
    intro q w j sm x7 _ hq _ _
    have e : q = 149 := hq
    subst e
    exact wo_e D
  | cons c cs ih =>
    intro q w j sm x7 hd hq hw hj
    have hq' : q < 149 := by rw [List.length_cons] at hq; omega
    have hc : qm_str.getD q 0 = c := by
      have := congrArg (fun l => l.getD 0 0) hd
      simp only [List.getD_eq_getElem?_getD, List.getElem?_drop, Nat.add_zero] at this
      rw [List.getD_eq_getElem?_getD]
      exact this
    have hd' : qm_str.drop (q + 1) = cs := by
      have := congrArg List.tail hd
      rw [List.tail_drop] at this
      exact this
    have hc8 : c < 128 := by rw [← hc]; exact str_ch q hq'
    have hb : f ≤ 300 ∧ e ≤ 300 ∧ w ≤ 149 ∧ j ≤ 149 := ⟨hf.1, hf.2, by omega, by omega⟩
    have hq1 : q + 1 + cs.length = 149 := by rw [List.length_cons] at hq; omega
    unfold wo
    by_cases h32 : c = 32
    · rw [if_pos h32]
      rw [h32] at hc
      have ihs := ih (q + 1) (w + 1) 0 true (qI (nI 32)) hd' hq1 (by omega) (by omega)
      rw [if_pos rfl] at ihs
      cases sm with
      | false =>
        rw [if_neg (show ¬ (false = true ∧ f + j = e) from fun g => absurd g.1 (by decide))]
        exact (wo_s0 D hq' hb hc).trans ihs
      | true =>
        rw [if_pos rfl]
        by_cases he : f + j = e
        · rw [if_pos ⟨rfl, he⟩]
          exact wo_hit D hq' hb hc he
        · rw [if_neg (fun g => he g.2)]
          exact (wo_s1 D hq' hb hc he).trans ihs
    · rw [if_neg h32]
      have iht := fun sm' => ih (q + 1) w (j + 1) sm' (qI (nI c)) hd' hq1 (by omega) (by omega)
      cases sm with
      | false =>
        exact (wo_c0 D hq' hb hc hc8 h32).trans (iht false)
      | true =>
        rw [if_pos rfl]
        by_cases hl : f + j < e
        · obtain ⟨hz, hb8⟩ := hB (f + j) hl
          by_cases hn : B (f + j) = c
          · have e1 : (true && decide (f + j < e ∧ B (f + j) = c)) = true := by rw [Bool.true_and]; exact decide_eq_true ⟨hl, hn⟩
            rw [e1]
            have := iht true
            rw [if_pos rfl] at this
            exact (wo_c3 D hq' hb hc hc8 h32 hl (by rw [hz, hn])).trans this
          · have e1 : (true && decide (f + j < e ∧ B (f + j) = c)) = false := by rw [Bool.true_and]; exact decide_eq_false (fun g => hn g.2)
            rw [e1]
            exact (wo_c2 D hq' hb hc hc8 h32 hl hz hb8 hn).trans (iht false)
        · have e1 : (true && decide (f + j < e ∧ B (f + j) = c)) = false := by rw [Bool.true_and]; exact decide_eq_false (fun g => hl g.1)
          rw [e1]
          exact (wo_c1 D hq' hb hc hc8 h32 hl).trans (iht false)
theorem c_wordOf (d : Nat) {B : Nat → Nat} {x : qm_Hp} {f e : Nat} (hB : ∀ j, j < e → zI x 52 0 j = nI (B j) ∧ B j < 256) (hf : f ≤ 300 ∧ e ≤ 300) : qm_evM d jK_wordOf [qP 52 0, qI (nI f), qI (nI e)] x = some (some (qI (nI (wo B f e qm_str 0 0 true))), x) := by
  have hl := fun x7 => wo_l d hB hf qm_str 0 0 0 true x7 rfl (by rw [str_len]) (Nat.le_refl _) (Nat.le_refl _)
  simp (config := {maxSteps := 1000000}) (disch := first | omega | assumption | (simp only [qm_wid_n, qm_wid_I, qm_wid_L, qm_wid_P]; omega) | (simp only [qm_wid_n, qm_wid_I, qm_wid_L, qm_wid_P]; done) | fail) only [if_true] at hl
  simp (config := {maxSteps := 1000000}) (disch := first | omega | assumption | (simp only [qm_wid_n, qm_wid_I, qm_wid_L, qm_wid_P]; omega) | (simp only [qm_wid_n, qm_wid_I, qm_wid_L, qm_wid_P]; done) | fail) only [e_K_wordOf, b_K_wordOf_0, qy0, qy1, qy2, qy3, qe, qcn, qin, ↓reduceIte, Nat.reduceEqDiff, Nat.reduceLeDiff, Bool.false_eq_true, Nat.reduceAdd, Nat.reduceSub, Nat.reduceMul, Nat.reduceLT, or_self, or_false, false_or, or_true, true_or, and_self, and_true, true_and, and_false, false_and, not_true_eq_false, not_false_eq_true, hl]
