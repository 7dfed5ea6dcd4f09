/-! the reference's pile: whole, marker, compared, ask ahead, between, opens -/
theorem r_whole (D : Nat) {tx w0 : Nat} (ht : tx < 4) {pl : List Nat} {out : List (Nat × Nat)} {x : qm_Hp} (h : PO tx w0 x pl out) (h13 : zI x 9 0 13 = nI (720 * tx)) (h5 : ∀ c, c ∈ pl → c < 50) (hl : pl.length ≤ 160) (hw : w0 + out.length + pl.length ≤ 300) : ∃ x', qm_evM (D + 2) jM_whole [qP 9 0] x = some (none, x') ∧ SF tx w0 (uI x 9 0 20 (nI 1)) x' ∧ PO tx w0 x' (sett 7 pl out).1 (sett 7 pl out).2 := by
  have h1 : PO tx w0 (uI x 9 0 20 (nI 1)) pl out := ⟨by rw [zI_uI, if_neg (by omega)]; exact h.1, by rw [zI_uI, if_neg (by omega)]; exact h.2.1, PLs_eq (fun j _ => by rw [zI_uI, if_neg (by omega)]) h.2.2.1, by rw [zI_uI, if_neg (by omega)]; exact h.2.2.2.1, cdM_eq (fun j => by rw [zI_uI, if_neg (by omega)]) h.2.2.2.2⟩
  obtain ⟨x', e, F, P⟩ := r_settle D (r := 7) ht (by decide) h1 (by rw [zI_uI, if_neg (by omega)]; exact h13) h5 hl hw
  refine ⟨x', ?_, F, P⟩
  simp (config := {maxSteps := 1000000}) (disch := first | omega | assumption | (simp only [qm_wid_n, qm_wid_I, qm_wid_L, qm_wid_P]; omega) | (simp only [qm_wid_n, qm_wid_I, qm_wid_L, qm_wid_P]; done) | fail) only [e_M_whole, b_M_whole_0, qy0, qy1, qy2, qy3, qe, qcn, qin, ↓reduceIte, Nat.reduceEqDiff, Nat.reduceLeDiff, Bool.false_eq_true, Nat.reduceAdd, Nat.reduceSub, Nat.reduceMul, Nat.reduceLT, or_self, or_false, false_or, or_true, true_or, and_self, and_true, true_and, and_false, false_and, not_true_eq_false, not_false_eq_true, e]
def pr : List Nat → Int32
  | [] => N1
  | _ :: q => nI q.length
theorem pr_d (p : List Nat) : nI p.length + N1 = pr p := by
  cases p with
  | nil => decide
  | cons c q =>
    rw [List.length_cons, i_dec (by omega), Nat.add_sub_cancel]
    rfl
theorem pr_s (p : List Nat) : nI p.length - nI 1 = pr p := by
  cases p with
  | nil => decide
  | cons c q =>
    rw [List.length_cons, i_sub (by omega), Nat.add_sub_cancel]
    rfl
def mki : List Nat → Nat
  | [] => 0
  | c :: p => if 40 ≤ c then p.length else mki p
def mkI (p : List Nat) : Int32 := if mkd p = 0 then N1 else nI (mki p)
theorem mk_l (D : Nat) : ∀ p x, PLs x p → (∀ c, c ∈ p → c < 50) → p.length ≤ 160 → qm_evB D jM_marker 1 [qP 9 0, qI (pr p)] [] x = some (some (qI (mkI p)), x)
  | [], x, _, _, _ => by
    have e1 : pr [] = N1 := rfl
    have e2 : mkI [] = N1 := rfl
    refine (b_M_marker_1 ..).trans ?_
    simp (config := {maxSteps := 1000000}) (disch := first | omega | assumption | (simp only [qm_wid_n, qm_wid_I, qm_wid_L, qm_wid_P]; omega) | (simp only [qm_wid_n, qm_wid_I, qm_wid_L, qm_wid_P]; done) | fail) only [b_M_marker_2, qy0, qy1, qy2, qy3, qe, qcn, qin, ↓reduceIte, Nat.reduceEqDiff, Nat.reduceLeDiff, Bool.false_eq_true, Nat.reduceAdd, Nat.reduceSub, Nat.reduceMul, Nat.reduceLT, or_self, or_false, false_or, or_true, true_or, and_self, and_true, true_and, and_false, false_and, not_true_eq_false, not_false_eq_true, e1, e2]
  | c :: p, x, h, h5, hl => by
    have ih := mk_l D p x h.2 (fun c' h' => h5 c' (List.mem_cons_of_mem _ h')) (by rw [List.length_cons] at hl; omega)
    have hz := h.1
    have hc := h5 c (List.mem_cons_self ..)
    have e1 : pr (c :: p) = nI p.length := rfl
    have pd := pr_d p
    rw [List.length_cons] at hl
    by_cases q : 40 ≤ c
    · have e2 : mkI (c :: p) = nI p.length := by
        unfold mkI
        have m1 : mkd (c :: p) = c := if_pos q
        have m2 : mki (c :: p) = p.length := if_pos q
        rw [m1, m2, if_neg (by omega)]
      refine (b_M_marker_1 ..).trans ?_
      simp (config := {maxSteps := 1000000}) (disch := first | omega | assumption | (simp only [qm_wid_n, qm_wid_I, qm_wid_L, qm_wid_P]; omega) | (simp only [qm_wid_n, qm_wid_I, qm_wid_L, qm_wid_P]; done) | fail) only [b_M_marker_2, qy0, qy1, qy2, qy3, qe, qcn, qin, ↓reduceIte, Nat.reduceEqDiff, Nat.reduceLeDiff, Bool.false_eq_true, Nat.reduceAdd, Nat.reduceSub, Nat.reduceMul, Nat.reduceLT, or_self, or_false, false_or, or_true, true_or, and_self, and_true, true_and, and_false, false_and, not_true_eq_false, not_false_eq_true, e1, e2, hz]
    · have e2 : mkI (c :: p) = mkI p := by
        unfold mkI
        have m1 : mkd (c :: p) = mkd p := if_neg q
        have m2 : mki (c :: p) = mki p := if_neg q
        rw [m1, m2]
      rw [e2]
      refine ((b_M_marker_1 ..).trans ?_).trans ih
      simp (config := {maxSteps := 1000000}) (disch := first | omega | assumption | (simp only [qm_wid_n, qm_wid_I, qm_wid_L, qm_wid_P]; omega) | (simp only [qm_wid_n, qm_wid_I, qm_wid_L, qm_wid_P]; done) | fail) only [qy0, qy1, qy2, qy3, qe, qcn, qin, ↓reduceIte, Nat.reduceEqDiff, Nat.reduceLeDiff, Bool.false_eq_true, Nat.reduceAdd, Nat.reduceSub, Nat.reduceMul, Nat.reduceLT, or_self, or_false, false_or, or_true, true_or, and_self, and_true, true_and, and_false, false_and, not_true_eq_false, not_false_eq_true, e1, hz, pd]
theorem r_marker (D : Nat) {x : qm_Hp} {p : List Nat} (h18 : zI x 9 0 18 = nI p.length) (h : PLs x p) (h5 : ∀ c, c ∈ p → c < 50) (hl : p.length ≤ 160) : qm_evM D jM_marker [qP 9 0] x = some (some (qI (mkI p)), x) := by
  have e := mk_l D p x h h5 hl
  have ps := pr_s p
  simp (config := {maxSteps := 1000000}) (disch := first | omega | assumption | (simp only [qm_wid_n, qm_wid_I, qm_wid_L, qm_wid_P]; omega) | (simp only [qm_wid_n, qm_wid_I, qm_wid_L, qm_wid_P]; done) | fail) only [e_M_marker, b_M_marker_0, qy0, qy1, qy2, qy3, qe, qcn, qin, ↓reduceIte, Nat.reduceEqDiff, Nat.reduceLeDiff, Bool.false_eq_true, Nat.reduceAdd, Nat.reduceSub, Nat.reduceMul, Nat.reduceLT, or_self, or_false, false_or, or_true, true_or, and_self, and_true, true_and, and_false, false_and, not_true_eq_false, not_false_eq_true, h18, ps, e]
theorem ic_l (D : Nat) : ∀ p x, PLs x p → (∀ c, c ∈ p → c < 50) → p.length ≤ 160 → qm_evB (D + 1) jM_isCompared 1 [qP 9 0, qI (pr p)] [] x = some (some (qI (nI (if cpd p = true then 1 else 0))), x)
  | [], x, _, _, _ => by
    have e1 : pr [] = N1 := rfl
    have e2 : (if cpd [] = true then 1 else 0) = 0 := rfl
    rw [e2]
    refine (b_M_isCompared_1 ..).trans ?_
    simp (config := {maxSteps := 1000000}) (disch := first | omega | assumption | (simp only [qm_wid_n, qm_wid_I, qm_wid_L, qm_wid_P]; omega) | (simp only [qm_wid_n, qm_wid_I, qm_wid_L, qm_wid_P]; done) | fail) only [b_M_isCompared_2, b_M_isCompared_3, b_M_isCompared_4, qy0, qy1, qy2, qy3, qe, qcn, qin, ↓reduceIte, Nat.reduceEqDiff, Nat.reduceLeDiff, Bool.false_eq_true, Nat.reduceAdd, Nat.reduceSub, Nat.reduceMul, Nat.reduceLT, or_self, or_false, false_or, or_true, true_or, and_self, and_true, true_and, and_false, false_and, not_true_eq_false, not_false_eq_true, e1]
  | c :: p, x, h, h5, hl => by
    have ih := ic_l D p x h.2 (fun c' h' => h5 c' (List.mem_cons_of_mem _ h')) (by rw [List.length_cons] at hl; omega)
    have hz := h.1
    have hc := h5 c (List.mem_cons_self ..)
    have ra := r_rank D x hc
    have k7 := rk_7 c
    have e1 : pr (c :: p) = nI p.length := rfl
    have pd := pr_d p
    rw [List.length_cons] at hl
    by_cases q : 4 < rk c
    · have e2 : cpd (c :: p) = cpd p := if_pos q
      rw [e2]
      refine ((b_M_isCompared_1 ..).trans ?_).trans ih
      simp (config := {maxSteps := 1000000}) (disch := first | omega | assumption | (simp only [qm_wid_n, qm_wid_I, qm_wid_L, qm_wid_P]; omega) | (simp only [qm_wid_n, qm_wid_I, qm_wid_L, qm_wid_P]; done) | fail) only [qy0, qy1, qy2, qy3, qe, qcn, qin, ↓reduceIte, Nat.reduceEqDiff, Nat.reduceLeDiff, Bool.false_eq_true, Nat.reduceAdd, Nat.reduceSub, Nat.reduceMul, Nat.reduceLT, or_self, or_false, false_or, or_true, true_or, and_self, and_true, true_and, and_false, false_and, not_true_eq_false, not_false_eq_true, e1, hz, ra, pd]
    · have e2 : cpd (c :: p) = decide (rk c = 4) := if_neg q
      by_cases q4 : rk c = 4
      · rw [e2, decide_eq_true q4, if_pos rfl]
        refine (b_M_isCompared_1 ..).trans ?_
        simp (config := {maxSteps := 1000000}) (disch := first | omega | assumption | (simp only [qm_wid_n, qm_wid_I, qm_wid_L, qm_wid_P]; omega) | (simp only [qm_wid_n, qm_wid_I, qm_wid_L, qm_wid_P]; done) | fail) only [b_M_isCompared_2, b_M_isCompared_4, qy0, qy1, qy2, qy3, qe, qcn, qin, ↓reduceIte, Nat.reduceEqDiff, Nat.reduceLeDiff, Bool.false_eq_true, Nat.reduceAdd, Nat.reduceSub, Nat.reduceMul, Nat.reduceLT, or_self, or_false, false_or, or_true, true_or, and_self, and_true, true_and, and_false, false_and, not_true_eq_false, not_false_eq_true, e1, hz, ra]
      · rw [e2, decide_eq_false q4, if_neg (by decide)]
        refine (b_M_isCompared_1 ..).trans ?_
        simp (config := {maxSteps := 1000000}) (disch := first | omega | assumption | (simp only [qm_wid_n, qm_wid_I, qm_wid_L, qm_wid_P]; omega) | (simp only [qm_wid_n, qm_wid_I, qm_wid_L, qm_wid_P]; done) | fail) only [b_M_isCompared_2, b_M_isCompared_3, b_M_isCompared_4, qy0, qy1, qy2, qy3, qe, qcn, qin, ↓reduceIte, Nat.reduceEqDiff, Nat.reduceLeDiff, Bool.false_eq_true, Nat.reduceAdd, Nat.reduceSub, Nat.reduceMul, Nat.reduceLT, or_self, or_false, false_or, or_true, true_or, and_self, and_true, true_and, and_false, false_and, not_true_eq_false, not_false_eq_true, e1, hz, ra]
theorem r_isCompared (D : Nat) {x : qm_Hp} {p : List Nat} (h18 : zI x 9 0 18 = nI p.length) (h : PLs x p) (h5 : ∀ c, c ∈ p → c < 50) (hl : p.length ≤ 160) : qm_evM (D + 1) jM_isCompared [qP 9 0] x = some (some (qI (nI (if cpd p = true then 1 else 0))), x) := by
  have e := ic_l D p x h h5 hl
  have ps := pr_s p
  generalize (if cpd p = true then 1 else 0) = v at *
  simp (config := {maxSteps := 1000000}) (disch := first | omega | assumption | (simp only [qm_wid_n, qm_wid_I, qm_wid_L, qm_wid_P]; omega) | (simp only [qm_wid_n, qm_wid_I, qm_wid_L, qm_wid_P]; done) | fail) only [e_M_isCompared, b_M_isCompared_0, qy0, qy1, qy2, qy3, qe, qcn, qin, ↓reduceIte, Nat.reduceEqDiff, Nat.reduceLeDiff, Bool.false_eq_true, Nat.reduceAdd, Nat.reduceSub, Nat.reduceMul, Nat.reduceLT, or_self, or_false, false_or, or_true, true_or, and_self, and_true, true_and, and_false, false_and, not_true_eq_false, not_false_eq_true, h18, ps, e]
def eI (e : Bool) : Nat := if e = true then 1 else 0
theorem r_askY (D : Nat) {x : qm_Hp} {p : List Nat} {e : Bool} (h18 : zI x 9 0 18 = nI p.length) (h : PLs x p) (h5 : ∀ c, c ∈ p → c < 50) (hl : p.length ≤ 160) (ha : AA e p) : qm_evM (D + 1) jM_isAskAhead [qP 9 0, qI (nI (eI e))] x = some (some (qI (nI 1)), x) := by
  have mk := r_marker D h18 h h5 hl
  have em1 : mkI p = N1 := if_pos ha.2.1
  have ee : eI e = 1 := if_pos ha.1
  cases p with
  | nil =>
    have h18 : zI x 9 0 18 = nI 0 := h18
    simp (config := {maxSteps := 1000000}) (disch := first | omega | assumption | (simp only [qm_wid_n, qm_wid_I, qm_wid_L, qm_wid_P]; omega) | (simp only [qm_wid_n, qm_wid_I, qm_wid_L, qm_wid_P]; done) | fail) only [e_M_isAskAhead, b_M_isAskAhead_0, b_M_isAskAhead_1, b_M_isAskAhead_2, b_M_isAskAhead_3, qy0, qy1, qy2, qy3, qe, qcn, qin, ↓reduceIte, Nat.reduceEqDiff, Nat.reduceLeDiff, Bool.false_eq_true, Nat.reduceAdd, Nat.reduceSub, Nat.reduceMul, Nat.reduceLT, or_self, or_false, false_or, or_true, true_or, and_self, and_true, true_and, and_false, false_and, not_true_eq_false, not_false_eq_true, ee, mk, em1, h18]
  | cons c q =>
    have k := ha.2.2 c q rfl
    have hz := h.1
    rw [List.length_cons] at h18 hl
    have ra := r_rank D x (h5 c (List.mem_cons_self ..))
    simp (config := {maxSteps := 1000000}) (disch := first | omega | assumption | (simp only [qm_wid_n, qm_wid_I, qm_wid_L, qm_wid_P]; omega) | (simp only [qm_wid_n, qm_wid_I, qm_wid_L, qm_wid_P]; done) | fail) only [e_M_isAskAhead, b_M_isAskAhead_0, b_M_isAskAhead_1, b_M_isAskAhead_2, b_M_isAskAhead_3, qy0, qy1, qy2, qy3, qe, qcn, qin, ↓reduceIte, Nat.reduceEqDiff, Nat.reduceLeDiff, Bool.false_eq_true, Nat.reduceAdd, Nat.reduceSub, Nat.reduceMul, Nat.reduceLT, or_self, or_false, false_or, or_true, true_or, and_self, and_true, true_and, and_false, false_and, not_true_eq_false, not_false_eq_true, ee, mk, em1, h18, Nat.add_sub_cancel, hz, ra, t_isIn]
theorem r_askN (D : Nat) {x : qm_Hp} {p : List Nat} {e : Bool} (h18 : zI x 9 0 18 = nI p.length) (h : PLs x p) (h5 : ∀ c, c ∈ p → c < 50) (hl : p.length ≤ 160) (ha : ¬ AA e p) : qm_evM (D + 1) jM_isAskAhead [qP 9 0, qI (nI (eI e))] x = some (some (qI (nI 0)), x) := by
  have mk := r_marker D h18 h h5 hl
  cases e with
  | false =>
    have ee : eI false = 0 := rfl
    simp (config := {maxSteps := 1000000}) (disch := first | omega | assumption | (simp only [qm_wid_n, qm_wid_I, qm_wid_L, qm_wid_P]; omega) | (simp only [qm_wid_n, qm_wid_I, qm_wid_L, qm_wid_P]; done) | fail) only [e_M_isAskAhead, b_M_isAskAhead_0, b_M_isAskAhead_1, b_M_isAskAhead_2, b_M_isAskAhead_3, qy0, qy1, qy2, qy3, qe, qcn, qin, ↓reduceIte, Nat.reduceEqDiff, Nat.reduceLeDiff, Bool.false_eq_true, Nat.reduceAdd, Nat.reduceSub, Nat.reduceMul, Nat.reduceLT, or_self, or_false, false_or, or_true, true_or, and_self, and_true, true_and, and_false, false_and, not_true_eq_false, not_false_eq_true, ee]
  | true =>
    have ee : eI true = 1 := rfl
    by_cases m0 : mkd p = 0
    · have em1 : mkI p = N1 := if_pos m0
      cases p with
      | nil => exact absurd ⟨rfl, m0, fun c q g => absurd g (by intro k; injection k)⟩ ha
      | cons c q =>
        have k : ¬ (1 ≤ rk c ∧ rk c ≤ 3) := fun k => ha ⟨rfl, m0, fun c' q' g => by injection g with g1 g2; rw [← g1]; exact k⟩
        have hz := h.1
        rw [List.length_cons] at h18 hl
        have ra := r_rank D x (h5 c (List.mem_cons_self ..))
        have k7 := rk_7 c
        rcases (by omega : rk c < 1 ∨ 3 < rk c) with g | g
        · simp (config := {maxSteps := 1000000}) (disch := first | omega | assumption | (simp only [qm_wid_n, qm_wid_I, qm_wid_L, qm_wid_P]; omega) | (simp only [qm_wid_n, qm_wid_I, qm_wid_L, qm_wid_P]; done) | fail) only [e_M_isAskAhead, b_M_isAskAhead_0, b_M_isAskAhead_1, b_M_isAskAhead_2, b_M_isAskAhead_3, qy0, qy1, qy2, qy3, qe, qcn, qin, ↓reduceIte, Nat.reduceEqDiff, Nat.reduceLeDiff, Bool.false_eq_true, Nat.reduceAdd, Nat.reduceSub, Nat.reduceMul, Nat.reduceLT, or_self, or_false, false_or, or_true, true_or, and_self, and_true, true_and, and_false, false_and, not_true_eq_false, not_false_eq_true, ee, mk, em1, h18, Nat.add_sub_cancel, hz, ra, t_isIn]
        · simp (config := {maxSteps := 1000000}) (disch := first | omega | assumption | (simp only [qm_wid_n, qm_wid_I, qm_wid_L, qm_wid_P]; omega) | (simp only [qm_wid_n, qm_wid_I, qm_wid_L, qm_wid_P]; done) | fail) only [e_M_isAskAhead, b_M_isAskAhead_0, b_M_isAskAhead_1, b_M_isAskAhead_2, b_M_isAskAhead_3, qy0, qy1, qy2, qy3, qe, qcn, qin, ↓reduceIte, Nat.reduceEqDiff, Nat.reduceLeDiff, Bool.false_eq_true, Nat.reduceAdd, Nat.reduceSub, Nat.reduceMul, Nat.reduceLT, or_self, or_false, false_or, or_true, true_or, and_self, and_true, true_and, and_false, false_and, not_true_eq_false, not_false_eq_true, ee, mk, em1, h18, Nat.add_sub_cancel, hz, ra, t_isIn]
    · have em1 : mkI p = nI (mki p) := if_neg m0
      have hm : mki p < 161 := by
        have : ∀ p : List Nat, mki p ≤ p.length := fun p => by
          induction p with
          | nil => exact Nat.le_refl _
          | cons c q ih =>
            show (if 40 ≤ c then q.length else mki q) ≤ q.length + 1
            by_cases g : 40 ≤ c
            · rw [if_pos g]; omega
            · rw [if_neg g]; omega
        have := this p
        omega
      simp (config := {maxSteps := 1000000}) (disch := first | omega | assumption | (simp only [qm_wid_n, qm_wid_I, qm_wid_L, qm_wid_P]; omega) | (simp only [qm_wid_n, qm_wid_I, qm_wid_L, qm_wid_P]; done) | fail) only [e_M_isAskAhead, b_M_isAskAhead_0, b_M_isAskAhead_1, b_M_isAskAhead_2, b_M_isAskAhead_3, qy0, qy1, qy2, qy3, qe, qcn, qin, ↓reduceIte, Nat.reduceEqDiff, Nat.reduceLeDiff, Bool.false_eq_true, Nat.reduceAdd, Nat.reduceSub, Nat.reduceMul, Nat.reduceLT, or_self, or_false, false_or, or_true, true_or, and_self, and_true, true_and, and_false, false_and, not_true_eq_false, not_false_eq_true, ee, mk, em1]
theorem TT_s {T t : Nat} (h : TT T t) (hT : 43 ≤ T) : t = sgt T := by
  unfold TT at h
  have hT2 : T ≤ 56 := by omega
  rcases (by omega : T = 43 ∨ T = 44 ∨ T = 45 ∨ T = 46 ∨ T = 47 ∨ T = 48 ∨ T = 49 ∨ T = 50 ∨ T = 51 ∨ T = 52 ∨ T = 53 ∨ T = 54 ∨ T = 55 ∨ T = 56) with g | g | g | g | g | g | g | g | g | g | g | g | g | g <;> subst g <;> simp only [sgt, List.getD_cons_succ, List.getD_cons_zero] <;> omega
theorem TT_ar {T t : Nat} (h : TT T t) : (t = 43 → T = 49) ∧ (t = 45 → T = 50) ∧ (t = 42 → T = 51) ∧ (t = 47 → T = 52) ∧ (t = 40 → T = 53) ∧ (t = 41 → T = 54) ∧ (t = 44 → T = 55) ∧ (t = 59 → T = 56) ∧ (t = 1 → T = 40) ∧ (t = 0 → T = 41) := by
  unfold TT at h
  refine ⟨?_, ?_, ?_, ?_, ?_, ?_, ?_, ?_, ?_, ?_⟩ <;> intro g <;> omega
theorem r_btwA (D : Nat) {T V : Nat} {x : qm_Hp} (h : RK T V x) (hT : lvl T = 3 ∨ lvl T = 4) (e : Nat) : qm_evM D jM_betweenOf [qP 9 0, qI (nI e)] x = some (some (qI (nI (opt T))), x) := by
  obtain ⟨t, h10, tt, -, -⟩ := h
  have ht : T = 49 ∨ T = 50 ∨ T = 51 ∨ T = 52 := by
    unfold lvl at hT
    by_cases h1 : T = 28
    · rw [if_pos h1] at hT; omega
    · rw [if_neg h1] at hT
      by_cases h2 : T = 27
      · rw [if_pos h2] at hT; omega
      · rw [if_neg h2] at hT
        by_cases h3 : T = 49 ∨ T = 50
        · omega
        · rw [if_neg h3] at hT
          by_cases h4 : T = 51 ∨ T = 52
          · omega
          · rw [if_neg h4] at hT; omega
  have ts := TT_s tt (by omega)
  rcases ht with g | g | g | g <;> subst g
  · have e1 : t = 43 := ts
    have e2 : opt 49 = 3 := rfl
    subst e1
    simp (config := {maxSteps := 1000000}) (disch := first | omega | assumption | (simp only [qm_wid_n, qm_wid_I, qm_wid_L, qm_wid_P]; omega) | (simp only [qm_wid_n, qm_wid_I, qm_wid_L, qm_wid_P]; done) | fail) only [e_M_betweenOf, b_M_betweenOf_0, qy0, qy1, qy2, qy3, qe, qcn, qin, ↓reduceIte, Nat.reduceEqDiff, Nat.reduceLeDiff, Bool.false_eq_true, Nat.reduceAdd, Nat.reduceSub, Nat.reduceMul, Nat.reduceLT, or_self, or_false, false_or, or_true, true_or, and_self, and_true, true_and, and_false, false_and, not_true_eq_false, not_false_eq_true, h10, e2]
  · have e1 : t = 45 := ts
    have e2 : opt 50 = 4 := rfl
    subst e1
    simp (config := {maxSteps := 1000000}) (disch := first | omega | assumption | (simp only [qm_wid_n, qm_wid_I, qm_wid_L, qm_wid_P]; omega) | (simp only [qm_wid_n, qm_wid_I, qm_wid_L, qm_wid_P]; done) | fail) only [e_M_betweenOf, b_M_betweenOf_0, b_M_betweenOf_1, qy0, qy1, qy2, qy3, qe, qcn, qin, ↓reduceIte, Nat.reduceEqDiff, Nat.reduceLeDiff, Bool.false_eq_true, Nat.reduceAdd, Nat.reduceSub, Nat.reduceMul, Nat.reduceLT, or_self, or_false, false_or, or_true, true_or, and_self, and_true, true_and, and_false, false_and, not_true_eq_false, not_false_eq_true, h10, e2]
  · have e1 : t = 42 := ts
    have e2 : opt 51 = 5 := rfl
    subst e1
    simp (config := {maxSteps := 1000000}) (disch := first | omega | assumption | (simp only [qm_wid_n, qm_wid_I, qm_wid_L, qm_wid_P]; omega) | (simp only [qm_wid_n, qm_wid_I, qm_wid_L, qm_wid_P]; done) | fail) only [e_M_betweenOf, b_M_betweenOf_0, b_M_betweenOf_1, b_M_betweenOf_2, qy0, qy1, qy2, qy3, qe, qcn, qin, ↓reduceIte, Nat.reduceEqDiff, Nat.reduceLeDiff, Bool.false_eq_true, Nat.reduceAdd, Nat.reduceSub, Nat.reduceMul, Nat.reduceLT, or_self, or_false, false_or, or_true, true_or, and_self, and_true, true_and, and_false, false_and, not_true_eq_false, not_false_eq_true, h10, e2]
  · have e1 : t = 47 := ts
    have e2 : opt 52 = 6 := rfl
    subst e1
    simp (config := {maxSteps := 1000000}) (disch := first | omega | assumption | (simp only [qm_wid_n, qm_wid_I, qm_wid_L, qm_wid_P]; omega) | (simp only [qm_wid_n, qm_wid_I, qm_wid_L, qm_wid_P]; done) | fail) only [e_M_betweenOf, b_M_betweenOf_0, b_M_betweenOf_1, b_M_betweenOf_2, b_M_betweenOf_3, qy0, qy1, qy2, qy3, qe, qcn, qin, ↓reduceIte, Nat.reduceEqDiff, Nat.reduceLeDiff, Bool.false_eq_true, Nat.reduceAdd, Nat.reduceSub, Nat.reduceMul, Nat.reduceLT, or_self, or_false, false_or, or_true, true_or, and_self, and_true, true_and, and_false, false_and, not_true_eq_false, not_false_eq_true, h10, e2]
theorem lv_n {T : Nat} (h : lvl T ≠ 3 ∧ lvl T ≠ 4) : T ≠ 49 ∧ T ≠ 50 ∧ T ≠ 51 ∧ T ≠ 52 := by
  refine ⟨?_, ?_, ?_, ?_⟩ <;> intro g <;> subst g
  · exact h.1 rfl
  · exact h.1 rfl
  · exact h.2 rfl
  · exact h.2 rfl
/-- no deed of numbers: on to the asks -/
theorem bw_4 (D : Nat) {x : qm_Hp} {t : Nat} (h10 : zI x 9 0 10 = nI t) (ht : t ≤ 62) (h : t ≠ 43 ∧ t ≠ 45 ∧ t ≠ 42 ∧ t ≠ 47) (v : Nat) : qm_evM D jM_betweenOf [qP 9 0, qI (nI v)] x = qm_evB D jM_betweenOf 4 [qP 9 0, qI (nI v)] [] x := by
  obtain ⟨h1, h2, h3, h4⟩ := h
  simp (config := {maxSteps := 1000000}) (disch := first | omega | assumption | (simp only [qm_wid_n, qm_wid_I, qm_wid_L, qm_wid_P]; omega) | (simp only [qm_wid_n, qm_wid_I, qm_wid_L, qm_wid_P]; done) | fail) only [e_M_betweenOf, b_M_betweenOf_0, b_M_betweenOf_1, b_M_betweenOf_2, b_M_betweenOf_3, qy0, qy1, qy2, qy3, qe, qcn, qin, ↓reduceIte, Nat.reduceEqDiff, Nat.reduceLeDiff, Bool.false_eq_true, Nat.reduceAdd, Nat.reduceSub, Nat.reduceMul, Nat.reduceLT, or_self, or_false, false_or, or_true, true_or, and_self, and_true, true_and, and_false, false_and, not_true_eq_false, not_false_eq_true, h10]
theorem bw_N0 (D : Nat) {x : qm_Hp} : qm_evB D jM_betweenOf 4 [qP 9 0, qI (nI 0)] [] x = some (some (qI N1), x) := by
  simp (config := {maxSteps := 1000000}) (disch := first | omega | assumption | (simp only [qm_wid_n, qm_wid_I, qm_wid_L, qm_wid_P]; omega) | (simp only [qm_wid_n, qm_wid_I, qm_wid_L, qm_wid_P]; done) | fail) only [b_M_betweenOf_4, b_M_betweenOf_5, qy0, qy1, qy2, qy3, qe, qcn, qin, ↓reduceIte, Nat.reduceEqDiff, Nat.reduceLeDiff, Bool.false_eq_true, Nat.reduceAdd, Nat.reduceSub, Nat.reduceMul, Nat.reduceLT, or_self, or_false, false_or, or_true, true_or, and_self, and_true, true_and, and_false, false_and, not_true_eq_false, not_false_eq_true]
theorem bw_N1 (D : Nat) {x : qm_Hp} {m : Nat} (hm : m < 200) (mk : qm_evM D jM_marker [qP 9 0] x = some (some (qI (nI m)), x)) : qm_evB (D + 1) jM_betweenOf 4 [qP 9 0, qI (nI 1)] [] x = some (some (qI N1), x) := by
  simp (config := {maxSteps := 1000000}) (disch := first | omega | assumption | (simp only [qm_wid_n, qm_wid_I, qm_wid_L, qm_wid_P]; omega) | (simp only [qm_wid_n, qm_wid_I, qm_wid_L, qm_wid_P]; done) | fail) only [b_M_betweenOf_4, b_M_betweenOf_5, qy0, qy1, qy2, qy3, qe, qcn, qin, ↓reduceIte, Nat.reduceEqDiff, Nat.reduceLeDiff, Bool.false_eq_true, Nat.reduceAdd, Nat.reduceSub, Nat.reduceMul, Nat.reduceLT, or_self, or_false, false_or, or_true, true_or, and_self, and_true, true_and, and_false, false_and, not_true_eq_false, not_false_eq_true, mk]
theorem bw_C (D : Nat) {x : qm_Hp} {v : Int32} (mk : qm_evM D jM_marker [qP 9 0] x = some (some (qI N1), x)) (ic : qm_evM D jM_isCompared [qP 9 0] x = some (some (qI (nI 0)), x)) (co : qm_evM D jM_compareOf [qP 9 0] x = some (some (qI v), x)) : qm_evB (D + 1) jM_betweenOf 4 [qP 9 0, qI (nI 1)] [] x = some (some (qI v), x) := by
  simp (config := {maxSteps := 1000000}) (disch := first | omega | assumption | (simp only [qm_wid_n, qm_wid_I, qm_wid_L, qm_wid_P]; omega) | (simp only [qm_wid_n, qm_wid_I, qm_wid_L, qm_wid_P]; done) | fail) only [b_M_betweenOf_4, b_M_betweenOf_6, qy0, qy1, qy2, qy3, qe, qcn, qin, ↓reduceIte, Nat.reduceEqDiff, Nat.reduceLeDiff, Bool.false_eq_true, Nat.reduceAdd, Nat.reduceSub, Nat.reduceMul, Nat.reduceLT, or_self, or_false, false_or, or_true, true_or, and_self, and_true, true_and, and_false, false_and, not_true_eq_false, not_false_eq_true, mk, ic, co]
theorem bw_and (D : Nat) {x : qm_Hp} (mk : qm_evM D jM_marker [qP 9 0] x = some (some (qI N1), x)) (ic : qm_evM D jM_isCompared [qP 9 0] x = some (some (qI (nI 1)), x)) (iw : qm_evM D jM_isWord [qP 9 0, qL (wdK 27)] x = some (some (qI (nI 1)), x)) : qm_evB (D + 1) jM_betweenOf 4 [qP 9 0, qI (nI 1)] [] x = some (some (qI (nI 21)), x) := by
  simp (config := {maxSteps := 1000000}) (disch := first | omega | assumption | (simp only [qm_wid_n, qm_wid_I, qm_wid_L, qm_wid_P]; omega) | (simp only [qm_wid_n, qm_wid_I, qm_wid_L, qm_wid_P]; done) | fail) only [b_M_betweenOf_4, b_M_betweenOf_6, b_M_betweenOf_7, b_M_betweenOf_10, qy0, qy1, qy2, qy3, qe, qcn, qin, ↓reduceIte, Nat.reduceEqDiff, Nat.reduceLeDiff, Bool.false_eq_true, Nat.reduceAdd, Nat.reduceSub, Nat.reduceMul, Nat.reduceLT, or_self, or_false, false_or, or_true, true_or, and_self, and_true, true_and, and_false, false_and, not_true_eq_false, not_false_eq_true, mk, ic, r_w3, wk_27, iw]
theorem bw_or (D : Nat) {x : qm_Hp} (h10 : zI x 9 0 10 = nI 2) (hz : lg_cmp (zL x 9 0 12) (wdK 28) = nI 0) (mk : qm_evM D jM_marker [qP 9 0] x = some (some (qI N1), x)) (ic : qm_evM D jM_isCompared [qP 9 0] x = some (some (qI (nI 1)), x)) (iw : qm_evM D jM_isWord [qP 9 0, qL (wdK 27)] x = some (some (qI (nI 0)), x)) : qm_evB (D + 1) jM_betweenOf 4 [qP 9 0, qI (nI 1)] [] x = some (some (qI (nI 22)), x) := by
  simp (config := {maxSteps := 1000000}) (disch := first | omega | assumption | (simp only [qm_wid_n, qm_wid_I, qm_wid_L, qm_wid_P]; omega) | (simp only [qm_wid_n, qm_wid_I, qm_wid_L, qm_wid_P]; done) | fail) only [b_M_betweenOf_4, b_M_betweenOf_6, b_M_betweenOf_7, b_M_betweenOf_8, b_M_betweenOf_10, qy0, qy1, qy2, qy3, qe, qcn, qin, ↓reduceIte, Nat.reduceEqDiff, Nat.reduceLeDiff, Bool.false_eq_true, Nat.reduceAdd, Nat.reduceSub, Nat.reduceMul, Nat.reduceLT, or_self, or_false, false_or, or_true, true_or, and_self, and_true, true_and, and_false, false_and, not_true_eq_false, not_false_eq_true, mk, ic, r_w3, wk_27, iw, h10, wk_or2, hz]
theorem bw_n1 (D : Nat) {x : qm_Hp} (h10 : zI x 9 0 10 = nI 2) (hz : ¬ lg_cmp (zL x 9 0 12) (wdK 28) = nI 0) (mk : qm_evM D jM_marker [qP 9 0] x = some (some (qI N1), x)) (ic : qm_evM D jM_isCompared [qP 9 0] x = some (some (qI (nI 1)), x)) (iw : qm_evM D jM_isWord [qP 9 0, qL (wdK 27)] x = some (some (qI (nI 0)), x)) : qm_evB (D + 1) jM_betweenOf 4 [qP 9 0, qI (nI 1)] [] x = some (some (qI N1), x) := by
  simp (config := {maxSteps := 1000000}) (disch := first | omega | assumption | (simp only [qm_wid_n, qm_wid_I, qm_wid_L, qm_wid_P]; omega) | (simp only [qm_wid_n, qm_wid_I, qm_wid_L, qm_wid_P]; done) | fail) only [b_M_betweenOf_4, b_M_betweenOf_6, b_M_betweenOf_7, b_M_betweenOf_8, b_M_betweenOf_9, b_M_betweenOf_10, qy0, qy1, qy2, qy3, qe, qcn, qin, ↓reduceIte, Nat.reduceEqDiff, Nat.reduceLeDiff, Bool.false_eq_true, Nat.reduceAdd, Nat.reduceSub, Nat.reduceMul, Nat.reduceLT, or_self, or_false, false_or, or_true, true_or, and_self, and_true, true_and, and_false, false_and, not_true_eq_false, not_false_eq_true, mk, ic, r_w3, wk_27, iw, h10, wk_or2, hz]
theorem bw_n2 (D : Nat) {x : qm_Hp} {t : Nat} (h10 : zI x 9 0 10 = nI t) (ht : t ≤ 62 ∧ t ≠ 2) (mk : qm_evM D jM_marker [qP 9 0] x = some (some (qI N1), x)) (ic : qm_evM D jM_isCompared [qP 9 0] x = some (some (qI (nI 1)), x)) (iw : qm_evM D jM_isWord [qP 9 0, qL (wdK 27)] x = some (some (qI (nI 0)), x)) : qm_evB (D + 1) jM_betweenOf 4 [qP 9 0, qI (nI 1)] [] x = some (some (qI N1), x) := by
  simp (config := {maxSteps := 1000000}) (disch := first | omega | assumption | (simp only [qm_wid_n, qm_wid_I, qm_wid_L, qm_wid_P]; omega) | (simp only [qm_wid_n, qm_wid_I, qm_wid_L, qm_wid_P]; done) | fail) only [b_M_betweenOf_4, b_M_betweenOf_6, b_M_betweenOf_7, b_M_betweenOf_8, b_M_betweenOf_9, b_M_betweenOf_10, qy0, qy1, qy2, qy3, qe, qcn, qin, ↓reduceIte, Nat.reduceEqDiff, Nat.reduceLeDiff, Bool.false_eq_true, Nat.reduceAdd, Nat.reduceSub, Nat.reduceMul, Nat.reduceLT, or_self, or_false, false_or, or_true, true_or, and_self, and_true, true_and, and_false, false_and, not_true_eq_false, not_false_eq_true, mk, ic, r_w3, wk_27, iw, h10]
theorem mki_l : ∀ p : List Nat, mki p ≤ p.length
  | [] => Nat.le_refl _
  | c :: q => by
    have ih := mki_l q
    show (if 40 ≤ c then q.length else mki q) ≤ q.length + 1
    by_cases g : 40 ≤ c
    · rw [if_pos g]; omega
    · rw [if_neg g]; omega
theorem r_btwY (D : Nat) {Tk : Nat → Nat} {i V : Nat} {x : qm_Hp} {p : List Nat} {e : Bool} (hk : RK (Tk i) V x) (h18 : zI x 9 0 18 = nI p.length) (h : PLs x p) (h5 : ∀ c, c ∈ p → c < 50) (hl : p.length ≤ 160) (hb : BT Tk e i p) : qm_evM (D + 2) jM_betweenOf [qP 9 0, qI (nI (eI e))] x = some (some (qI (nI (opt (Tk i)))), x) := by
  rcases hb with hb | ⟨he, m0, hc, h1, h2⟩ | ⟨he, m0, hc, h1⟩
  · exact r_btwA (D + 2) hk hb _
  · have ic := r_isCompared D h18 h h5 hl
    have mk := r_marker (D + 1) h18 h h5 hl
    have co := r_compareOf (D + 1) hk
    rw [show mkI p = N1 from if_pos m0] at mk
    rw [hc] at ic
    rw [show cmpv (Tk i) = nI (opt (Tk i)) from if_pos ⟨h1, h2⟩] at co
    obtain ⟨t, h10, tt, -, -⟩ := hk
    have ar := TT_ar tt
    have tb := TT_b tt
    clear tt
    rw [bw_4 (D + 2) h10 tb.1 ⟨fun g => by have := ar.1 g; omega, fun g => by have := ar.2.1 g; omega, fun g => by have := ar.2.2.1 g; omega, fun g => by have := ar.2.2.2.1 g; omega⟩, show eI e = 1 from if_pos he]
    exact bw_C (D + 1) mk ic co
  · have ic := r_isCompared D h18 h h5 hl
    have mk := r_marker (D + 1) h18 h h5 hl
    have iw := r_isWord (D + 1) hk (k := 27) (by decide)
    rw [show mkI p = N1 from if_pos m0] at mk
    rw [hc] at ic
    have hT : Tk i = 28 ∨ Tk i = 27 := by
      unfold lvl at h1
      by_cases g1 : Tk i = 28
      · exact Or.inl g1
      · rw [if_neg g1] at h1
        by_cases g2 : Tk i = 27
        · exact Or.inr g2
        · rw [if_neg g2] at h1
          by_cases g3 : Tk i = 49 ∨ Tk i = 50
          · rw [if_pos g3] at h1; omega
          · rw [if_neg g3] at h1
            by_cases g4 : Tk i = 51 ∨ Tk i = 52
            · rw [if_pos g4] at h1; omega
            · rw [if_neg g4] at h1; omega
    obtain ⟨t, h10, tt, -, hw⟩ := hk
    have tb := TT_b tt
    have t2 : t = 2 := by omega
    clear tt
    subst t2
    rw [bw_4 (D + 2) h10 (by decide) (by decide), show eI e = 1 from if_pos he]
    rcases hT with g | g
    · rw [if_neg (by omega)] at iw
      rw [g]
      exact bw_or (D + 1) h10 ((lg_0 _ _).mpr ((hw rfl 28 (by decide)).mpr g)) mk ic iw
    · rw [if_pos g] at iw
      rw [g]
      exact bw_and (D + 1) mk ic iw
theorem r_btwN (D : Nat) {Tk : Nat → Nat} {i V : Nat} {x : qm_Hp} {p : List Nat} {e : Bool} (hk : RK (Tk i) V x) (h18 : zI x 9 0 18 = nI p.length) (h : PLs x p) (h5 : ∀ c, c ∈ p → c < 50) (hl : p.length ≤ 160) (h1 : lvl (Tk i) ≠ 3 ∧ lvl (Tk i) ≠ 4) (h2 : e = true → mkd p = 0 → cpd p = false → ¬ (43 ≤ Tk i ∧ Tk i ≤ 48)) (h3 : e = true → mkd p = 0 → cpd p = true → lvl (Tk i) ≠ 0 ∧ lvl (Tk i) ≠ 1) : qm_evM (D + 2) jM_betweenOf [qP 9 0, qI (nI (eI e))] x = some (some (qI N1), x) := by
  have ic := r_isCompared D h18 h h5 hl
  have mk := r_marker (D + 1) h18 h h5 hl
  have co := r_compareOf (D + 1) hk
  have iw := r_isWord (D + 1) hk (k := 27) (by decide)
  have n4 := lv_n h1
  have ml := mki_l p
  obtain ⟨t, h10, tt, -, hw⟩ := hk
  have ar := TT_ar tt
  have tb := TT_b tt
  clear tt
  rw [bw_4 (D + 2) h10 tb.1 ⟨fun g => n4.1 (ar.1 g), fun g => n4.2.1 (ar.2.1 g), fun g => n4.2.2.1 (ar.2.2.1 g), fun g => n4.2.2.2 (ar.2.2.2.1 g)⟩]
  cases e with
  | false => exact bw_N0 (D + 2)
  | true =>
    show qm_evB (D + 2) jM_betweenOf 4 [qP 9 0, qI (nI 1)] [] x = _
    by_cases m0 : mkd p = 0
    · rw [show mkI p = N1 from if_pos m0] at mk
      cases hc : cpd p with
      | false =>
        rw [hc] at ic
        rw [show cmpv (Tk i) = N1 from if_neg (h2 rfl m0 hc)] at co
        exact bw_C (D + 1) mk ic co
      | true =>
        rw [hc] at ic
        have k := h3 rfl m0 hc
        have k27 : Tk i ≠ 27 := fun g => k.2 (by rw [g]; rfl)
        have k28 : Tk i ≠ 28 := fun g => k.1 (by rw [g]; rfl)
        rw [if_neg k27] at iw
        by_cases t2 : t = 2
        · subst t2
          exact bw_n1 (D + 1) h10 (fun g => k28 ((hw rfl 28 (by decide)).mp ((lg_0 _ _).mp g))) mk ic iw
        · exact bw_n2 (D + 1) h10 ⟨tb.1, t2⟩ mk ic iw
    · rw [show mkI p = nI (mki p) from if_neg m0] at mk
      exact bw_N1 (D + 1) (by omega) mk
theorem r_opF (D : Nat) {x : qm_Hp} {o : Nat} (ho : o = 40 ∨ o = 2 ∨ o = 20) (h19 : zI x 9 0 19 = nI 8) : qm_evM D jM_opensBy [qP 9 0, qI (nI o)] x = some (some (qI (nI 3)), x) := by
  rcases ho with g | g | g <;> subst g <;> simp (config := {maxSteps := 1000000}) (disch := first | omega | assumption | (simp only [qm_wid_n, qm_wid_I, qm_wid_L, qm_wid_P]; omega) | (simp only [qm_wid_n, qm_wid_I, qm_wid_L, qm_wid_P]; done) | fail) only [e_M_opensBy, b_M_opensBy_0, b_M_opensBy_2, b_M_opensBy_4, qy0, qy1, qy2, qy3, qe, qcn, qin, ↓reduceIte, Nat.reduceEqDiff, Nat.reduceLeDiff, Bool.false_eq_true, Nat.reduceAdd, Nat.reduceSub, Nat.reduceMul, Nat.reduceLT, or_self, or_false, false_or, or_true, true_or, and_self, and_true, true_and, and_false, false_and, not_true_eq_false, not_false_eq_true, h19]
theorem r_opY (D : Nat) {x x1 : qm_Hp} {o q n : Nat} (ho : o = 40 ∨ o = 2 ∨ o = 20) (hq : q < 8) (hn : n < 160) (h18 : zI x 9 0 18 = nI n) (h19 : zI x 9 0 19 = nI q) (nx : qm_evM D jM_nextToken [qP 9 0] (uI (uI (uI x 9 0 19 (nI (q + 1))) 64 0 n (nI o)) 9 0 18 (nI (n + 1))) = some (none, x1)) : qm_evM (D + 1) jM_opensBy [qP 9 0, qI (nI o)] x = some (some (qI (nI 0)), x1) := by
  have pu := r_push D (x := uI x 9 0 19 (nI (q + 1))) hn (by rw [zI_uI, if_neg (by omega)]; exact h18) o
  rcases ho with g | g | g <;> subst g <;> simp (config := {maxSteps := 1000000}) (disch := first | omega | assumption | (simp only [qm_wid_n, qm_wid_I, qm_wid_L, qm_wid_P]; omega) | (simp only [qm_wid_n, qm_wid_I, qm_wid_L, qm_wid_P]; done) | fail) only [e_M_opensBy, b_M_opensBy_0, b_M_opensBy_2, b_M_opensBy_4, b_M_opensBy_5, qy0, qy1, qy2, qy3, qe, qcn, qin, ↓reduceIte, Nat.reduceEqDiff, Nat.reduceLeDiff, Bool.false_eq_true, Nat.reduceAdd, Nat.reduceSub, Nat.reduceMul, Nat.reduceLT, or_self, or_false, false_or, or_true, true_or, and_self, and_true, true_and, and_false, false_and, not_true_eq_false, not_false_eq_true, h19, pu, nx]
theorem r_opm1 (D : Nat) {x x1 : qm_Hp} {o t : Nat} (ho : o = 41 ∨ o = 42) (nx : qm_evM D jM_nextToken [qP 9 0] x = some (none, x1)) (h10 : zI x1 9 0 10 = nI t) (ht : t ≤ 62 ∧ t ≠ 40) : qm_evM (D + 1) jM_opensBy [qP 9 0, qI (nI o)] x = some (some (qI (nI 1)), x1) := by
  rcases ho with g | g <;> subst g <;> simp (config := {maxSteps := 1000000}) (disch := first | omega | assumption | (simp only [qm_wid_n, qm_wid_I, qm_wid_L, qm_wid_P]; omega) | (simp only [qm_wid_n, qm_wid_I, qm_wid_L, qm_wid_P]; done) | fail) only [e_M_opensBy, b_M_opensBy_0, b_M_opensBy_1, b_M_opensBy_2, b_M_opensBy_3, qy0, qy1, qy2, qy3, qe, qcn, qin, ↓reduceIte, Nat.reduceEqDiff, Nat.reduceLeDiff, Bool.false_eq_true, Nat.reduceAdd, Nat.reduceSub, Nat.reduceMul, Nat.reduceLT, or_self, or_false, false_or, or_true, true_or, and_self, and_true, true_and, and_false, false_and, not_true_eq_false, not_false_eq_true, nx, h10]
theorem r_opmF (D : Nat) {x x1 : qm_Hp} {o : Nat} (ho : o = 41 ∨ o = 42) (nx : qm_evM D jM_nextToken [qP 9 0] x = some (none, x1)) (h10 : zI x1 9 0 10 = nI 40) (h19 : zI x1 9 0 19 = nI 8) : qm_evM (D + 1) jM_opensBy [qP 9 0, qI (nI o)] x = some (some (qI (nI 3)), x1) := by
  rcases ho with g | g <;> subst g <;> simp (config := {maxSteps := 1000000}) (disch := first | omega | assumption | (simp only [qm_wid_n, qm_wid_I, qm_wid_L, qm_wid_P]; omega) | (simp only [qm_wid_n, qm_wid_I, qm_wid_L, qm_wid_P]; done) | fail) only [e_M_opensBy, b_M_opensBy_0, b_M_opensBy_1, b_M_opensBy_2, b_M_opensBy_3, b_M_opensBy_4, qy0, qy1, qy2, qy3, qe, qcn, qin, ↓reduceIte, Nat.reduceEqDiff, Nat.reduceLeDiff, Bool.false_eq_true, Nat.reduceAdd, Nat.reduceSub, Nat.reduceMul, Nat.reduceLT, or_self, or_false, false_or, or_true, true_or, and_self, and_true, true_and, and_false, false_and, not_true_eq_false, not_false_eq_true, nx, h10, h19]
theorem r_opmY (D : Nat) {x x1 x2 : qm_Hp} {o q n : Nat} (ho : o = 41 ∨ o = 42) (hq : q < 8) (hn : n < 160) (nx : qm_evM D jM_nextToken [qP 9 0] x = some (none, x1)) (h10 : zI x1 9 0 10 = nI 40) (h18 : zI x1 9 0 18 = nI n) (h19 : zI x1 9 0 19 = nI q) (nx2 : qm_evM D jM_nextToken [qP 9 0] (uI (uI (uI x1 9 0 19 (nI (q + 1))) 64 0 n (nI o)) 9 0 18 (nI (n + 1))) = some (none, x2)) : qm_evM (D + 1) jM_opensBy [qP 9 0, qI (nI o)] x = some (some (qI (nI 0)), x2) := by
  have pu := r_push D (x := uI x1 9 0 19 (nI (q + 1))) hn (by rw [zI_uI, if_neg (by omega)]; exact h18) o
  rcases ho with g | g <;> subst g <;> simp (config := {maxSteps := 1000000}) (disch := first | omega | assumption | (simp only [qm_wid_n, qm_wid_I, qm_wid_L, qm_wid_P]; omega) | (simp only [qm_wid_n, qm_wid_I, qm_wid_L, qm_wid_P]; done) | fail) only [e_M_opensBy, b_M_opensBy_0, b_M_opensBy_1, b_M_opensBy_2, b_M_opensBy_3, b_M_opensBy_4, b_M_opensBy_5, qy0, qy1, qy2, qy3, qe, qcn, qin, ↓reduceIte, Nat.reduceEqDiff, Nat.reduceLeDiff, Bool.false_eq_true, Nat.reduceAdd, Nat.reduceSub, Nat.reduceMul, Nat.reduceLT, or_self, or_false, false_or, or_true, true_or, and_self, and_true, true_and, and_false, false_and, not_true_eq_false, not_false_eq_true, nx, h10, h19, pu, nx2]
