/-! tokens of a row of bytes, and the class's small ones -/
def isL (b : Nat) : Bool := decide ((97 ≤ b ∧ b ≤ 122) ∨ (65 ≤ b ∧ b ≤ 90))
def isD (b : Nat) : Bool := decide (48 ≤ b ∧ b ≤ 57)
def isS (b : Nat) : Bool := decide (b = 32 ∨ b = 10)
/-- the end of a row of bytes of one sort -/
def rwn (B : Nat → Nat) (p : Nat → Bool) : Nat → Nat → Nat
  | 0, j => j
  | n + 1, j => if p (B j) = true then rwn B p n (j + 1) else j
def nv (B : Nat → Nat) : Nat → Nat → Nat → Nat
  | 0, _, v => v
  | n + 1, j, v => if isD (B j) = true then nv B n (j + 1) (min 10000 (v * 10 + B j - 48)) else v
def wo (B : Nat → Nat) (f e : Nat) : List Nat → Nat → Nat → Bool → Nat
  | [], _, _, _ => 42
  | c :: cs, w, j, sm => if c = 32 then (if sm = true ∧ f + j = e then w else wo B f e cs (w + 1) 0 true) else wo B f e cs w (j + 1) (sm && decide (f + j < e ∧ B (f + j) = c))
def sgb (b : Nat) : Nat := if b = 60 then 1 else if b = 62 then 2 else if b = 61 then 3 else if b = 35 then 4 else if b = 43 then 5 else if b = 45 then 6 else if b = 42 then 7 else if b = 47 then 8 else if b = 40 then 9 else if b = 41 then 10 else if b = 44 then 11 else if b = 59 then 12 else 13
def sgn (b : Nat) : Nat := [0, 43, 45, 47, 48, 49, 50, 51, 52, 53, 54, 55, 56, 42].getD (sgb b) 0
def tk0 (B : Nat → Nat) (L p : Nat) : Nat × Nat × Nat :=
  if L ≤ p then (41, 0, p) else if isL (B p) = true then (wo B p (rwn B isL (L - p) p) qm_str 0 0 true, 0, rwn B isL (L - p) p) else if isD (B p) = true then (40, nv B (L - p) p 0, rwn B isD (L - p) p) else if (p + 1 < L ∧ B (p + 1) = 61) ∧ B p = 60 then (44, 0, p + 2) else if (p + 1 < L ∧ B (p + 1) = 61) ∧ B p = 62 then (46, 0, p + 2) else (sgn (B p), 0, p + 1)
def skp (B : Nat → Nat) (L p : Nat) : Nat := rwn B isS (L - p) p
def stt (B : Nat → Nat) (L : Nat) : Nat → Nat
  | 0 => skp B L 0
  | i + 1 => skp B L (tk0 B L (stt B L i)).2.2
theorem rwn_b (B : Nat → Nat) (p : Nat → Bool) : ∀ n j, j ≤ rwn B p n j ∧ rwn B p n j ≤ j + n
  | 0, j => ⟨Nat.le_refl _, Nat.le_refl _⟩
  | n + 1, j => by
    show j ≤ (if p (B j) = true then rwn B p n (j + 1) else j) ∧ (if p (B j) = true then rwn B p n (j + 1) else j) ≤ j + (n + 1)
    have := rwn_b B p n (j + 1)
    by_cases q : p (B j) = true
    · rw [if_pos q]; omega
    · rw [if_neg q]; omega
theorem c_isDY (d : Nat) (s : qm_Hp) {b : Nat} (h : isD b = true) : qm_evM (d + 1) jK_isDigit [qI (nI b)] s = some (some (qI (nI 1)), s) := by
  have h := of_decide_eq_true h
  simp (config := {maxSteps := 1000000}) (disch := first | omega | assumption | (simp only [qm_wid_n, qm_wid_I, qm_wid_L, qm_wid_P]; omega) | (simp only [qm_wid_n, qm_wid_I, qm_wid_L, qm_wid_P]; done) | fail) only [e_K_isDigit, b_K_isDigit_0, qy0, qy1, qy2, qy3, qe, qcn, qin, ↓reduceIte, Nat.reduceEqDiff, Nat.reduceLeDiff, Bool.false_eq_true, Nat.reduceAdd, Nat.reduceSub, Nat.reduceMul, Nat.reduceLT, or_self, or_false, false_or, or_true, true_or, and_self, and_true, true_and, and_false, false_and, not_true_eq_false, not_false_eq_true, t_within]
theorem c_isDN (d : Nat) (s : qm_Hp) {b : Nat} (hb : b < 256) (h : ¬ isD b = true) : qm_evM (d + 1) jK_isDigit [qI (nI b)] s = some (some (qI (nI 0)), s) := by
  have h : ¬ (48 ≤ b ∧ b ≤ 57) := fun g => h (decide_eq_true g)
  rcases (by omega : b < 48 ∨ 57 < b) with k | k
  · simp (config := {maxSteps := 1000000}) (disch := first | omega | assumption | (simp only [qm_wid_n, qm_wid_I, qm_wid_L, qm_wid_P]; omega) | (simp only [qm_wid_n, qm_wid_I, qm_wid_L, qm_wid_P]; done) | fail) only [e_K_isDigit, b_K_isDigit_0, qy0, qy1, qy2, qy3, qe, qcn, qin, ↓reduceIte, Nat.reduceEqDiff, Nat.reduceLeDiff, Bool.false_eq_true, Nat.reduceAdd, Nat.reduceSub, Nat.reduceMul, Nat.reduceLT, or_self, or_false, false_or, or_true, true_or, and_self, and_true, true_and, and_false, false_and, not_true_eq_false, not_false_eq_true, t_within]
  · simp (config := {maxSteps := 1000000}) (disch := first | omega | assumption | (simp only [qm_wid_n, qm_wid_I, qm_wid_L, qm_wid_P]; omega) | (simp only [qm_wid_n, qm_wid_I, qm_wid_L, qm_wid_P]; done) | fail) only [e_K_isDigit, b_K_isDigit_0, qy0, qy1, qy2, qy3, qe, qcn, qin, ↓reduceIte, Nat.reduceEqDiff, Nat.reduceLeDiff, Bool.false_eq_true, Nat.reduceAdd, Nat.reduceSub, Nat.reduceMul, Nat.reduceLT, or_self, or_false, false_or, or_true, true_or, and_self, and_true, true_and, and_false, false_and, not_true_eq_false, not_false_eq_true, t_within]
theorem c_isLY (d : Nat) (s : qm_Hp) {b : Nat} (h : isL b = true) : qm_evM (d + 1) jK_isLetter [qI (nI b)] s = some (some (qI (nI 1)), s) := by
  rcases (of_decide_eq_true h : (97 ≤ b ∧ b ≤ 122) ∨ (65 ≤ b ∧ b ≤ 90)) with k | k
  · simp (config := {maxSteps := 1000000}) (disch := first | omega | assumption | (simp only [qm_wid_n, qm_wid_I, qm_wid_L, qm_wid_P]; omega) | (simp only [qm_wid_n, qm_wid_I, qm_wid_L, qm_wid_P]; done) | fail) only [e_K_isLetter, b_K_isLetter_0, b_K_isLetter_1, b_K_isLetter_2, b_K_isLetter_3, qy0, qy1, qy2, qy3, qe, qcn, qin, ↓reduceIte, Nat.reduceEqDiff, Nat.reduceLeDiff, Bool.false_eq_true, Nat.reduceAdd, Nat.reduceSub, Nat.reduceMul, Nat.reduceLT, or_self, or_false, false_or, or_true, true_or, and_self, and_true, true_and, and_false, false_and, not_true_eq_false, not_false_eq_true, t_within]
  · simp (config := {maxSteps := 1000000}) (disch := first | omega | assumption | (simp only [qm_wid_n, qm_wid_I, qm_wid_L, qm_wid_P]; omega) | (simp only [qm_wid_n, qm_wid_I, qm_wid_L, qm_wid_P]; done) | fail) only [e_K_isLetter, b_K_isLetter_0, b_K_isLetter_1, b_K_isLetter_2, b_K_isLetter_3, qy0, qy1, qy2, qy3, qe, qcn, qin, ↓reduceIte, Nat.reduceEqDiff, Nat.reduceLeDiff, Bool.false_eq_true, Nat.reduceAdd, Nat.reduceSub, Nat.reduceMul, Nat.reduceLT, or_self, or_false, false_or, or_true, true_or, and_self, and_true, true_and, and_false, false_and, not_true_eq_false, not_false_eq_true, t_within]
theorem c_isLN (d : Nat) (s : qm_Hp) {b : Nat} (hb : b < 256) (h : ¬ isL b = true) : qm_evM (d + 1) jK_isLetter [qI (nI b)] s = some (some (qI (nI 0)), s) := by
  have h : ¬ ((97 ≤ b ∧ b ≤ 122) ∨ (65 ≤ b ∧ b ≤ 90)) := fun g => h (decide_eq_true g)
  rcases (by omega : b < 65 ∨ (90 < b ∧ b < 97) ∨ 122 < b) with k | k | k
  · simp (config := {maxSteps := 1000000}) (disch := first | omega | assumption | (simp only [qm_wid_n, qm_wid_I, qm_wid_L, qm_wid_P]; omega) | (simp only [qm_wid_n, qm_wid_I, qm_wid_L, qm_wid_P]; done) | fail) only [e_K_isLetter, b_K_isLetter_0, b_K_isLetter_1, b_K_isLetter_2, b_K_isLetter_3, qy0, qy1, qy2, qy3, qe, qcn, qin, ↓reduceIte, Nat.reduceEqDiff, Nat.reduceLeDiff, Bool.false_eq_true, Nat.reduceAdd, Nat.reduceSub, Nat.reduceMul, Nat.reduceLT, or_self, or_false, false_or, or_true, true_or, and_self, and_true, true_and, and_false, false_and, not_true_eq_false, not_false_eq_true, t_within]
  · simp (config := {maxSteps := 1000000}) (disch := first | omega | assumption | (simp only [qm_wid_n, qm_wid_I, qm_wid_L, qm_wid_P]; omega) | (simp only [qm_wid_n, qm_wid_I, qm_wid_L, qm_wid_P]; done) | fail) only [e_K_isLetter, b_K_isLetter_0, b_K_isLetter_1, b_K_isLetter_2, b_K_isLetter_3, qy0, qy1, qy2, qy3, qe, qcn, qin, ↓reduceIte, Nat.reduceEqDiff, Nat.reduceLeDiff, Bool.false_eq_true, Nat.reduceAdd, Nat.reduceSub, Nat.reduceMul, Nat.reduceLT, or_self, or_false, false_or, or_true, true_or, and_self, and_true, true_and, and_false, false_and, not_true_eq_false, not_false_eq_true, t_within]
  · simp (config := {maxSteps := 1000000}) (disch := first | omega | assumption | (simp only [qm_wid_n, qm_wid_I, qm_wid_L, qm_wid_P]; omega) | (simp only [qm_wid_n, qm_wid_I, qm_wid_L, qm_wid_P]; done) | fail) only [e_K_isLetter, b_K_isLetter_0, b_K_isLetter_1, b_K_isLetter_2, b_K_isLetter_3, qy0, qy1, qy2, qy3, qe, qcn, qin, ↓reduceIte, Nat.reduceEqDiff, Nat.reduceLeDiff, Bool.false_eq_true, Nat.reduceAdd, Nat.reduceSub, Nat.reduceMul, Nat.reduceLT, or_self, or_false, false_or, or_true, true_or, and_self, and_true, true_and, and_false, false_and, not_true_eq_false, not_false_eq_true, t_within]
theorem sgb_b : ∀ b, b < 256 → 1 ≤ sgb b ∧ sgb b ≤ 13 := by decide +kernel
theorem sgb_sw : ∀ b, b < 256 → qm_sw [4, 13, 13, 13, 13, 9, 10, 7, 5, 11, 6, 13, 8, 13, 13, 13, 13, 13, 13, 13, 13, 13, 13, 13, 12, 1, 3, 2] 35 (nI b) 13 = sgb b := by decide +kernel
theorem c_signOf (d : Nat) (s : qm_Hp) {b : Nat} (hb : b < 256) : qm_evM d jK_signOf [qI (nI b)] s = some (some (qI (nI (sgn b))), s) := by
  have hs := sgb_sw b hb
  have h1 := sgb_b b hb
  simp (config := {maxSteps := 1000000}) (disch := first | omega | assumption | (simp only [qm_wid_n, qm_wid_I, qm_wid_L, qm_wid_P]; omega) | (simp only [qm_wid_n, qm_wid_I, qm_wid_L, qm_wid_P]; done) | fail) only [e_K_signOf, b_K_signOf_0, qy0, qy1, qy2, qy3, qe, qcn, qin, ↓reduceIte, Nat.reduceEqDiff, Nat.reduceLeDiff, Bool.false_eq_true, Nat.reduceAdd, Nat.reduceSub, Nat.reduceMul, Nat.reduceLT, or_self, or_false, false_or, or_true, true_or, and_self, and_true, true_and, and_false, false_and, not_true_eq_false, not_false_eq_true, hs]
  unfold sgn
  generalize sgb b = k at h1
  rcases (by omega : k = 1 ∨ k = 2 ∨ k = 3 ∨ k = 4 ∨ k = 5 ∨ k = 6 ∨ k = 7 ∨ k = 8 ∨ k = 9 ∨ k = 10 ∨ k = 11 ∨ k = 12 ∨ k = 13) with h | h | h | h | h | h | h | h | h | h | h | h | h <;> subst h <;> simp (config := {maxSteps := 1000000}) (disch := first | omega | assumption | (simp only [qm_wid_n, qm_wid_I, qm_wid_L, qm_wid_P]; omega) | (simp only [qm_wid_n, qm_wid_I, qm_wid_L, qm_wid_P]; done) | fail) only [b_K_signOf_1, b_K_signOf_2, b_K_signOf_3, b_K_signOf_4, b_K_signOf_5, b_K_signOf_6, b_K_signOf_7, b_K_signOf_8, b_K_signOf_9, b_K_signOf_10, b_K_signOf_11, b_K_signOf_12, b_K_signOf_13, qy0, qy1, qy2, qy3, qe, qcn, qin, ↓reduceIte, Nat.reduceEqDiff, Nat.reduceLeDiff, Bool.false_eq_true, Nat.reduceAdd, Nat.reduceSub, Nat.reduceMul, Nat.reduceLT, or_self, or_false, false_or, or_true, true_or, and_self, and_true, true_and, and_false, false_and, not_true_eq_false, not_false_eq_true] <;> rfl
def kad (x : qm_Hp) (c t v p : Nat) : qm_Hp := uI (uI (uI (uI x 43 0 c (nI t)) 44 0 c (nI v)) 45 0 c (nI p)) 7 0 3 (nI (c + 1))
theorem c_kadd (d : Nat) {x : qm_Hp} {c : Nat} (hc : c ≤ 300) (h : zI x 7 0 3 = nI c) (t v p : Nat) : qm_evM d jK_add [qP 7 0, qI (nI t), qI (nI v), qI (nI p)] x = some (none, kad x c t v p) := by
  simp (config := {maxSteps := 1000000}) (disch := first | omega | assumption | (simp only [qm_wid_n, qm_wid_I, qm_wid_L, qm_wid_P]; omega) | (simp only [qm_wid_n, qm_wid_I, qm_wid_L, qm_wid_P]; done) | fail) only [e_K_add, b_K_add_0, b_K_add_1, qy0, qy1, qy2, qy3, qe, qcn, qin, ↓reduceIte, Nat.reduceEqDiff, Nat.reduceLeDiff, Bool.false_eq_true, Nat.reduceAdd, Nat.reduceSub, Nat.reduceMul, Nat.reduceLT, or_self, or_false, false_or, or_true, true_or, and_self, and_true, true_and, and_false, false_and, not_true_eq_false, not_false_eq_true, zI_uI, h, kad]
def BY (B : Nat → Nat) (L : Nat) (x : qm_Hp) : Prop := L ≤ 300 ∧ ∀ j, j < L → zI x 52 0 j = nI (B j) ∧ B j < 256
theorem cn_y (D : Nat) {x : qm_Hp} {f L j v b : Nat} (hL : L ≤ 300) (hj : j < L) (hv : v ≤ 10000) (hz : zI x 52 0 j = nI b) (hb : isD b = true) : qm_evB (D + 2) jK_cutNumber 1 [qP 7 0, qP 52 0, qI (nI f), qI (nI L), qI (nI j), qI (nI v)] [] x = qm_evB (D + 2) jK_cutNumber 1 [qP 7 0, qP 52 0, qI (nI f), qI (nI L), qI (nI (j + 1)), qI (nI (min 10000 (v * 10 + b - 48)))] [] x := by
  have h := of_decide_eq_true hb
  have im := imin (a := 10000) (b := v * 10 + b - 48) (by decide) (by omega)
  refine (b_K_cutNumber_1 ..).trans ?_
  simp (config := {maxSteps := 1000000}) (disch := first | omega | assumption | (simp only [qm_wid_n, qm_wid_I, qm_wid_L, qm_wid_P]; omega) | (simp only [qm_wid_n, qm_wid_I, qm_wid_L, qm_wid_P]; done) | fail) only [qy0, qy1, qy2, qy3, qe, qcn, qin, ↓reduceIte, Nat.reduceEqDiff, Nat.reduceLeDiff, Bool.false_eq_true, Nat.reduceAdd, Nat.reduceSub, Nat.reduceMul, Nat.reduceLT, or_self, or_false, false_or, or_true, true_or, and_self, and_true, true_and, and_false, false_and, not_true_eq_false, not_false_eq_true, hz, c_isDY _ _ hb, im]
theorem cn_n (D : Nat) {x : qm_Hp} {f L j v b : Nat} (hL : L ≤ 300) (hj : j < L) (hb8 : b < 256) (hz : zI x 52 0 j = nI b) (hb : ¬ isD b = true) : qm_evB (D + 2) jK_cutNumber 1 [qP 7 0, qP 52 0, qI (nI f), qI (nI L), qI (nI j), qI (nI v)] [] x = qm_evB (D + 2) jK_cutNumber 2 [qP 7 0, qP 52 0, qI (nI f), qI (nI L), qI (nI j), qI (nI v)] [] x := by
  refine (b_K_cutNumber_1 ..).trans ?_
  simp (config := {maxSteps := 1000000}) (disch := first | omega | assumption | (simp only [qm_wid_n, qm_wid_I, qm_wid_L, qm_wid_P]; omega) | (simp only [qm_wid_n, qm_wid_I, qm_wid_L, qm_wid_P]; done) | fail) only [qy0, qy1, qy2, qy3, qe, qcn, qin, ↓reduceIte, Nat.reduceEqDiff, Nat.reduceLeDiff, Bool.false_eq_true, Nat.reduceAdd, Nat.reduceSub, Nat.reduceMul, Nat.reduceLT, or_self, or_false, false_or, or_true, true_or, and_self, and_true, true_and, and_false, false_and, not_true_eq_false, not_false_eq_true, hz, c_isDN _ _ hb8 hb]
theorem cn_e (D : Nat) {x : qm_Hp} {f L v : Nat} (hL : L ≤ 300) : qm_evB (D + 2) jK_cutNumber 1 [qP 7 0, qP 52 0, qI (nI f), qI (nI L), qI (nI L), qI (nI v)] [] x = qm_evB (D + 2) jK_cutNumber 2 [qP 7 0, qP 52 0, qI (nI f), qI (nI L), qI (nI L), qI (nI v)] [] x := by
  refine (b_K_cutNumber_1 ..).trans ?_
  simp (config := {maxSteps := 1000000}) (disch := first | omega | assumption | (simp only [qm_wid_n, qm_wid_I, qm_wid_L, qm_wid_P]; omega) | (simp only [qm_wid_n, qm_wid_I, qm_wid_L, qm_wid_P]; done) | fail) only [qy0, qy1, qy2, qy3, qe, qcn, qin, ↓reduceIte, Nat.reduceEqDiff, Nat.reduceLeDiff, Bool.false_eq_true, Nat.reduceAdd, Nat.reduceSub, Nat.reduceMul, Nat.reduceLT, or_self, or_false, false_or, or_true, true_or, and_self, and_true, true_and, and_false, false_and, not_true_eq_false, not_false_eq_true]
theorem cn_l (D : Nat) {B : Nat → Nat} {x : qm_Hp} {f L : Nat} (h : BY B L x) : ∀ n j v, j + n = L → v ≤ 10000 → qm_evB (D + 2) jK_cutNumber 1 [qP 7 0, qP 52 0, qI (nI f), qI (nI L), qI (nI j), qI (nI v)] [] x = qm_evB (D + 2) jK_cutNumber 2 [qP 7 0, qP 52 0, qI (nI f), qI (nI L), qI (nI (rwn B isD n j)), qI (nI (nv B n j v))] [] x := by
  intro n
  induction n with
  | zero =>
    intro j v hj hv
    have e : j = L := by omega
    subst e
    exact cn_e D h.1
  | succ n ih =>
    intro j v hj hv
    obtain ⟨hz, hb8⟩ := h.2 j (by omega)
    unfold rwn nv
    by_cases q : isD (B j) = true
    · rw [if_pos q, if_pos q]
      exact (cn_y D h.1 (by omega) hv hz q).trans (ih (j + 1) _ (by omega) (Nat.min_le_left _ _))
    · rw [if_neg q, if_neg q]
      exact cn_n D h.1 (by omega) hb8 hz q
theorem c_cutNumber (d : Nat) {B : Nat → Nat} {x : qm_Hp} {f L c : Nat} (h : BY B L x) (hf : f ≤ L) (hc : c ≤ 300) (h3 : zI x 7 0 3 = nI c) : qm_evM (d + 2) jK_cutNumber [qP 7 0, qP 52 0, qI (nI f), qI (nI L)] x = some (some (qI (nI (rwn B isD (L - f) f))), kad x c 40 (nv B (L - f) f 0) f) := by
  have hl := cn_l d (f := f) h (L - f) f 0 (by omega) (Nat.zero_le _)
  have ka := c_kadd (d + 1) hc h3 40 (nv B (L - f) f 0) f
  simp (config := {maxSteps := 1000000}) (disch := first | omega | assumption | (simp only [qm_wid_n, qm_wid_I, qm_wid_L, qm_wid_P]; omega) | (simp only [qm_wid_n, qm_wid_I, qm_wid_L, qm_wid_P]; done) | fail) only [e_K_cutNumber, b_K_cutNumber_0, b_K_cutNumber_2, qy0, qy1, qy2, qy3, qe, qcn, qin, ↓reduceIte, Nat.reduceEqDiff, Nat.reduceLeDiff, Bool.false_eq_true, Nat.reduceAdd, Nat.reduceSub, Nat.reduceMul, Nat.reduceLT, or_self, or_false, false_or, or_true, true_or, and_self, and_true, true_and, and_false, false_and, not_true_eq_false, not_false_eq_true, hl, ka]
theorem cw_y (D : Nat) {x : qm_Hp} {f L j b : Nat} (hL : L ≤ 300) (hj : j < L) (hz : zI x 52 0 j = nI b) (hb : isL b = true) : qm_evB (D + 2) jK_cutWord 1 [qP 7 0, qP 52 0, qI (nI f), qI (nI L), qI (nI j)] [] x = qm_evB (D + 2) jK_cutWord 1 [qP 7 0, qP 52 0, qI (nI f), qI (nI L), qI (nI (j + 1))] [] x := by
  refine (b_K_cutWord_1 ..).trans ?_
  simp (config := {maxSteps := 1000000}) (disch := first | omega | assumption | (simp only [qm_wid_n, qm_wid_I, qm_wid_L, qm_wid_P]; omega) | (simp only [qm_wid_n, qm_wid_I, qm_wid_L, qm_wid_P]; done) | fail) only [qy0, qy1, qy2, qy3, qe, qcn, qin, ↓reduceIte, Nat.reduceEqDiff, Nat.reduceLeDiff, Bool.false_eq_true, Nat.reduceAdd, Nat.reduceSub, Nat.reduceMul, Nat.reduceLT, or_self, or_false, false_or, or_true, true_or, and_self, and_true, true_and, and_false, false_and, not_true_eq_false, not_false_eq_true, hz, c_isLY _ _ hb]
theorem cw_n (D : Nat) {x : qm_Hp} {f L j b : Nat} (hL : L ≤ 300) (hj : j < L) (hb8 : b < 256) (hz : zI x 52 0 j = nI b) (hb : ¬ isL b = true) : qm_evB (D + 2) jK_cutWord 1 [qP 7 0, qP 52 0, qI (nI f), qI (nI L), qI (nI j)] [] x = qm_evB (D + 2) jK_cutWord 2 [qP 7 0, qP 52 0, qI (nI f), qI (nI L), qI (nI j)] [] x := by
  refine (b_K_cutWord_1 ..).trans ?_
  simp (config := {maxSteps := 1000000}) (disch := first | omega | assumption | (simp only [qm_wid_n, qm_wid_I, qm_wid_L, qm_wid_P]; omega) | (simp only [qm_wid_n, qm_wid_I, qm_wid_L, qm_wid_P]; done) | fail) only [qy0, qy1, qy2, qy3, qe, qcn, qin, ↓reduceIte, Nat.reduceEqDiff, Nat.reduceLeDiff, Bool.false_eq_true, Nat.reduceAdd, Nat.reduceSub, Nat.reduceMul, Nat.reduceLT, or_self, or_false, false_or, or_true, true_or, and_self, and_true, true_and, and_false, false_and, not_true_eq_false, not_false_eq_true, hz, c_isLN _ _ hb8 hb]
theorem cw_e (D : Nat) {x : qm_Hp} {f L : Nat} (hL : L ≤ 300) : qm_evB (D + 2) jK_cutWord 1 [qP 7 0, qP 52 0, qI (nI f), qI (nI L), qI (nI L)] [] x = qm_evB (D + 2) jK_cutWord 2 [qP 7 0, qP 52 0, qI (nI f), qI (nI L), qI (nI L)] [] x := by
  refine (b_K_cutWord_1 ..).trans ?_
  simp (config := {maxSteps := 1000000}) (disch := first | omega | assumption | (simp only [qm_wid_n, qm_wid_I, qm_wid_L, qm_wid_P]; omega) | (simp only [qm_wid_n, qm_wid_I, qm_wid_L, qm_wid_P]; done) | fail) only [qy0, qy1, qy2, qy3, qe, qcn, qin, ↓reduceIte, Nat.reduceEqDiff, Nat.reduceLeDiff, Bool.false_eq_true, Nat.reduceAdd, Nat.reduceSub, Nat.reduceMul, Nat.reduceLT, or_self, or_false, false_or, or_true, true_or, and_self, and_true, true_and, and_false, false_and, not_true_eq_false, not_false_eq_true]
theorem cw_l (D : Nat) {B : Nat → Nat} {x : qm_Hp} {f L : Nat} (h : BY B L x) : ∀ n j, j + n = L → qm_evB (D + 2) jK_cutWord 1 [qP 7 0, qP 52 0, qI (nI f), qI (nI L), qI (nI j)] [] x = qm_evB (D + 2) jK_cutWord 2 [qP 7 0, qP 52 0, qI (nI f), qI (nI L), qI (nI (rwn B isL n j))] [] x := by
  intro n
  induction n with
  | zero =>
    intro j hj
    have e : j = L := by omega
    subst e
    exact cw_e D h.1
  | succ n ih =>
    intro j hj
    obtain ⟨hz, hb8⟩ := h.2 j (by omega)
    unfold rwn
    by_cases q : isL (B j) = true
    · rw [if_pos q]
      exact (cw_y D h.1 (by omega) hz q).trans (ih (j + 1) (by omega))
    · rw [if_neg q]
      exact cw_n D h.1 (by omega) hb8 hz q
