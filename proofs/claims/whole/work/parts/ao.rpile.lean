/-! the reference's pile: emit, push, rank, settle, marker, compared -/
def PLs (x : qm_Hp) : List Nat → Prop
  | [] => True
  | c :: p => zI x 64 0 p.length = nI c ∧ PLs x p
theorem PLs_eq {x x' : qm_Hp} : ∀ {p : List Nat}, (∀ j, j < p.length → zI x' 64 0 j = zI x 64 0 j) → PLs x p → PLs x' p
  | [], _, _ => trivial
  | c :: p, e, h => ⟨(e p.length (by rw [List.length_cons]; omega)).trans h.1, PLs_eq (fun j hj => e j (by rw [List.length_cons]; omega)) h.2⟩
theorem PLs_dr {x : qm_Hp} : ∀ {pd rest : List Nat}, PLs x (pd ++ rest) → PLs x rest
  | [], _, h => h
  | _ :: _, _, h => PLs_dr h.2
theorem cdM_cong {f g : Nat → Int32} : ∀ {A : List (Nat × Nat)} {i : Nat}, (∀ p, 2 * i ≤ p → p < 2 * (i + A.length) → g p = f p) → cdM f i A → cdM g i A
  | [], _, _, _ => trivial
  | c :: A, i, e, h => by
    rw [List.length_cons] at e
    exact ⟨(e _ (by omega) (by omega)).trans h.1, (e _ (by omega) (by omega)).trans h.2.1, cdM_cong (fun p h1 h2 => e p (by omega) (by omega)) h.2.2⟩
theorem cdM_app {f : Nat → Int32} : ∀ {A C : List (Nat × Nat)} {i : Nat}, cdM f i A → cdM f (i + A.length) C → cdM f i (A ++ C)
  | [], _, _, _, h => h
  | c :: A, C, i, h, g => by
    rw [List.length_cons, show i + (A.length + 1) = i + 1 + A.length by omega] at g
    exact ⟨h.1, h.2.1, cdM_app h.2.2 g⟩
def hmm (x : qm_Hp) (tx u o v : Nat) : qm_Hp := uI (uI (uI x 62 0 (720 * tx + 110 + 2 * u) (nI o)) 62 0 (720 * tx + 110 + 2 * u + 1) (nI v)) 9 0 15 (nI (u + 1))
theorem r_emit (d : Nat) {x : qm_Hp} {tx u : Nat} (ht : tx < 4) (hu : u < 300) (h13 : zI x 9 0 13 = nI (720 * tx)) (h15 : zI x 9 0 15 = nI u) (o v : Nat) : qm_evM d jM_emit [qP 9 0, qI (nI o), qI (nI v)] x = some (none, hmm x tx u o v) := by
  simp (config := {maxSteps := 1000000}) (disch := first | omega | assumption | (simp only [qm_wid_n, qm_wid_I, qm_wid_L, qm_wid_P]; omega) | (simp only [qm_wid_n, qm_wid_I, qm_wid_L, qm_wid_P]; done) | fail) only [e_M_emit, b_M_emit_0, qy0, qy1, qy2, qy3, qe, qcn, qin, ↓reduceIte, Nat.reduceEqDiff, Nat.reduceLeDiff, Bool.false_eq_true, Nat.reduceAdd, Nat.reduceSub, Nat.reduceMul, Nat.reduceLT, or_self, or_false, false_or, or_true, true_or, and_self, and_true, true_and, and_false, false_and, not_true_eq_false, not_false_eq_true, h13, h15, zI_uI, hmm]
theorem r_push (d : Nat) {x : qm_Hp} {n : Nat} (hn : n < 160) (h18 : zI x 9 0 18 = nI n) (c : Nat) : qm_evM d jM_push [qP 9 0, qI (nI c)] x = some (none, uI (uI x 64 0 n (nI c)) 9 0 18 (nI (n + 1))) := by
  simp (config := {maxSteps := 1000000}) (disch := first | omega | assumption | (simp only [qm_wid_n, qm_wid_I, qm_wid_L, qm_wid_P]; omega) | (simp only [qm_wid_n, qm_wid_I, qm_wid_L, qm_wid_P]; done) | fail) only [e_M_push, b_M_push_0, qy0, qy1, qy2, qy3, qe, qcn, qin, ↓reduceIte, Nat.reduceEqDiff, Nat.reduceLeDiff, Bool.false_eq_true, Nat.reduceAdd, Nat.reduceSub, Nat.reduceMul, Nat.reduceLT, or_self, or_false, false_or, or_true, true_or, and_self, and_true, true_and, and_false, false_and, not_true_eq_false, not_false_eq_true, h18, zI_uI]
theorem r_rank (d : Nat) (s : qm_Hp) {c : Nat} (hc : c < 50) : qm_evM d jM_rank [qI (nI c)] s = some (some (qI (nI (rk c))), s) := by
  unfold rk
  by_cases h1 : 40 ≤ c
  · rw [if_pos h1]; simp (config := {maxSteps := 1000000}) (disch := first | omega | assumption | (simp only [qm_wid_n, qm_wid_I, qm_wid_L, qm_wid_P]; omega) | (simp only [qm_wid_n, qm_wid_I, qm_wid_L, qm_wid_P]; done) | fail) only [e_M_rank, b_M_rank_0, b_M_rank_1, b_M_rank_2, b_M_rank_3, b_M_rank_4, b_M_rank_5, b_M_rank_6, b_M_rank_7, b_M_rank_8, qy0, qy1, qy2, qy3, qe, qcn, qin, ↓reduceIte, Nat.reduceEqDiff, Nat.reduceLeDiff, Bool.false_eq_true, Nat.reduceAdd, Nat.reduceSub, Nat.reduceMul, Nat.reduceLT, or_self, or_false, false_or, or_true, true_or, and_self, and_true, true_and, and_false, false_and, not_true_eq_false, not_false_eq_true]
  · rw [if_neg h1]
    by_cases h2 : c = 22
    · rw [if_pos h2]; simp (config := {maxSteps := 1000000}) (disch := first | omega | assumption | (simp only [qm_wid_n, qm_wid_I, qm_wid_L, qm_wid_P]; omega) | (simp only [qm_wid_n, qm_wid_I, qm_wid_L, qm_wid_P]; done) | fail) only [e_M_rank, b_M_rank_0, b_M_rank_1, b_M_rank_2, b_M_rank_3, b_M_rank_4, b_M_rank_5, b_M_rank_6, b_M_rank_7, b_M_rank_8, qy0, qy1, qy2, qy3, qe, qcn, qin, ↓reduceIte, Nat.reduceEqDiff, Nat.reduceLeDiff, Bool.false_eq_true, Nat.reduceAdd, Nat.reduceSub, Nat.reduceMul, Nat.reduceLT, or_self, or_false, false_or, or_true, true_or, and_self, and_true, true_and, and_false, false_and, not_true_eq_false, not_false_eq_true]
    · rw [if_neg h2]
      by_cases h3 : c = 21
      · rw [if_pos h3]; simp (config := {maxSteps := 1000000}) (disch := first | omega | assumption | (simp only [qm_wid_n, qm_wid_I, qm_wid_L, qm_wid_P]; omega) | (simp only [qm_wid_n, qm_wid_I, qm_wid_L, qm_wid_P]; done) | fail) only [e_M_rank, b_M_rank_0, b_M_rank_1, b_M_rank_2, b_M_rank_3, b_M_rank_4, b_M_rank_5, b_M_rank_6, b_M_rank_7, b_M_rank_8, qy0, qy1, qy2, qy3, qe, qcn, qin, ↓reduceIte, Nat.reduceEqDiff, Nat.reduceLeDiff, Bool.false_eq_true, Nat.reduceAdd, Nat.reduceSub, Nat.reduceMul, Nat.reduceLT, or_self, or_false, false_or, or_true, true_or, and_self, and_true, true_and, and_false, false_and, not_true_eq_false, not_false_eq_true]
      · rw [if_neg h3]
        by_cases h4 : c = 20
        · rw [if_pos h4]; simp (config := {maxSteps := 1000000}) (disch := first | omega | assumption | (simp only [qm_wid_n, qm_wid_I, qm_wid_L, qm_wid_P]; omega) | (simp only [qm_wid_n, qm_wid_I, qm_wid_L, qm_wid_P]; done) | fail) only [e_M_rank, b_M_rank_0, b_M_rank_1, b_M_rank_2, b_M_rank_3, b_M_rank_4, b_M_rank_5, b_M_rank_6, b_M_rank_7, b_M_rank_8, qy0, qy1, qy2, qy3, qe, qcn, qin, ↓reduceIte, Nat.reduceEqDiff, Nat.reduceLeDiff, Bool.false_eq_true, Nat.reduceAdd, Nat.reduceSub, Nat.reduceMul, Nat.reduceLT, or_self, or_false, false_or, or_true, true_or, and_self, and_true, true_and, and_false, false_and, not_true_eq_false, not_false_eq_true]
        · rw [if_neg h4]
          by_cases h5 : 10 ≤ c
          · rw [if_pos h5]; simp (config := {maxSteps := 1000000}) (disch := first | omega | assumption | (simp only [qm_wid_n, qm_wid_I, qm_wid_L, qm_wid_P]; omega) | (simp only [qm_wid_n, qm_wid_I, qm_wid_L, qm_wid_P]; done) | fail) only [e_M_rank, b_M_rank_0, b_M_rank_1, b_M_rank_2, b_M_rank_3, b_M_rank_4, b_M_rank_5, b_M_rank_6, b_M_rank_7, b_M_rank_8, qy0, qy1, qy2, qy3, qe, qcn, qin, ↓reduceIte, Nat.reduceEqDiff, Nat.reduceLeDiff, Bool.false_eq_true, Nat.reduceAdd, Nat.reduceSub, Nat.reduceMul, Nat.reduceLT, or_self, or_false, false_or, or_true, true_or, and_self, and_true, true_and, and_false, false_and, not_true_eq_false, not_false_eq_true]
          · rw [if_neg h5]
            by_cases h6 : c = 2
            · rw [if_pos h6]; simp (config := {maxSteps := 1000000}) (disch := first | omega | assumption | (simp only [qm_wid_n, qm_wid_I, qm_wid_L, qm_wid_P]; omega) | (simp only [qm_wid_n, qm_wid_I, qm_wid_L, qm_wid_P]; done) | fail) only [e_M_rank, b_M_rank_0, b_M_rank_1, b_M_rank_2, b_M_rank_3, b_M_rank_4, b_M_rank_5, b_M_rank_6, b_M_rank_7, b_M_rank_8, qy0, qy1, qy2, qy3, qe, qcn, qin, ↓reduceIte, Nat.reduceEqDiff, Nat.reduceLeDiff, Bool.false_eq_true, Nat.reduceAdd, Nat.reduceSub, Nat.reduceMul, Nat.reduceLT, or_self, or_false, false_or, or_true, true_or, and_self, and_true, true_and, and_false, false_and, not_true_eq_false, not_false_eq_true]
            · rw [if_neg h6]
              by_cases h7 : 5 ≤ c
              · rw [if_pos h7]; simp (config := {maxSteps := 1000000}) (disch := first | omega | assumption | (simp only [qm_wid_n, qm_wid_I, qm_wid_L, qm_wid_P]; omega) | (simp only [qm_wid_n, qm_wid_I, qm_wid_L, qm_wid_P]; done) | fail) only [e_M_rank, b_M_rank_0, b_M_rank_1, b_M_rank_2, b_M_rank_3, b_M_rank_4, b_M_rank_5, b_M_rank_6, b_M_rank_7, b_M_rank_8, qy0, qy1, qy2, qy3, qe, qcn, qin, ↓reduceIte, Nat.reduceEqDiff, Nat.reduceLeDiff, Bool.false_eq_true, Nat.reduceAdd, Nat.reduceSub, Nat.reduceMul, Nat.reduceLT, or_self, or_false, false_or, or_true, true_or, and_self, and_true, true_and, and_false, false_and, not_true_eq_false, not_false_eq_true]
              · rw [if_neg h7]; simp (config := {maxSteps := 1000000}) (disch := first | omega | assumption | (simp only [qm_wid_n, qm_wid_I, qm_wid_L, qm_wid_P]; omega) | (simp only [qm_wid_n, qm_wid_I, qm_wid_L, qm_wid_P]; done) | fail) only [e_M_rank, b_M_rank_0, b_M_rank_1, b_M_rank_2, b_M_rank_3, b_M_rank_4, b_M_rank_5, b_M_rank_6, b_M_rank_7, b_M_rank_8, qy0, qy1, qy2, qy3, qe, qcn, qin, ↓reduceIte, Nat.reduceEqDiff, Nat.reduceLeDiff, Bool.false_eq_true, Nat.reduceAdd, Nat.reduceSub, Nat.reduceMul, Nat.reduceLT, or_self, or_false, false_or, or_true, true_or, and_self, and_true, true_and, and_false, false_and, not_true_eq_false, not_false_eq_true]
theorem rk_7 (c : Nat) : rk c ≤ 7 := by
  unfold rk
  repeat' split
  all_goals decide
theorem hmm_z (x : qm_Hp) (tx u o v k i j : Nat) : zI (hmm x tx u o v) k i j = if k = 9 ∧ i = 0 ∧ j = 15 then nI (u + 1) else if k = 62 ∧ i = 0 ∧ j = 720 * tx + 110 + 2 * u + 1 then nI v else if k = 62 ∧ i = 0 ∧ j = 720 * tx + 110 + 2 * u then nI o else zI x k i j := by
  unfold hmm
  rw [zI_uI, zI_uI, zI_uI]
/-- one deed off the pile -/
theorem se_1 (D : Nat) {x : qm_Hp} {tx u r c n : Nat} (ht : tx < 4) (hu : u < 300) (hr : r ≤ 7) (hc : c < 50) (hn : n < 160) (hk : r ≤ rk c) (h13 : zI x 9 0 13 = nI (720 * tx)) (h15 : zI x 9 0 15 = nI u) (h18 : zI x 9 0 18 = nI (n + 1)) (hz : zI x 64 0 n = nI c) (hop : ¬ (c = 2 ∨ c = 20)) : qm_evB (D + 1) jM_settle 0 [qP 9 0, qI (nI r)] [] x = qm_evB (D + 1) jM_settle 0 [qP 9 0, qI (nI r)] [] (hmm (uI x 9 0 18 (nI n)) tx u c 0) := by
  have k7 := rk_7 c
  have h1 : c ≠ 2 := by omega
  have h2 : c ≠ 20 := by omega
  have ra := r_rank D x hc
  have em1 := r_emit D (x := uI x 9 0 18 (nI n)) ht hu (by rw [zI_uI, if_neg (by omega)]; exact h13) (by rw [zI_uI, if_neg (by omega)]; exact h15) c 0
  have g18 : zI (hmm (uI x 9 0 18 (nI n)) tx u c 0) 9 0 18 = nI n := by rw [hmm_z, if_neg (by omega), if_neg (by omega), if_neg (by omega), zI_uI, if_pos ⟨rfl, rfl, rfl⟩]
  have gz : zI (hmm (uI x 9 0 18 (nI n)) tx u c 0) 64 0 n = nI c := by rw [hmm_z, if_neg (by omega), if_neg (by omega), if_neg (by omega), zI_uI, if_neg (by omega)]; exact hz
  refine (b_M_settle_0 ..).trans ?_
  simp (config := {maxSteps := 1000000}) (disch := first | omega | assumption | (simp only [qm_wid_n, qm_wid_I, qm_wid_L, qm_wid_P]; omega) | (simp only [qm_wid_n, qm_wid_I, qm_wid_L, qm_wid_P]; done) | fail) only [qy0, qy1, qy2, qy3, qe, qcn, qin, ↓reduceIte, Nat.reduceEqDiff, Nat.reduceLeDiff, Bool.false_eq_true, Nat.reduceAdd, Nat.reduceSub, Nat.reduceMul, Nat.reduceLT, or_self, or_false, false_or, or_true, true_or, and_self, and_true, true_and, and_false, false_and, not_true_eq_false, not_false_eq_true, Nat.add_sub_cancel, h18, hz, ra, zI_uI, em1, g18, gz]
theorem se_2 (D : Nat) {x : qm_Hp} {tx u r c n q : Nat} (ht : tx < 4) (hu : u < 300) (hr : r ≤ 7) (hn : n < 160) (hk : r ≤ rk c) (h13 : zI x 9 0 13 = nI (720 * tx)) (h15 : zI x 9 0 15 = nI u) (h18 : zI x 9 0 18 = nI (n + 1)) (h19 : zI x 9 0 19 = nI (q + 1)) (hz : zI x 64 0 n = nI c) (hop : c = 2 ∨ c = 20) : qm_evB (D + 1) jM_settle 0 [qP 9 0, qI (nI r)] [] x = qm_evB (D + 1) jM_settle 0 [qP 9 0, qI (nI r)] [] (uI (hmm (uI x 9 0 18 (nI n)) tx u c 0) 9 0 19 (nI q)) := by
  have k7 := rk_7 c
  have hc : c < 50 := by omega
  have ra := r_rank D x hc
  have em1 := r_emit D (x := uI x 9 0 18 (nI n)) ht hu (by rw [zI_uI, if_neg (by omega)]; exact h13) (by rw [zI_uI, if_neg (by omega)]; exact h15) c 0
  have g18 : zI (hmm (uI x 9 0 18 (nI n)) tx u c 0) 9 0 18 = nI n := by rw [hmm_z, if_neg (by omega), if_neg (by omega), if_neg (by omega), zI_uI, if_pos ⟨rfl, rfl, rfl⟩]
  have g19 : zI (hmm (uI x 9 0 18 (nI n)) tx u c 0) 9 0 19 = nI (q + 1) := by rw [hmm_z, if_neg (by omega), if_neg (by omega), if_neg (by omega), zI_uI, if_neg (by omega)]; exact h19
  have gz : zI (hmm (uI x 9 0 18 (nI n)) tx u c 0) 64 0 n = nI c := by rw [hmm_z, if_neg (by omega), if_neg (by omega), if_neg (by omega), zI_uI, if_neg (by omega)]; exact hz
  rcases hop with g | g
  · subst g
    refine (b_M_settle_0 ..).trans ?_
    simp (config := {maxSteps := 1000000}) (disch := first | omega | assumption | (simp only [qm_wid_n, qm_wid_I, qm_wid_L, qm_wid_P]; omega) | (simp only [qm_wid_n, qm_wid_I, qm_wid_L, qm_wid_P]; done) | fail) only [b_M_settle_1, qy0, qy1, qy2, qy3, qe, qcn, qin, ↓reduceIte, Nat.reduceEqDiff, Nat.reduceLeDiff, Bool.false_eq_true, Nat.reduceAdd, Nat.reduceSub, Nat.reduceMul, Nat.reduceLT, or_self, or_false, false_or, or_true, true_or, and_self, and_true, true_and, and_false, false_and, not_true_eq_false, not_false_eq_true, Nat.add_sub_cancel, h18, hz, ra, zI_uI, em1, g18, g19, gz]
  · subst g
    refine (b_M_settle_0 ..).trans ?_
    simp (config := {maxSteps := 1000000}) (disch := first | omega | assumption | (simp only [qm_wid_n, qm_wid_I, qm_wid_L, qm_wid_P]; omega) | (simp only [qm_wid_n, qm_wid_I, qm_wid_L, qm_wid_P]; done) | fail) only [b_M_settle_1, qy0, qy1, qy2, qy3, qe, qcn, qin, ↓reduceIte, Nat.reduceEqDiff, Nat.reduceLeDiff, Bool.false_eq_true, Nat.reduceAdd, Nat.reduceSub, Nat.reduceMul, Nat.reduceLT, or_self, or_false, false_or, or_true, true_or, and_self, and_true, true_and, and_false, false_and, not_true_eq_false, not_false_eq_true, Nat.add_sub_cancel, h18, hz, ra, zI_uI, em1, g18, g19, gz]
theorem se_n (D : Nat) {x : qm_Hp} {r c n : Nat} (hr : r ≤ 7) (hc : c < 50) (hn : n < 160) (hk : ¬ r ≤ rk c) (h18 : zI x 9 0 18 = nI (n + 1)) (hz : zI x 64 0 n = nI c) : qm_evB (D + 1) jM_settle 0 [qP 9 0, qI (nI r)] [] x = some (none, x) := by
  have k7 := rk_7 c
  have ra := r_rank D x hc
  refine (b_M_settle_0 ..).trans ?_
  simp (config := {maxSteps := 1000000}) (disch := first | omega | assumption | (simp only [qm_wid_n, qm_wid_I, qm_wid_L, qm_wid_P]; omega) | (simp only [qm_wid_n, qm_wid_I, qm_wid_L, qm_wid_P]; done) | fail) only [b_M_settle_2, qy0, qy1, qy2, qy3, qe, qcn, qin, ↓reduceIte, Nat.reduceEqDiff, Nat.reduceLeDiff, Bool.false_eq_true, Nat.reduceAdd, Nat.reduceSub, Nat.reduceMul, Nat.reduceLT, or_self, or_false, false_or, or_true, true_or, and_self, and_true, true_and, and_false, false_and, not_true_eq_false, not_false_eq_true, Nat.add_sub_cancel, h18, hz, ra]
theorem se_0 (D : Nat) {x : qm_Hp} {r : Nat} (h18 : zI x 9 0 18 = nI 0) : qm_evB (D + 1) jM_settle 0 [qP 9 0, qI (nI r)] [] x = some (none, x) := by
  refine (b_M_settle_0 ..).trans ?_
  simp (config := {maxSteps := 1000000}) (disch := first | omega | assumption | (simp only [qm_wid_n, qm_wid_I, qm_wid_L, qm_wid_P]; omega) | (simp only [qm_wid_n, qm_wid_I, qm_wid_L, qm_wid_P]; done) | fail) only [b_M_settle_2, qy0, qy1, qy2, qy3, qe, qcn, qin, ↓reduceIte, Nat.reduceEqDiff, Nat.reduceLeDiff, Bool.false_eq_true, Nat.reduceAdd, Nat.reduceSub, Nat.reduceMul, Nat.reduceLT, or_self, or_false, false_or, or_true, true_or, and_self, and_true, true_and, and_false, false_and, not_true_eq_false, not_false_eq_true, h18]
/-- what a reading of a clause may change -/
def MFp (tx w0 k j : Nat) : Prop := (k = 9 ∧ ((8 ≤ j ∧ j ≤ 11) ∨ j = 15 ∨ (18 ≤ j ∧ j ≤ 20))) ∨ k = 64 ∨ (k = 62 ∧ 720 * tx + 110 + 2 * w0 ≤ j ∧ j < 720 * tx + 720)
def MF (tx w0 : Nat) (x x' : qm_Hp) : Prop := (∀ k i j, ¬ MFp tx w0 k j → zI x' k i j = zI x k i j) ∧ (∀ k i j, ¬ (k = 9 ∧ j = 12) → zL x' k i j = zL x k i j) ∧ (∀ k i j, zP x' k i j = zP x k i j)
theorem MF_refl (tx w0 : Nat) (x : qm_Hp) : MF tx w0 x x := ⟨fun _ _ _ _ => rfl, fun _ _ _ _ => rfl, fun _ _ _ => rfl⟩
theorem MF_tr {tx w0 : Nat} {x1 x2 x3 : qm_Hp} (h1 : MF tx w0 x1 x2) (h2 : MF tx w0 x2 x3) : MF tx w0 x1 x3 := ⟨fun k i j h => (h2.1 k i j h).trans (h1.1 k i j h), fun k i j h => (h2.2.1 k i j h).trans (h1.2.1 k i j h), fun k i j => (h2.2.2 k i j).trans (h1.2.2 k i j)⟩
theorem MF_u {tx w0 : Nat} {x : qm_Hp} (k i j : Nat) (v : Int32) (h : MFp tx w0 k j) : MF tx w0 x (uI x k i j v) := ⟨fun k' i' j' q => by rw [zI_uI, if_neg (fun g => q (by rw [g.1, g.2.2]; exact h))], fun _ _ _ _ => rfl, fun _ _ _ => rfl⟩
theorem MF_NF {tx w0 : Nat} {x x' : qm_Hp} (h : NF Sx x x') : MF tx w0 x x' := ⟨fun k i j q => h.1 k i j (fun g => q (Or.inl ⟨g.1, Or.inl g.2⟩)), h.2.1, h.2.2⟩
theorem MF_em {tx w0 u : Nat} {x : qm_Hp} (hu : w0 ≤ u ∧ u < 300) (o v : Nat) : MF tx w0 x (hmm x tx u o v) := by
  unfold hmm
  exact MF_tr (MF_tr (MF_u 62 0 _ _ (Or.inr (Or.inr ⟨rfl, by omega, by omega⟩))) (MF_u 62 0 _ _ (Or.inr (Or.inr ⟨rfl, by omega, by omega⟩)))) (MF_u 9 0 15 _ (Or.inl ⟨rfl, Or.inr (Or.inl rfl)⟩))
/-- what settle may change -/
def SFp (tx w0 k j : Nat) : Prop := (k = 9 ∧ (j = 15 ∨ j = 18 ∨ j = 19)) ∨ (k = 62 ∧ 720 * tx + 110 + 2 * w0 ≤ j ∧ j < 720 * tx + 720)
def SF (tx w0 : Nat) (x x' : qm_Hp) : Prop := (∀ k i j, ¬ SFp tx w0 k j → zI x' k i j = zI x k i j) ∧ (∀ k i j, zL x' k i j = zL x k i j) ∧ (∀ k i j, zP x' k i j = zP x k i j)
theorem SF_refl (tx w0 : Nat) (x : qm_Hp) : SF tx w0 x x := ⟨fun _ _ _ _ => rfl, fun _ _ _ => rfl, fun _ _ _ => rfl⟩
theorem SF_tr {tx w0 : Nat} {x1 x2 x3 : qm_Hp} (h1 : SF tx w0 x1 x2) (h2 : SF tx w0 x2 x3) : SF tx w0 x1 x3 := ⟨fun k i j h => (h2.1 k i j h).trans (h1.1 k i j h), fun k i j => (h2.2.1 k i j).trans (h1.2.1 k i j), fun k i j => (h2.2.2 k i j).trans (h1.2.2 k i j)⟩
theorem SF_u {tx w0 : Nat} {x : qm_Hp} (k i j : Nat) (v : Int32) (h : SFp tx w0 k j) : SF tx w0 x (uI x k i j v) := ⟨fun k' i' j' q => by rw [zI_uI, if_neg (fun g => q (by rw [g.1, g.2.2]; exact h))], fun _ _ _ => rfl, fun _ _ _ => rfl⟩
theorem SF_em {tx w0 u : Nat} {x : qm_Hp} (hu : w0 ≤ u ∧ u < 300) (o v : Nat) : SF tx w0 x (hmm x tx u o v) := by
  unfold hmm
  exact SF_tr (SF_tr (SF_u 62 0 _ _ (Or.inr ⟨rfl, by omega, by omega⟩)) (SF_u 62 0 _ _ (Or.inr ⟨rfl, by omega, by omega⟩))) (SF_u 9 0 15 _ (Or.inl ⟨rfl, Or.inl rfl⟩))
theorem SF_MF {tx w0 : Nat} {x x' : qm_Hp} (h : SF tx w0 x x') : MF tx w0 x x' := ⟨fun k i j q => h.1 k i j (fun g => q (by unfold SFp at g; unfold MFp; omega)), fun k i j _ => h.2.1 k i j, h.2.2⟩
/-- pile and code -/
def PO (tx w0 : Nat) (x : qm_Hp) (pl : List Nat) (out : List (Nat × Nat)) : Prop := zI x 9 0 15 = nI (w0 + out.length) ∧ zI x 9 0 18 = nI pl.length ∧ PLs x pl ∧ zI x 9 0 19 = nI (oc pl) ∧ cdM (fun j => zI x 62 0 (720 * tx + 110 + j)) w0 out
theorem cdM_em {tx w0 o v : Nat} {x : qm_Hp} {out : List (Nat × Nat)} (h : cdM (fun j => zI x 62 0 (720 * tx + 110 + j)) w0 out) : cdM (fun j => zI (hmm x tx (w0 + out.length) o v) 62 0 (720 * tx + 110 + j)) w0 (out ++ [(o, v)]) := by
  refine cdM_app (cdM_cong (fun p h1 h2 => ?_) h) ⟨?_, ?_, trivial⟩
  · show zI (hmm x tx (w0 + out.length) o v) 62 0 (720 * tx + 110 + p) = zI x 62 0 (720 * tx + 110 + p)
    rw [hmm_z, if_neg (by omega), if_neg (by omega), if_neg (by omega)]
  · show zI (hmm x tx (w0 + out.length) o v) 62 0 (720 * tx + 110 + 2 * (w0 + out.length)) = nI o
    rw [hmm_z, if_neg (by omega), if_neg (by omega), if_pos ⟨rfl, rfl, rfl⟩]
  · show zI (hmm x tx (w0 + out.length) o v) 62 0 (720 * tx + 110 + (2 * (w0 + out.length) + 1)) = nI v
    rw [hmm_z, if_neg (by omega), if_pos ⟨rfl, rfl, by omega⟩]
theorem cdM_eq {tx w0 : Nat} {x x' : qm_Hp} {out : List (Nat × Nat)} (e : ∀ j, zI x' 62 0 j = zI x 62 0 j) (h : cdM (fun j => zI x 62 0 (720 * tx + 110 + j)) w0 out) : cdM (fun j => zI x' 62 0 (720 * tx + 110 + j)) w0 out := cdM_cong (fun p _ _ => e _) h
theorem PO_em {tx w0 o v : Nat} {x : qm_Hp} {pl : List Nat} {out : List (Nat × Nat)} (h : PO tx w0 x pl out) : PO tx w0 (hmm x tx (w0 + out.length) o v) pl (out ++ [(o, v)]) := by
  refine ⟨?_, ?_, PLs_eq (fun j _ => ?_) h.2.2.1, ?_, cdM_em h.2.2.2.2⟩
  · rw [hmm_z, if_pos ⟨rfl, rfl, rfl⟩, List.length_append]; rfl
  · rw [hmm_z, if_neg (by omega), if_neg (by omega), if_neg (by omega)]; exact h.2.1
  · rw [hmm_z, if_neg (by omega), if_neg (by omega), if_neg (by omega)]
  · rw [hmm_z, if_neg (by omega), if_neg (by omega), if_neg (by omega)]; exact h.2.2.2.1
theorem r_settL (D : Nat) {tx w0 r : Nat} (ht : tx < 4) (hr : r ≤ 7) : ∀ pl out x, PO tx w0 x pl out → zI x 9 0 13 = nI (720 * tx) → (∀ c, c ∈ pl → c < 50) → (∀ c, c ∈ pl → r ≤ rk c → c < 40) → pl.length ≤ 160 → w0 + out.length + pl.length ≤ 300 → ∃ x', qm_evB (D + 1) jM_settle 0 [qP 9 0, qI (nI r)] [] x = some (none, x') ∧ SF tx w0 x x' ∧ PO tx w0 x' (sett r pl out).1 (sett r pl out).2 := by
  intro pl
  induction pl with
  | nil =>
    intro out x h h13 _ _ _ _
    exact ⟨x, se_0 D h.2.1, SF_refl _ _ _, h⟩
  | cons c p ih =>
    intro out x h h13 h5 h40 hl hw
    obtain ⟨h15, h18, hp, h19, hc⟩ := id h
    rw [List.length_cons] at hl hw h18
    have c5 := h5 c (List.mem_cons_self ..)
    by_cases q : r ≤ rk c
    · have c40 := h40 c (List.mem_cons_self ..) q
      have es : sett r (c :: p) out = sett r p (out ++ [(c, 0)]) := if_pos q
      rw [es]
      have hx1 : SF tx w0 x (uI x 9 0 18 (nI p.length)) := SF_u 9 0 18 _ (Or.inl ⟨rfl, Or.inr (Or.inl rfl)⟩)
      have hx2 := SF_tr hx1 (SF_em (tx := tx) (w0 := w0) (u := w0 + out.length) (x := uI x 9 0 18 (nI p.length)) ⟨by omega, by omega⟩ c 0)
      have cd2 : cdM (fun j => zI (hmm (uI x 9 0 18 (nI p.length)) tx (w0 + out.length) c 0) 62 0 (720 * tx + 110 + j)) w0 (out ++ [(c, 0)]) := cdM_em (cdM_eq (fun j => by rw [zI_uI, if_neg (by omega)]) hc)
      have pl2 : PLs (hmm (uI x 9 0 18 (nI p.length)) tx (w0 + out.length) c 0) p := PLs_eq (fun j _ => by rw [hmm_z, if_neg (by omega), if_neg (by omega), if_neg (by omega), zI_uI, if_neg (by omega)]) hp.2
      have e15 : zI (hmm (uI x 9 0 18 (nI p.length)) tx (w0 + out.length) c 0) 9 0 15 = nI (w0 + (out ++ [(c, 0)]).length) := by rw [hmm_z, if_pos ⟨rfl, rfl, rfl⟩, List.length_append]; rfl
      have e18 : zI (hmm (uI x 9 0 18 (nI p.length)) tx (w0 + out.length) c 0) 9 0 18 = nI p.length := by rw [hmm_z, if_neg (by omega), if_neg (by omega), if_neg (by omega), zI_uI, if_pos ⟨rfl, rfl, rfl⟩]
      have e19 : zI (hmm (uI x 9 0 18 (nI p.length)) tx (w0 + out.length) c 0) 9 0 19 = nI (oc (c :: p)) := by rw [hmm_z, if_neg (by omega), if_neg (by omega), if_neg (by omega), zI_uI, if_neg (by omega)]; exact h19
      have hw2 : w0 + (out ++ [(c, 0)]).length + p.length ≤ 300 := by rw [List.length_append]; show w0 + (out.length + 1) + p.length ≤ 300; omega
      by_cases o : c = 2 ∨ c = 20
      · have eo : oc (c :: p) = oc p + 1 := oc_o (by omega) p
        have F3 := SF_tr hx2 (SF_u (tx := tx) (w0 := w0) 9 0 19 (nI (oc p)) (Or.inl ⟨rfl, Or.inr (Or.inr rfl)⟩))
        obtain ⟨x', e, F, P⟩ := ih (out ++ [(c, 0)]) (uI (hmm (uI x 9 0 18 (nI p.length)) tx (w0 + out.length) c 0) 9 0 19 (nI (oc p))) ⟨by rw [zI_uI, if_neg (by omega)]; exact e15, by rw [zI_uI, if_neg (by omega)]; exact e18, PLs_eq (fun j _ => by rw [zI_uI, if_neg (by omega)]) pl2, by rw [zI_uI, if_pos ⟨rfl, rfl, rfl⟩], cdM_eq (fun j => by rw [zI_uI, if_neg (by omega)]) cd2⟩ ((F3.1 9 0 13 (by unfold SFp; omega)).trans h13) (fun c' h' => h5 c' (List.mem_cons_of_mem _ h')) (fun c' h' => h40 c' (List.mem_cons_of_mem _ h')) (by omega) hw2
        exact ⟨x', (se_2 D ht (by omega) hr (by omega) q h13 h15 h18 (by rw [h19, eo]) hp.1 o).trans e, SF_tr F3 F, P⟩
      · have eo : oc (c :: p) = oc p := oc_n (by omega) p
        rw [eo] at e19
        obtain ⟨x', e, F, P⟩ := ih (out ++ [(c, 0)]) _ ⟨e15, e18, pl2, e19, cd2⟩ ((hx2.1 9 0 13 (by unfold SFp; omega)).trans h13) (fun c' h' => h5 c' (List.mem_cons_of_mem _ h')) (fun c' h' => h40 c' (List.mem_cons_of_mem _ h')) (by omega) hw2
        exact ⟨x', (se_1 D ht (by omega) hr c5 (by omega) q h13 h15 h18 hp.1 o).trans e, SF_tr hx2 F, P⟩
    · have es : sett r (c :: p) out = (c :: p, out) := if_neg q
      rw [es]
      exact ⟨x, se_n D hr c5 (by omega) q h18 hp.1, SF_refl _ _ _, h⟩
theorem r_settle (D : Nat) {tx w0 r : Nat} (ht : tx < 4) (hr : 1 ≤ r ∧ r ≤ 7) {pl : List Nat} {out : List (Nat × Nat)} {x : qm_Hp} (h : PO tx w0 x pl out) (h13 : zI x 9 0 13 = nI (720 * tx)) (h5 : ∀ c, c ∈ pl → c < 50) (hl : pl.length ≤ 160) (hw : w0 + out.length + pl.length ≤ 300) : ∃ x', qm_evM (D + 1) jM_settle [qP 9 0, qI (nI r)] x = some (none, x') ∧ SF tx w0 x x' ∧ PO tx w0 x' (sett r pl out).1 (sett r pl out).2 := by
  obtain ⟨x', e, F, P⟩ := r_settL D ht hr.2 pl out x h h13 h5 (fun c _ g => by
    by_cases q : 40 ≤ c
    · rw [rk_m q] at g; omega
    · omega) hl hw
  refine ⟨x', ?_, F, P⟩
  simp (config := {maxSteps := 1000000}) (disch := first | omega | assumption | (simp only [qm_wid_n, qm_wid_I, qm_wid_L, qm_wid_P]; omega) | (simp only [qm_wid_n, qm_wid_I, qm_wid_L, qm_wid_P]; done) | fail) only [e_M_settle, qy0, qy1, qy2, qy3, qe, qcn, qin, ↓reduceIte, Nat.reduceEqDiff, Nat.reduceLeDiff, Bool.false_eq_true, Nat.reduceAdd, Nat.reduceSub, Nat.reduceMul, Nat.reduceLT, or_self, or_false, false_or, or_true, true_or, and_self, and_true, true_and, and_false, false_and, not_true_eq_false, not_false_eq_true, e]
