/-- one pile becomes another -/
def hp_bec (s : qm_Hp) (p q : Nat) : qm_Hp :=
  let s1 := uC s 11 q 0 11 p 0 48
  let s2 := uC s1 12 q 0 12 p 0 48
  let s3 := uC s2 13 q 0 13 p 0 48
  let s4 := uC s3 14 q 0 14 p 0 48
  let s5 := uC s4 15 q 0 15 p 0 48
  let s6 := uC s5 16 q 0 16 p 0 48
  let s7 := uC s6 17 q 0 17 p 0 6
  let s8 := uI s7 3 p 8 (zI s7 3 q 8)
  let s9 := uI s8 3 p 9 (zI s8 3 q 9)
  let s10 := uI s9 3 p 10 (zI s9 3 q 10)
  let s11 := uI s10 3 p 11 (zI s10 3 q 11)
  uI s11 3 p 12 (zI s11 3 q 12)
theorem s_become (d : Nat) (s : qm_Hp) (p q : Nat) : qm_evM d jP_become [qP 3 p, qP 3 q] s = some (none, hp_bec s p q) := by
  simp only [e_P_become, b_P_become_0, qx, qe, qc, qil, reduceIte, Nat.reduceEqDiff, Nat.reduceLeDiff, Bool.false_eq_true, Nat.reduceAdd, Nat.reduceLT, List.length_cons, List.length_nil, or_self, or_false, false_or, or_true, true_or, and_self, and_true, true_and, and_false, false_and, not_true_eq_false, not_false_eq_true, Nat.zero_le, qz1, qz2, qz3, qz4, qz5, qz6, qz7, qz8, qz9, qz0, qz10, qz01, qtn, qn0, Nat.lt_irrefl, Nat.not_lt_zero]
  rfl
def hp_clr (s : qm_Hp) (p k : Nat) : qm_Hp := Nat.rec s (fun j y => uI y 17 p j 0) k
theorem s_clear (d : Nat) (s : qm_Hp) (p : Nat) : qm_evM d jP_clear [qP 3 p] s = some (none, uI (hp_clr s p 6) 3 p 9 (-1)) := by
  simp only [e_P_clear, b_P_clear_0, qx, qe, qc, qil, reduceIte, Nat.reduceEqDiff, Nat.reduceLeDiff, Bool.false_eq_true, Nat.reduceAdd, Nat.reduceLT, List.length_cons, List.length_nil, or_self, or_false, false_or, or_true, true_or, and_self, and_true, true_and, and_false, false_and, not_true_eq_false, not_false_eq_true, Nat.zero_le, qz1, qz2, qz3, qz4, qz5, qz6, qz7, qz8, qz9, qz0, qz10, qz01]
  refine q_up (w := 6) (fun k => qm_evB d jP_clear 1 [qP 3 p, qI (nI k)] [] (hp_clr s p k)) ?_ ?_ 0 (Nat.zero_le _)
  · have h : (6 : Int32) ≤ nI 6 := Int32.le_refl _
    simp only [b_P_clear_1, b_P_clear_2, qx, qe, qc, qil, reduceIte, Nat.reduceEqDiff, Nat.reduceLeDiff, Bool.false_eq_true, Nat.reduceAdd, Nat.reduceLT, List.length_cons, List.length_nil, or_self, or_false, false_or, or_true, true_or, and_self, and_true, true_and, and_false, false_and, not_true_eq_false, not_false_eq_true, Nat.zero_le, qz1, qz2, qz3, qz4, qz5, qz6, qz7, qz8, qz9, qz0, qz10, qz01, h]
  · intro k hk
    have h1 : ¬ (6 : Int32) ≤ nI k := nI_ge (b := 6) hk (by decide)
    have h2 : vp_in (nI k) 6 := vp_in_nI hk (by decide)
    have h3 : (nI k).toNatClampNeg = k := nI_clamp (by omega)
    simp only [b_P_clear_1, qx, qe, qc, qil, reduceIte, Nat.reduceEqDiff, Nat.reduceLeDiff, Bool.false_eq_true, Nat.reduceAdd, Nat.reduceLT, List.length_cons, List.length_nil, or_self, or_false, false_or, or_true, true_or, and_self, and_true, true_and, and_false, false_and, not_true_eq_false, not_false_eq_true, Nat.zero_le, qz1, qz2, qz3, qz4, qz5, qz6, qz7, qz8, qz9, qz0, qz10, qz01, h1, h2, h3, nI_1]
    rfl
