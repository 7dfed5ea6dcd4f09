/-! one step of the reference's work -/
theorem k_num (d : Nat) (s : qm_Hp) (cl X CO n t i to v : Nat) (a7 a8 : qm_AV) (hX : X + 2 < 2880) (hCO : CO + 2 * i + 1 < 2880) (hto : zI s 62 0 (X + 2) = nI to) (hi : i < to) (ht : to ≤ 300) (ho : zI s 62 0 (CO + 2 * i) = nI 0) (hv : zI s 62 0 (CO + 2 * i + 1) = nI v) (hn : n < 330) : qm_evB (d + 2) jM_work 1 [qP 9 0, qI (nI cl), qI (nI X), qI (nI CO), qI (nI n), qI (nI t), qI (nI i), a7, a8] [] s = qm_evB (d + 2) jM_work 1 [qP 9 0, qI (nI cl), qI (nI X), qI (nI CO), qI (nI (n + 1)), qI (nI t), qI (nI (i + 1)), qI (nI 0), qI (nI v)] [] (uL s 66 0 n (nI v).toInt64) := by
  have e1 : nI X + 2 = nI (X + 2) := nI_add X 2
  have e2 : nI CO + 2 * nI i = nI (CO + 2 * i) := by rw [show (2 : Int32) = nI 2 from rfl, pk_mul, nI_add]
  have h1 : ¬ nI to ≤ nI i := nI_ge hi (by omega)
  have h2 : vp_in (nI (X + 2)) 2880 := vp_in_nI hX (by decide)
  have h3 : (nI (X + 2)).toNatClampNeg = X + 2 := nI_clamp (by omega)
  have h4 : vp_in (nI (CO + 2 * i)) 2880 := vp_in_nI (by omega) (by decide)
  have h5 : (nI (CO + 2 * i)).toNatClampNeg = CO + 2 * i := nI_clamp (by omega)
  have h6 : vp_in (nI (CO + 2 * i + 1)) 2880 := vp_in_nI (by omega) (by decide)
  have h7 : (nI (CO + 2 * i + 1)).toNatClampNeg = CO + 2 * i + 1 := nI_clamp (by omega)
  have h8 : ¬ (1 : Int32) < nI 0 := nI_nlt (b := 0) (a := 1) (by decide) (by decide) |> fun _ => by decide
  have h9 : vp_in (nI n) 330 := vp_in_nI hn (by decide)
  have h10 : (nI n).toNatClampNeg = n := nI_clamp (by omega)
  have h11 : nI 0 = 0 := rfl
  simp only [b_M_work_1, b_M_work_2, b_M_work_3, b_M_work_16, qx, qe, qc, qil, reduceIte, Nat.reduceEqDiff, Nat.reduceLeDiff, Bool.false_eq_true, Nat.reduceAdd, Nat.reduceLT, List.length_cons, List.length_nil, or_self, or_false, false_or, or_true, true_or, and_self, and_true, true_and, and_false, false_and, not_true_eq_false, not_false_eq_true, Nat.zero_le, qz1, qz2, qz3, qz4, qz5, qz6, qz7, qz8, qz9, qz0, qz10, qz01, e1, e2, h1, h2, h3, h4, h5, h6, h7, h8, h9, h10, h11, hto, ho, hv, nI_1]
theorem k_name (d : Nat) (s : qm_Hp) (cl X CO n t i to v : Nat) (a7 a8 : qm_AV) (hX : X + 2 < 2880) (hCO : CO + 2 * i + 1 < 2880) (hto : zI s 62 0 (X + 2) = nI to) (hi : i < to) (ht : to ≤ 300) (ho : zI s 62 0 (CO + 2 * i) = nI 1) (hv : zI s 62 0 (CO + 2 * i + 1) = nI v) (hv17 : v < 17) (hn : n < 330) : qm_evB (d + 2) jM_work 1 [qP 9 0, qI (nI cl), qI (nI X), qI (nI CO), qI (nI n), qI (nI t), qI (nI i), a7, a8] [] s = qm_evB (d + 2) jM_work 1 [qP 9 0, qI (nI cl), qI (nI X), qI (nI CO), qI (nI (n + 1)), qI (nI t), qI (nI (i + 1)), qI (nI 1), qI (nI v)] [] (uL s 66 0 n (zI s 65 0 v).toInt64) := by
  have e1 : nI X + 2 = nI (X + 2) := nI_add X 2
  have e2 : nI CO + 2 * nI i = nI (CO + 2 * i) := by rw [show (2 : Int32) = nI 2 from rfl, pk_mul, nI_add]
  have h1 : ¬ nI to ≤ nI i := nI_ge hi (by omega)
  have h2 : vp_in (nI (X + 2)) 2880 := vp_in_nI hX (by decide)
  have h3 : (nI (X + 2)).toNatClampNeg = X + 2 := nI_clamp (by omega)
  have h4 : vp_in (nI (CO + 2 * i)) 2880 := vp_in_nI (by omega) (by decide)
  have h5 : (nI (CO + 2 * i)).toNatClampNeg = CO + 2 * i := nI_clamp (by omega)
  have h6 : vp_in (nI (CO + 2 * i + 1)) 2880 := vp_in_nI (by omega) (by decide)
  have h7 : (nI (CO + 2 * i + 1)).toNatClampNeg = CO + 2 * i + 1 := nI_clamp (by omega)
  have h8 : ¬ (1 : Int32) < 1 := by decide
  have h9 : vp_in (nI n) 330 := vp_in_nI hn (by decide)
  have h10 : (nI n).toNatClampNeg = n := nI_clamp (by omega)
  have h11 : nI 1 = 1 := rfl
  have h12 : vp_in (nI v) 17 := vp_in_nI hv17 (by decide)
  have h13 : (nI v).toNatClampNeg = v := nI_clamp (by omega)
  simp only [b_M_work_1, b_M_work_2, b_M_work_3, b_M_work_16, qx, qe, qc, qil, reduceIte, Nat.reduceEqDiff, Nat.reduceLeDiff, Bool.false_eq_true, Nat.reduceAdd, Nat.reduceLT, List.length_cons, List.length_nil, or_self, or_false, false_or, or_true, true_or, and_self, and_true, true_and, and_false, false_and, not_true_eq_false, not_false_eq_true, Nat.zero_le, qz1, qz2, qz3, qz4, qz5, qz6, qz7, qz8, qz9, qz0, qz10, qz01, e1, e2, h1, h2, h3, h4, h5, h6, h7, h8, h9, h10, h11, h12, h13, hto, ho, hv, nI_1]
theorem k_neg (d : Nat) (s : qm_Hp) (cl X CO n t i to v : Nat) (a7 a8 : qm_AV) (hX : X + 2 < 2880) (hCO : CO + 2 * i + 1 < 2880) (hto : zI s 62 0 (X + 2) = nI to) (hi : i < to) (ht : to ≤ 300) (ho : zI s 62 0 (CO + 2 * i) = nI 2) (hv : zI s 62 0 (CO + 2 * i + 1) = nI v) (hn : n < 330) : qm_evB (d + 2) jM_work 1 [qP 9 0, qI (nI cl), qI (nI X), qI (nI CO), qI (nI (n + 1)), qI (nI t), qI (nI i), a7, a8] [] s = qm_evB (d + 2) jM_work 1 [qP 9 0, qI (nI cl), qI (nI X), qI (nI CO), qI (nI (n + 1)), qI (nI t), qI (nI (i + 1)), qI (nI 2), qI (nI v)] [] (uL s 66 0 n (-(zL s 66 0 n))) := by
  have e1 : nI X + 2 = nI (X + 2) := nI_add X 2
  have e2 : nI CO + 2 * nI i = nI (CO + 2 * i) := by rw [show (2 : Int32) = nI 2 from rfl, pk_mul, nI_add]
  have h1 : ¬ nI to ≤ nI i := nI_ge hi (by omega)
  have h2 : vp_in (nI (X + 2)) 2880 := vp_in_nI hX (by decide)
  have h3 : (nI (X + 2)).toNatClampNeg = X + 2 := nI_clamp (by omega)
  have h4 : vp_in (nI (CO + 2 * i)) 2880 := vp_in_nI (by omega) (by decide)
  have h5 : (nI (CO + 2 * i)).toNatClampNeg = CO + 2 * i := nI_clamp (by omega)
  have h6 : vp_in (nI (CO + 2 * i + 1)) 2880 := vp_in_nI (by omega) (by decide)
  have h7 : (nI (CO + 2 * i + 1)).toNatClampNeg = CO + 2 * i + 1 := nI_clamp (by omega)
  have h8 : (1 : Int32) < 2 := by decide
  have h9 : vp_in (nI n) 330 := vp_in_nI hn (by decide)
  have h10 : (nI n).toNatClampNeg = n := nI_clamp (by omega)
  have h11 : nI 2 = 2 := rfl
  have h12 : nI (n + 1) - 1 = nI n := nI_pred n
  simp only [b_M_work_1, b_M_work_4, b_M_work_16, qx, qe, qc, qil, reduceIte, Nat.reduceEqDiff, Nat.reduceLeDiff, Bool.false_eq_true, Nat.reduceAdd, Nat.reduceLT, List.length_cons, List.length_nil, or_self, or_false, false_or, or_true, true_or, and_self, and_true, true_and, and_false, false_and, not_true_eq_false, not_false_eq_true, Nat.zero_le, qz1, qz2, qz3, qz4, qz5, qz6, qz7, qz8, qz9, qz0, qz10, qz01, e1, e2, h1, h2, h3, h4, h5, h6, h7, h8, h9, h10, h11, h12, hto, ho, hv, nI_1]
theorem k_two (d : Nat) (s : qm_Hp) (cl X CO n t i to o v : Nat) (x y : Int32) (a7 a8 : qm_AV) (hX : X + 2 < 2880) (hCO : CO + 2 * i + 1 < 2880) (hto : zI s 62 0 (X + 2) = nI to) (hi : i < to) (ht : to ≤ 300) (ho : zI s 62 0 (CO + 2 * i) = nI o) (hv : zI s 62 0 (CO + 2 * i + 1) = nI v) (hn : n + 1 < 330) (h38 : 3 ≤ o ∧ o ≤ 8) (hx : zL s 66 0 n = x.toInt64) (hy : zL s 66 0 (n + 1) = y.toInt64) (bx : bd x) (bY : bd y) : qm_evB (d + 2) jM_work 1 [qP 9 0, qI (nI cl), qI (nI X), qI (nI CO), qI (nI (n + 2)), qI (nI t), qI (nI i), a7, a8] [] s = qm_evB (d + 2) jM_work 1 [qP 9 0, qI (nI cl), qI (nI X), qI (nI CO), qI (nI (n + 1)), qI (nI t), qI (nI (i + 1)), qI (nI o), qI (nI v)] [] (uL s 66 0 n (j2 o x y).toInt64) := by
  have e1 : nI X + 2 = nI (X + 2) := nI_add X 2
  have e2 : nI CO + 2 * nI i = nI (CO + 2 * i) := by rw [show (2 : Int32) = nI 2 from rfl, pk_mul, nI_add]
  have h1 : ¬ nI to ≤ nI i := nI_ge hi (by omega)
  have h2 : vp_in (nI (X + 2)) 2880 := vp_in_nI hX (by decide)
  have h3 : (nI (X + 2)).toNatClampNeg = X + 2 := nI_clamp (by omega)
  have h4 : vp_in (nI (CO + 2 * i)) 2880 := vp_in_nI (by omega) (by decide)
  have h5 : (nI (CO + 2 * i)).toNatClampNeg = CO + 2 * i := nI_clamp (by omega)
  have h6 : vp_in (nI (CO + 2 * i + 1)) 2880 := vp_in_nI (by omega) (by decide)
  have h7 : (nI (CO + 2 * i + 1)).toNatClampNeg = CO + 2 * i + 1 := nI_clamp (by omega)
  have h8 : (1 : Int32) < nI o := nI_lt (a := 1) (by omega) (by omega)
  have h8b : ¬ nI o = 2 := fun z => by have := (nI_eq (b := 2) (by omega) (by decide)).mp z; omega
  have h8c : ¬ (10 : Int32) ≤ nI o := nI_ge (b := 10) (by omega) (by decide)
  have h9 : vp_in (nI n) 330 := vp_in_nI (by omega) (by decide)
  have h10 : (nI n).toNatClampNeg = n := nI_clamp (by omega)
  have h12 : nI (n + 1) - 1 = nI n := nI_pred n
  have h13 : nI (n + 2) + (-1) = nI (n + 1) := pk_m1 (n + 1)
  have h14 : vp_in (nI (n + 1)) 330 := vp_in_nI (by omega) (by decide)
  have h15 : (nI (n + 1)).toNatClampNeg = n + 1 := nI_clamp (by omega)
  simp only [b_M_work_1, b_M_work_4, b_M_work_5, b_M_work_16, qx, qe, qc, qil, reduceIte, Nat.reduceEqDiff, Nat.reduceLeDiff, Bool.false_eq_true, Nat.reduceAdd, Nat.reduceLT, List.length_cons, List.length_nil, or_self, or_false, false_or, or_true, true_or, and_self, and_true, true_and, and_false, false_and, not_true_eq_false, not_false_eq_true, Nat.zero_le, qz1, qz2, qz3, qz4, qz5, qz6, qz7, qz8, qz9, qz0, qz10, qz01, e1, e2, h1, h2, h3, h4, h5, h6, h7, h8, h8b, h8c, h9, h10, h12, h13, h14, h15, hto, ho, hv, hx, hy, m_two d s o h38 x y bx bY, nI_1]
theorem k_ask (d : Nat) (s : qm_Hp) (cl X CO n t i to o v : Nat) (x y : Int32) (a7 a8 : qm_AV) (hX : X + 2 < 2880) (hCO : CO + 2 * i + 1 < 2880) (hto : zI s 62 0 (X + 2) = nI to) (hi : i < to) (ht : to ≤ 300) (ho : zI s 62 0 (CO + 2 * i) = nI o) (hv : zI s 62 0 (CO + 2 * i + 1) = nI v) (hn : n + 1 < 330) (htt : t < 330) (h38 : 10 ≤ o ∧ o ≤ 15) (hx : zL s 66 0 n = x.toInt64) (hy : zL s 66 0 (n + 1) = y.toInt64) : qm_evB (d + 2) jM_work 1 [qP 9 0, qI (nI cl), qI (nI X), qI (nI CO), qI (nI (n + 2)), qI (nI t), qI (nI i), a7, a8] [] s = qm_evB (d + 2) jM_work 1 [qP 9 0, qI (nI cl), qI (nI X), qI (nI CO), qI (nI n), qI (nI (t + 1)), qI (nI (i + 1)), qI (nI o), qI (nI v)] [] (uI s 67 0 t (j2 o x y)) := by
  have e1 : nI X + 2 = nI (X + 2) := nI_add X 2
  have e2 : nI CO + 2 * nI i = nI (CO + 2 * i) := by rw [show (2 : Int32) = nI 2 from rfl, pk_mul, nI_add]
  have h1 : ¬ nI to ≤ nI i := nI_ge hi (by omega)
  have h2 : vp_in (nI (X + 2)) 2880 := vp_in_nI hX (by decide)
  have h3 : (nI (X + 2)).toNatClampNeg = X + 2 := nI_clamp (by omega)
  have h4 : vp_in (nI (CO + 2 * i)) 2880 := vp_in_nI (by omega) (by decide)
  have h5 : (nI (CO + 2 * i)).toNatClampNeg = CO + 2 * i := nI_clamp (by omega)
  have h6 : vp_in (nI (CO + 2 * i + 1)) 2880 := vp_in_nI (by omega) (by decide)
  have h7 : (nI (CO + 2 * i + 1)).toNatClampNeg = CO + 2 * i + 1 := nI_clamp (by omega)
  have h8 : (1 : Int32) < nI o := nI_lt (a := 1) (by omega) (by omega)
  have h8b : ¬ nI o = 2 := fun z => by have := (nI_eq (b := 2) (by omega) (by decide)).mp z; omega
  have h8c : (10 : Int32) ≤ nI o := nI_le (a := 10) (by omega) (by omega)
  have h8d : ¬ (20 : Int32) ≤ nI o := nI_ge (b := 20) (by omega) (by decide)
  have h9 : vp_in (nI n) 330 := vp_in_nI (by omega) (by decide)
  have h10 : (nI n).toNatClampNeg = n := nI_clamp (by omega)
  have h13 : nI (n + 2) + (-2) = nI n := by
    have := pk_sub (a := n + 2) (b := 2) (by omega)
    rw [Nat.add_sub_cancel] at this
    rw [← this, Int32.sub_eq_add_neg]
    rfl
  have h14 : vp_in (nI (n + 1)) 330 := vp_in_nI (by omega) (by decide)
  have h15 : (nI (n + 1)).toNatClampNeg = n + 1 := nI_clamp (by omega)
  have h16 : vp_in (nI t) 330 := vp_in_nI (by omega) (by decide)
  have h17 : (nI t).toNatClampNeg = t := nI_clamp (by omega)
  have h18 := j2_01 o h38 x y
  simp only [b_M_work_1, b_M_work_4, b_M_work_5, b_M_work_6, b_M_work_16, qx, qe, qc, qil, reduceIte, Nat.reduceEqDiff, Nat.reduceLeDiff, Bool.false_eq_true, Nat.reduceAdd, Nat.reduceLT, List.length_cons, List.length_nil, or_self, or_false, false_or, or_true, true_or, and_self, and_true, true_and, and_false, false_and, not_true_eq_false, not_false_eq_true, Nat.zero_le, qz1, qz2, qz3, qz4, qz5, qz6, qz7, qz8, qz9, qz0, qz10, qz01, e1, e2, h1, h2, h3, h4, h5, h6, h7, h8, h8b, h8c, h8d, h9, h10, h13, h14, h15, h16, h17, h18, hto, ho, hv, hx, hy, m_asked _ s o h38 x y, nI_1]
theorem k_not (d : Nat) (s : qm_Hp) (cl X CO n t i to v : Nat) (x : Int32) (a7 a8 : qm_AV) (hX : X + 2 < 2880) (hCO : CO + 2 * i + 1 < 2880) (hto : zI s 62 0 (X + 2) = nI to) (hi : i < to) (ht : to ≤ 300) (ho : zI s 62 0 (CO + 2 * i) = nI 20) (hv : zI s 62 0 (CO + 2 * i + 1) = nI v) (htt : t < 330) (hx : zI s 67 0 t = x) (h01 : x = 0 ∨ x = 1) : qm_evB (d + 2) jM_work 1 [qP 9 0, qI (nI cl), qI (nI X), qI (nI CO), qI (nI n), qI (nI (t + 1)), qI (nI i), a7, a8] [] s = qm_evB (d + 2) jM_work 1 [qP 9 0, qI (nI cl), qI (nI X), qI (nI CO), qI (nI n), qI (nI (t + 1)), qI (nI (i + 1)), qI (nI 20), qI (nI v)] [] (uI s 67 0 t (1 - x)) := by
  have e1 : nI X + 2 = nI (X + 2) := nI_add X 2
  have e2 : nI CO + 2 * nI i = nI (CO + 2 * i) := by rw [show (2 : Int32) = nI 2 from rfl, pk_mul, nI_add]
  have h1 : ¬ nI to ≤ nI i := nI_ge hi (by omega)
  have h2 : vp_in (nI (X + 2)) 2880 := vp_in_nI hX (by decide)
  have h3 : (nI (X + 2)).toNatClampNeg = X + 2 := nI_clamp (by omega)
  have h4 : vp_in (nI (CO + 2 * i)) 2880 := vp_in_nI (by omega) (by decide)
  have h5 : (nI (CO + 2 * i)).toNatClampNeg = CO + 2 * i := nI_clamp (by omega)
  have h6 : vp_in (nI (CO + 2 * i + 1)) 2880 := vp_in_nI (by omega) (by decide)
  have h7 : (nI (CO + 2 * i + 1)).toNatClampNeg = CO + 2 * i + 1 := nI_clamp (by omega)
  have h8 : (1 : Int32) < 20 := by decide
  have h8b : ¬ (20 : Int32) = 2 := by decide
  have h8c : (10 : Int32) ≤ 20 := by decide
  have h8d : (20 : Int32) ≤ 20 := by decide
  have h11 : nI 20 = 20 := rfl
  have h16 : vp_in (nI t) 330 := vp_in_nI (by omega) (by decide)
  have h17 : (nI t).toNatClampNeg = t := nI_clamp (by omega)
  have h12 : nI (t + 1) - 1 = nI t := nI_pred t
  rcases h01 with rfl | rfl
  · simp only [b_M_work_1, b_M_work_4, b_M_work_5, b_M_work_6, b_M_work_7, b_M_work_8, b_M_work_9, b_M_work_16, qx, qe, qc, qil, reduceIte, Nat.reduceEqDiff, Nat.reduceLeDiff, Bool.false_eq_true, Nat.reduceAdd, Nat.reduceLT, List.length_cons, List.length_nil, or_self, or_false, false_or, or_true, true_or, and_self, and_true, true_and, and_false, false_and, not_true_eq_false, not_false_eq_true, Nat.zero_le, qz1, qz2, qz3, qz4, qz5, qz6, qz7, qz8, qz9, qz0, qz10, qz01, e1, e2, h1, h2, h3, h4, h5, h6, h7, h8, h8b, h8c, h8d, h11, h12, h16, h17, hto, ho, hv, hx, nI_1]
    rfl
  · simp only [b_M_work_1, b_M_work_4, b_M_work_5, b_M_work_6, b_M_work_7, b_M_work_8, b_M_work_9, b_M_work_16, qx, qe, qc, qil, reduceIte, Nat.reduceEqDiff, Nat.reduceLeDiff, Bool.false_eq_true, Nat.reduceAdd, Nat.reduceLT, List.length_cons, List.length_nil, or_self, or_false, false_or, or_true, true_or, and_self, and_true, true_and, and_false, false_and, not_true_eq_false, not_false_eq_true, Nat.zero_le, qz1, qz2, qz3, qz4, qz5, qz6, qz7, qz8, qz9, qz0, qz10, qz01, e1, e2, h1, h2, h3, h4, h5, h6, h7, h8, h8b, h8c, h8d, h11, h12, h16, h17, hto, ho, hv, hx, nI_1]
    rfl
theorem k_bool (d : Nat) (s : qm_Hp) (cl X CO n t i to o v : Nat) (x y : Int32) (a7 a8 : qm_AV) (hX : X + 2 < 2880) (hCO : CO + 2 * i + 1 < 2880) (hto : zI s 62 0 (X + 2) = nI to) (hi : i < to) (ht : to ≤ 300) (ho : zI s 62 0 (CO + 2 * i) = nI o) (h2122 : o = 21 ∨ o = 22) (hv : zI s 62 0 (CO + 2 * i + 1) = nI v) (htt : t + 1 < 330) (hx : zI s 67 0 t = x) (hy : zI s 67 0 (t + 1) = y) (h01 : x = 0 ∨ x = 1) (h02 : y = 0 ∨ y = 1) : qm_evB (d + 2) jM_work 1 [qP 9 0, qI (nI cl), qI (nI X), qI (nI CO), qI (nI n), qI (nI (t + 2)), qI (nI i), a7, a8] [] s = qm_evB (d + 2) jM_work 1 [qP 9 0, qI (nI cl), qI (nI X), qI (nI CO), qI (nI n), qI (nI (t + 1)), qI (nI (i + 1)), qI (nI o), qI (nI v)] [] (uI s 67 0 t (j2 o x y)) := by
  have e1 : nI X + 2 = nI (X + 2) := nI_add X 2
  have e2 : nI CO + 2 * nI i = nI (CO + 2 * i) := by rw [show (2 : Int32) = nI 2 from rfl, pk_mul, nI_add]
  have h1 : ¬ nI to ≤ nI i := nI_ge hi (by omega)
  have h2 : vp_in (nI (X + 2)) 2880 := vp_in_nI hX (by decide)
  have h3 : (nI (X + 2)).toNatClampNeg = X + 2 := nI_clamp (by omega)
  have h4 : vp_in (nI (CO + 2 * i)) 2880 := vp_in_nI (by omega) (by decide)
  have h5 : (nI (CO + 2 * i)).toNatClampNeg = CO + 2 * i := nI_clamp (by omega)
  have h6 : vp_in (nI (CO + 2 * i + 1)) 2880 := vp_in_nI (by omega) (by decide)
  have h7 : (nI (CO + 2 * i + 1)).toNatClampNeg = CO + 2 * i + 1 := nI_clamp (by omega)
  have h8 : (1 : Int32) < nI o := nI_lt (a := 1) (by omega) (by omega)
  have h8b : ¬ nI o = 2 := fun z => by have := (nI_eq (b := 2) (by omega) (by decide)).mp z; omega
  have h8c : (10 : Int32) ≤ nI o := nI_le (a := 10) (by omega) (by omega)
  have h8d : (20 : Int32) ≤ nI o := nI_le (a := 20) (by omega) (by omega)
  have h8e : ¬ nI o = 20 := fun z => by have := (nI_eq (b := 20) (by omega) (by decide)).mp z; omega
  have h16 : vp_in (nI t) 330 := vp_in_nI (by omega) (by decide)
  have h17 : (nI t).toNatClampNeg = t := nI_clamp (by omega)
  have h18 : vp_in (nI (t + 1)) 330 := vp_in_nI (by omega) (by decide)
  have h19 : (nI (t + 1)).toNatClampNeg = t + 1 := nI_clamp (by omega)
  have h12 : nI (t + 1) - 1 = nI t := nI_pred t
  have h13 : nI (t + 2) + (-1) = nI (t + 1) := pk_m1 (t + 1)
  rw [j2_bool o h2122 x y h01 h02]
  rcases h2122 with rfl | rfl
  · have g1 : nI 21 = 21 := rfl
    rw [g1] at h8 h8b h8c h8d h8e
    rcases h01 with rfl | rfl <;> rcases h02 with rfl | rfl <;>
    simp only [b_M_work_1, b_M_work_4, b_M_work_5, b_M_work_6, b_M_work_7, b_M_work_10, b_M_work_11, b_M_work_12, b_M_work_13, b_M_work_14, b_M_work_15, b_M_work_16, qx, qe, qc, qil, reduceIte, Nat.reduceEqDiff, Nat.reduceLeDiff, Bool.false_eq_true, Nat.reduceAdd, Nat.reduceLT, List.length_cons, List.length_nil, or_self, or_false, false_or, or_true, true_or, and_self, and_true, true_and, and_false, false_and, not_true_eq_false, not_false_eq_true, Nat.zero_le, qz1, qz2, qz3, qz4, qz5, qz6, qz7, qz8, qz9, qz0, qz10, qz01, e1, e2, h1, h2, h3, h4, h5, h6, h7, h8, h8b, h8c, h8d, h8e, h12, h13, h16, h17, h18, h19, g1, hto, ho, hv, hx, hy, nI_1]
  · have g1 : nI 22 = 22 := rfl
    have g2 : ¬ (22 : Int32) = 21 := by decide
    rw [g1] at h8 h8b h8c h8d h8e
    rcases h01 with rfl | rfl <;> rcases h02 with rfl | rfl <;>
    simp only [b_M_work_1, b_M_work_4, b_M_work_5, b_M_work_6, b_M_work_7, b_M_work_10, b_M_work_11, b_M_work_12, b_M_work_13, b_M_work_14, b_M_work_15, b_M_work_16, qx, qe, qc, qil, reduceIte, Nat.reduceEqDiff, Nat.reduceLeDiff, Bool.false_eq_true, Nat.reduceAdd, Nat.reduceLT, List.length_cons, List.length_nil, or_self, or_false, false_or, or_true, true_or, and_self, and_true, true_and, and_false, false_and, not_true_eq_false, not_false_eq_true, Nat.zero_le, qz1, qz2, qz3, qz4, qz5, qz6, qz7, qz8, qz9, qz0, qz10, qz01, e1, e2, h1, h2, h3, h4, h5, h6, h7, h8, h8b, h8c, h8d, h8e, h12, h13, h16, h17, h18, h19, g1, g2, hto, ho, hv, hx, hy, nI_1, Nat.succ_ne_self]
