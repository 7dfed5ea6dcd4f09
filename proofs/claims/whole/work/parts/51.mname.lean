def mm_hi (s : qm_Hp) (b z : Nat) : Int32 := if zI s 61 0 (b + 7) < 0 then nI z else 0
def mm_tp (s : qm_Hp) (b c z : Nat) : Int32 := if zI s 61 0 (b + 7) < 0 then (if nI z + 1 = zI s 61 0 (b + 120 + c) then 1 else 0) else 1
def mm_bs (s : qm_Hp) (b w c z : Nat) : Int32 := if zI s 61 0 (b + 7) < 0 then mb_bs s b w c z else 4
def mm_su (s : qm_Hp) (b w c : Nat) : Int32 := if nI c = (if zI s 61 0 (b + 6) = 0 then 0 else nI w - 1) then 1 else 0
def hp_name (s : qm_Hp) (b w c z : Nat) : qm_Hp :=
  uI (uI (uI (uI (uI (uI (uI (uI (uI s 65 0 0 (zI s 61 0 (b + 130 + 6 * (8 * c + z) + 2))) 65 0 1 (zI s 61 0 (b + 130 + 6 * (8 * c + z) + 1))) 65 0 2 (zI s 61 0 (b + 130 + 6 * (8 * c + z)))) 65 0 3 (zI s 61 0 (b + 130 + 6 * (8 * c + z) + 3))) 65 0 4 (mm_hi s b z)) 65 0 5 (mm_tp s b c z)) 65 0 6 (mm_bs s b w c z)) 65 0 7 (mm_su s b w c)) 65 0 12 (zI s 61 0 b)
theorem m_name (d : Nat) (s : qm_Hp) (b w c z : Nat) (hw : zI s 9 0 1 = nI w) (hw6 : w ≤ 6) (hb : zI s 9 0 2 = nI b) (hb2 : b ≤ 2940) (hc : c < w) (hz : z < 8) : qm_evM (d + 2) jM_name [qP 9 0, qI (nI c), qI (nI z)] s = some (none, hp_name s b w c z) := by
  have a0 := m_at0 (d + 1) s b c z hb
  generalize hX : b + 130 + 6 * (8 * c + z) = X at a0
  have hX2 : X + 6 ≤ 3360 := by omega
  have ad : ∀ (u : Nat) (v : Int32), v = nI u → u ≤ 10 → nI X + v = nI (X + u) := fun u v h _ => by rw [h, nI_add]
  have e1 := ad 1 1 rfl (by decide)
  have e2 := ad 2 2 rfl (by decide)
  have e3 := ad 3 3 rfl (by decide)
  have e6 : nI b + 6 = nI (b + 6) := nI_add b 6
  have e7 : nI b + 7 = nI (b + 7) := nI_add b 7
  have e0 : nI b + 0 = nI b := nI_add b 0
  have vi : ∀ u, u < 3360 → vp_in (nI u) 3360 := fun u h => vp_in_nI h (by decide)
  have tn : ∀ u, u < 3360 → (nI u).toNatClampNeg = u := fun u h => nI_clamp (by omega)
  have v0 := vi X (by omega)
  have v1 := vi (X + 1) (by omega)
  have v2 := vi (X + 2) (by omega)
  have v3 := vi (X + 3) (by omega)
  have v6 := vi (b + 6) (by omega)
  have v7 := vi (b + 7) (by omega)
  have vb := vi b (by omega)
  have t0 := tn X (by omega)
  have t1 := tn (X + 1) (by omega)
  have t2 := tn (X + 2) (by omega)
  have t3 := tn (X + 3) (by omega)
  have t6 := tn (b + 6) (by omega)
  have t7 := tn (b + 7) (by omega)
  have tb := tn b (by omega)
  have ct : ∀ s', zI s' 9 0 2 = nI b → _ := fun s' h => m_count (d + 1) s' b c h (by omega)
  have bs : ∀ s', zI s' 9 0 1 = nI w → zI s' 9 0 2 = nI b → _ := fun s' h1 h2 => m_beside d s' b w c z h1 hw6 h2 hb2 hc
  unfold hp_name mm_hi mm_tp mm_bs mm_su
  rw [hX]
  by_cases hf : zI s 61 0 (b + 7) < 0
  · simp only [e_M_name, b_M_name_0, b_M_name_1, b_M_name_2, b_M_name_3, qx, qe, qc, qil, reduceIte, Nat.reduceEqDiff, Nat.reduceLeDiff, Bool.false_eq_true, Nat.reduceAdd, Nat.reduceLT, List.length_cons, List.length_nil, or_self, or_false, false_or, or_true, true_or, and_self, and_true, true_and, and_false, false_and, not_true_eq_false, not_false_eq_true, Nat.zero_le, qz1, qz2, qz3, qz4, qz5, qz6, qz7, qz8, qz9, qz0, qz10, qz01, a0, hb, e0, e1, e2, e3, e6, e7, v0, v1, v2, v3, v7, t0, t1, t2, t3, t7, hf, qtn, qvi, zI_uI]
    simp only [b_M_name_4, b_M_name_5, b_M_name_6, qx, qe, qc, qil, reduceIte, Nat.reduceEqDiff, Nat.reduceLeDiff, Bool.false_eq_true, Nat.reduceAdd, Nat.reduceLT, List.length_cons, List.length_nil, or_self, or_false, false_or, or_true, true_or, and_self, and_true, true_and, and_false, false_and, not_true_eq_false, not_false_eq_true, Nat.zero_le, qz1, qz2, qz3, qz4, qz5, qz6, qz7, qz8, qz9, qz0, qz10, qz01, ct, hb, qtn, qvi, zI_uI, qmg]
    simp only [b_M_name_7, b_M_name_8, qx, qe, qc, qil, reduceIte, Nat.reduceEqDiff, Nat.reduceLeDiff, Bool.false_eq_true, Nat.reduceAdd, Nat.reduceLT, List.length_cons, List.length_nil, or_self, or_false, false_or, or_true, true_or, and_self, and_true, true_and, and_false, false_and, not_true_eq_false, not_false_eq_true, Nat.zero_le, qz1, qz2, qz3, qz4, qz5, qz6, qz7, qz8, qz9, qz0, qz10, qz01, bs, hb, hw, mb_bs, qtn, qvi, zI_uI, qmg]
    simp only [b_M_name_9, b_M_name_10, qx, qe, qc, qil, reduceIte, Nat.reduceEqDiff, Nat.reduceLeDiff, Bool.false_eq_true, Nat.reduceAdd, Nat.reduceLT, List.length_cons, List.length_nil, or_self, or_false, false_or, or_true, true_or, and_self, and_true, true_and, and_false, false_and, not_true_eq_false, not_false_eq_true, Nat.zero_le, qz1, qz2, qz3, qz4, qz5, qz6, qz7, qz8, qz9, qz0, qz10, qz01, hb, hw, e6, v6, t6, qtn, qvi, zI_uI, qmg]
    simp only [b_M_name_11, b_M_name_12, qx, qe, qc, qil, reduceIte, Nat.reduceEqDiff, Nat.reduceLeDiff, Bool.false_eq_true, Nat.reduceAdd, Nat.reduceLT, List.length_cons, List.length_nil, or_self, or_false, false_or, or_true, true_or, and_self, and_true, true_and, and_false, false_and, not_true_eq_false, not_false_eq_true, Nat.zero_le, qz1, qz2, qz3, qz4, qz5, qz6, qz7, qz8, qz9, qz0, qz10, qz01, hb, hw, qtn, qvi, zI_uI, qmg]
    simp only [b_M_name_13, qx, qe, qc, qil, reduceIte, Nat.reduceEqDiff, Nat.reduceLeDiff, Bool.false_eq_true, Nat.reduceAdd, Nat.reduceLT, List.length_cons, List.length_nil, or_self, or_false, false_or, or_true, true_or, and_self, and_true, true_and, and_false, false_and, not_true_eq_false, not_false_eq_true, Nat.zero_le, qz1, qz2, qz3, qz4, qz5, qz6, qz7, qz8, qz9, qz0, qz10, qz01, hb, hw, e0, vb, tb, qtn, qvi, zI_uI]
    simp only [ite_not, hf, reduceIte, mb_bs]
  · simp only [e_M_name, b_M_name_0, b_M_name_1, b_M_name_2, b_M_name_3, qx, qe, qc, qil, reduceIte, Nat.reduceEqDiff, Nat.reduceLeDiff, Bool.false_eq_true, Nat.reduceAdd, Nat.reduceLT, List.length_cons, List.length_nil, or_self, or_false, false_or, or_true, true_or, and_self, and_true, true_and, and_false, false_and, not_true_eq_false, not_false_eq_true, Nat.zero_le, qz1, qz2, qz3, qz4, qz5, qz6, qz7, qz8, qz9, qz0, qz10, qz01, a0, hb, e0, e1, e2, e3, e6, e7, v0, v1, v2, v3, v7, t0, t1, t2, t3, t7, hf, qtn, qvi, zI_uI]
    simp only [b_M_name_4, b_M_name_5, b_M_name_6, qx, qe, qc, qil, reduceIte, Nat.reduceEqDiff, Nat.reduceLeDiff, Bool.false_eq_true, Nat.reduceAdd, Nat.reduceLT, List.length_cons, List.length_nil, or_self, or_false, false_or, or_true, true_or, and_self, and_true, true_and, and_false, false_and, not_true_eq_false, not_false_eq_true, Nat.zero_le, qz1, qz2, qz3, qz4, qz5, qz6, qz7, qz8, qz9, qz0, qz10, qz01, ct, hb, qtn, qvi, zI_uI, qmg]
    simp only [b_M_name_7, b_M_name_8, qx, qe, qc, qil, reduceIte, Nat.reduceEqDiff, Nat.reduceLeDiff, Bool.false_eq_true, Nat.reduceAdd, Nat.reduceLT, List.length_cons, List.length_nil, or_self, or_false, false_or, or_true, true_or, and_self, and_true, true_and, and_false, false_and, not_true_eq_false, not_false_eq_true, Nat.zero_le, qz1, qz2, qz3, qz4, qz5, qz6, qz7, qz8, qz9, qz0, qz10, qz01, bs, hb, hw, mb_bs, qtn, qvi, zI_uI, qmg]
    simp only [b_M_name_9, b_M_name_10, qx, qe, qc, qil, reduceIte, Nat.reduceEqDiff, Nat.reduceLeDiff, Bool.false_eq_true, Nat.reduceAdd, Nat.reduceLT, List.length_cons, List.length_nil, or_self, or_false, false_or, or_true, true_or, and_self, and_true, true_and, and_false, false_and, not_true_eq_false, not_false_eq_true, Nat.zero_le, qz1, qz2, qz3, qz4, qz5, qz6, qz7, qz8, qz9, qz0, qz10, qz01, hb, hw, e6, v6, t6, qtn, qvi, zI_uI, qmg]
    simp only [b_M_name_11, b_M_name_12, qx, qe, qc, qil, reduceIte, Nat.reduceEqDiff, Nat.reduceLeDiff, Bool.false_eq_true, Nat.reduceAdd, Nat.reduceLT, List.length_cons, List.length_nil, or_self, or_false, false_or, or_true, true_or, and_self, and_true, true_and, and_false, false_and, not_true_eq_false, not_false_eq_true, Nat.zero_le, qz1, qz2, qz3, qz4, qz5, qz6, qz7, qz8, qz9, qz0, qz10, qz01, hb, hw, qtn, qvi, zI_uI, qmg]
    simp only [b_M_name_13, qx, qe, qc, qil, reduceIte, Nat.reduceEqDiff, Nat.reduceLeDiff, Bool.false_eq_true, Nat.reduceAdd, Nat.reduceLT, List.length_cons, List.length_nil, or_self, or_false, false_or, or_true, true_or, and_self, and_true, true_and, and_false, false_and, not_true_eq_false, not_false_eq_true, Nat.zero_le, qz1, qz2, qz3, qz4, qz5, qz6, qz7, qz8, qz9, qz0, qz10, qz01, hb, hw, e0, vb, tb, qtn, qvi, zI_uI]
    simp only [ite_not, hf, reduceIte, mb_bs]
