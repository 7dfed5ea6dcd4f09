theorem s_once (d : Nat) (s : qm_Hp) (a : Int32) : qm_evM (d + 1) jT_standsOnce [qI a] s = some (some (qI (if 17 ≤ a ∧ a ≤ 21 then 1 else 0)), s) := by
  simp only [e_T_standsOnce, b_T_standsOnce_0, qx, qe, qc, qil, reduceIte, Nat.reduceEqDiff, Nat.reduceLeDiff, Bool.false_eq_true, Nat.reduceAdd, Nat.reduceLT, List.length_cons, List.length_nil, or_self, or_false, false_or, or_true, true_or, and_self, and_true, true_and, and_false, false_and, not_true_eq_false, not_false_eq_true, Nat.zero_le, qz1, qz2, qz3, qz4, qz5, qz6, qz7, qz8, qz9, qz0, qz10, qz01, s_within]
theorem s_clauseOf (d : Nat) (s : qm_Hp) (t a : Nat) (ha : 17 ≤ a ∧ a ≤ 21) : qm_evM (d + 2) jT_clauseOf [qP 4 t, qI (nI a)] s = some (some (qI (zI s 35 t (a - 17))), s) := by
  have g1 : (17 : Int32) ≤ nI a := nI_le (a := 17) ha.1 (by omega)
  have g2 : nI a ≤ 21 := nI_le (b := 21) ha.2 (by decide)
  have e : nI a - 17 = nI (a - 17) := pk_sub (b := 17) ha.1
  have h2 : vp_in (nI (a - 17)) 5 := vp_in_nI (by omega) (by decide)
  have h3 : (nI (a - 17)).toNatClampNeg = a - 17 := nI_clamp (by omega)
  simp only [e_T_clauseOf, b_T_clauseOf_0, b_T_clauseOf_1, b_T_clauseOf_2, qx, qe, qc, qil, reduceIte, Nat.reduceEqDiff, Nat.reduceLeDiff, Bool.false_eq_true, Nat.reduceAdd, Nat.reduceLT, List.length_cons, List.length_nil, or_self, or_false, false_or, or_true, true_or, and_self, and_true, true_and, and_false, false_and, not_true_eq_false, not_false_eq_true, Nat.zero_le, qz1, qz2, qz3, qz4, qz5, qz6, qz7, qz8, qz9, qz0, qz10, qz01, s_once, g1, g2, e, h2, h3]
theorem s_clamp (d : Nat) (s : qm_Hp) (v a b : Int32) : qm_evM d jL_clamp [qI v, qI a, qI b] s = some (some (qI (if a < (if v < b then v else b) then (if v < b then v else b) else a)), s) := by
  simp only [e_L_clamp, b_L_clamp_0, qx, qe, qc, qil, reduceIte, Nat.reduceEqDiff, Nat.reduceLeDiff, Bool.false_eq_true, Nat.reduceAdd, Nat.reduceLT, List.length_cons, List.length_nil, or_self, or_false, false_or, or_true, true_or, and_self, and_true, true_and, and_false, false_and, not_true_eq_false, not_false_eq_true, Nat.zero_le, qz1, qz2, qz3, qz4, qz5, qz6, qz7, qz8, qz9, qz0, qz10, qz01]
theorem m_held (d : Nat) (s : qm_Hp) (v : Int64) (a b : Int32) : qm_evM d jM_held [qL v, qI a, qI b] s = some (some (qI (if v < a.toInt64 then a else if b.toInt64 < v then b else v.toInt32)), s) := by
  simp only [e_M_held, b_M_held_0, b_M_held_1, b_M_held_2, b_M_held_3, qx, qe, qc, qil, reduceIte, Nat.reduceEqDiff, Nat.reduceLeDiff, Bool.false_eq_true, Nat.reduceAdd, Nat.reduceLT, List.length_cons, List.length_nil, or_self, or_false, false_or, or_true, true_or, and_self, and_true, true_and, and_false, false_and, not_true_eq_false, not_false_eq_true, Nat.zero_le, qz1, qz2, qz3, qz4, qz5, qz6, qz7, qz8, qz9, qz0, qz10, qz01, lg_cmp_ge, lg_cmp_le]
  by_cases h1 : a.toInt64 ≤ v
  · have g1 := Int64.not_lt.mpr h1
    by_cases h2 : v ≤ b.toInt64
    · have g2 := Int64.not_lt.mpr h2
      simp only [h1, g1, h2, g2, if_true, if_false]
    · have g2 := Int64.not_le.mp h2
      simp only [h1, g1, h2, g2, if_true, if_false]
  · have g1 := Int64.not_le.mp h1
    simp only [h1, g1, if_true, if_false]
theorem s_nameValue (d : Nat) (s : qm_Hp) (k : Nat) (hk : k < 17) : qm_evM (d + 1) jL_nameValue [qP 5 0, qI (nI k)] s = some (some (qI (zI s 41 0 k)), s) := by
  have g1 : (0 : Int32) ≤ nI k := nI_pos' (by omega)
  have g2 : nI k ≤ 16 := nI_le (b := 16) (by omega) (by decide)
  have h2 : vp_in (nI k) 17 := vp_in_nI hk (by decide)
  have h3 : (nI k).toNatClampNeg = k := nI_clamp (by omega)
  simp only [e_L_nameValue, b_L_nameValue_0, b_L_nameValue_1, b_L_nameValue_2, qx, qe, qc, qil, reduceIte, Nat.reduceEqDiff, Nat.reduceLeDiff, Bool.false_eq_true, Nat.reduceAdd, Nat.reduceLT, List.length_cons, List.length_nil, or_self, or_false, false_or, or_true, true_or, and_self, and_true, true_and, and_false, false_and, not_true_eq_false, not_false_eq_true, Nat.zero_le, qz1, qz2, qz3, qz4, qz5, qz6, qz7, qz8, qz9, qz0, qz10, qz01, s_within, g1, g2, h2, h3]
/-- a split's names: where it lies, how it is -/
def nm_hi (s : qm_Hp) (p z : Nat) : Int32 := if zI s 3 p 9 = -1 then nI z else 0
def nm_tp (s : qm_Hp) (p c z : Nat) : Int32 := if ¬ zI s 3 p 9 = -1 ∨ zI s 17 p c ≤ nI z + 1 then 1 else 0
def nm_bs (s : qm_Hp) (p w c z : Nat) : Int32 := if zI s 3 p 9 = -1 then (if nI z ≤ 0 then 0 else 1) + (if zI s 17 p c ≤ nI z + 1 then 0 else 1) + (if nI c ≤ 0 ∨ zI s 17 p (c - 1) ≤ nI z then 0 else 1) + (if nI w ≤ nI c + 1 ∨ zI s 17 p (c + 1) ≤ nI z then 0 else 1) else 4
def nm_su (s : qm_Hp) (p c : Nat) : Int32 := if nI c = (if zI s 3 p 12 = 0 then 0 else zI s 3 p 0 - 1) then 1 else 0
def hp_look (s : qm_Hp) (p w c z : Nat) : qm_Hp :=
  uI (uI (uI (uI (uI (uI (uI (uI (uI s 41 0 0 (zI s 13 p (8 * c + z))) 41 0 1 (zI s 12 p (8 * c + z))) 41 0 2 (zI s 11 p (8 * c + z))) 41 0 3 (zI s 14 p (8 * c + z))) 41 0 4 (nm_hi s p z)) 41 0 5 (nm_tp s p c z)) 41 0 6 (nm_bs s p w c z)) 41 0 7 (nm_su s p c)) 41 0 12 (zI s 3 p 8)
theorem s_look (d : Nat) (s : qm_Hp) (p w c z : Nat) (hw : zI s 3 p 0 = nI w) (hw6 : w ≤ 6) (hc : c < w) (hz : z < 8) : qm_evM (d + 2) jL_look [qP 5 0, qP 3 p, qI (nI c), qI (nI z)] s = some (none, hp_look s p w c z) := by
  have e : nI c * 8 + nI z = nI (8 * c + z) := by
    rw [show (8 : Int32) = nI 8 from rfl]
    simp only [pk_mul, nI_add]
    rw [Nat.mul_comm]
  have h5 : vp_in (nI (8 * c + z)) 48 := vp_in_nI (by omega) (by decide)
  have h6 : (nI (8 * c + z)).toNatClampNeg = 8 * c + z := nI_clamp (by omega)
  have h2 : vp_in (nI c) 6 := vp_in_nI (by omega) (by decide)
  have h3 : (nI c).toNatClampNeg = c := nI_clamp (by omega)
  have hb : ∀ s', zI s' 3 p 0 = nI w → _ := fun s' h => s_beside d s' p w c z h hw6 hc
  simp only [e_L_look, b_L_look_0, b_L_look_1, qx, qe, qc, qil, reduceIte, Nat.reduceEqDiff, Nat.reduceLeDiff, Bool.false_eq_true, Nat.reduceAdd, Nat.reduceLT, List.length_cons, List.length_nil, or_self, or_false, false_or, or_true, true_or, and_self, and_true, true_and, and_false, false_and, not_true_eq_false, not_false_eq_true, Nat.zero_le, qz1, qz2, qz3, qz4, qz5, qz6, qz7, qz8, qz9, qz0, qz10, qz01, s_placeOf, e, h5, h6, qtn, qvi, s_isFallen, zI_uI, qmg]
  simp only [b_L_look_2, b_L_look_3, qx, qe, qc, qil, reduceIte, Nat.reduceEqDiff, Nat.reduceLeDiff, Bool.false_eq_true, Nat.reduceAdd, Nat.reduceLT, List.length_cons, List.length_nil, or_self, or_false, false_or, or_true, true_or, and_self, and_true, true_and, and_false, false_and, not_true_eq_false, not_false_eq_true, Nat.zero_le, qz1, qz2, qz3, qz4, qz5, qz6, qz7, qz8, qz9, qz0, qz10, qz01, s_isTop, h2, h3, qtn, qvi, zI_uI, qmg]
  simp only [b_L_look_4, b_L_look_5, qx, qe, qc, qil, reduceIte, Nat.reduceEqDiff, Nat.reduceLeDiff, Bool.false_eq_true, Nat.reduceAdd, Nat.reduceLT, List.length_cons, List.length_nil, or_self, or_false, false_or, or_true, true_or, and_self, and_true, true_and, and_false, false_and, not_true_eq_false, not_false_eq_true, Nat.zero_le, qz1, qz2, qz3, qz4, qz5, qz6, qz7, qz8, qz9, qz0, qz10, qz01, hb, s_isSunny, hw, qtn, qvi, zI_uI, qmg]
  simp only [b_L_look_6, qx, qe, qc, qil, reduceIte, Nat.reduceEqDiff, Nat.reduceLeDiff, Bool.false_eq_true, Nat.reduceAdd, Nat.reduceLT, List.length_cons, List.length_nil, or_self, or_false, false_or, or_true, true_or, and_self, and_true, true_and, and_false, false_and, not_true_eq_false, not_false_eq_true, Nat.zero_le, qz1, qz2, qz3, qz4, qz5, qz6, qz7, qz8, qz9, qz0, qz10, qz01, qtn, qvi, zI_uI]
  simp only [ite_not, hp_look, nm_hi, nm_tp, nm_bs, nm_su, hw]
