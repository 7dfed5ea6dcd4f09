/-- one place more of a copy within a row -/
theorem uC_succ (s : qm_Hp) (K a b n : Nat) (h : b + n ≤ a ∨ a + n < b) : uI (uC s K 0 a K 0 b n) K 0 (b + n) (zI (uC s K 0 a K 0 b n) K 0 (a + n)) = uC s K 0 a K 0 b (n + 1) := by
  have e : zI (uC s K 0 a K 0 b n) K 0 (a + n) = zI s K 0 (a + n) := by
    rw [zI_uC, if_neg (fun z => by omega)]
  rw [e]
  refine Prod.ext ?_ rfl
  funext x y z
  show (if x = K ∧ y = 0 ∧ z = b + n then zI s K 0 (a + n) else zI (uC s K 0 a K 0 b n) x y z) = zI (uC s K 0 a K 0 b (n + 1)) x y z
  rw [zI_uC, zI_uC]
  by_cases h1 : x = K ∧ y = 0
  · by_cases h2 : z = b + n
    · rw [if_pos ⟨h1.1, h1.2, h2⟩, if_pos ⟨h1.1, h1.2, by omega, by omega⟩, h2]
      congr 1
      omega
    · rw [if_neg (fun q => h2 q.2.2)]
      by_cases h3 : b ≤ z ∧ z < b + n
      · rw [if_pos ⟨h1.1, h1.2, h3⟩, if_pos ⟨h1.1, h1.2, h3.1, by omega⟩]
      · rw [if_neg (fun q => h3 q.2.2), if_neg (fun q => h3 ⟨q.2.2.1, by omega⟩)]
  · rw [if_neg (fun q => h1 ⟨q.1, q.2.1⟩), if_neg (fun q => h1 ⟨q.1, q.2.1⟩), if_neg (fun q => h1 ⟨q.1, q.2.1⟩)]
theorem m_copy (d : Nat) (s : qm_Hp) (f t : Nat) (hf : f ≤ 7) (ht : t ≤ 7) (hn : f ≠ t) : qm_evM d jM_copy [qP 9 0, qI (nI f), qI (nI t)] s = some (none, uC s 61 0 (420 * f) 61 0 (420 * t) 420) := by
  simp only [e_M_copy, b_M_copy_0, qx, qe, qc, qil, reduceIte, Nat.reduceEqDiff, Nat.reduceLeDiff, Bool.false_eq_true, Nat.reduceAdd, Nat.reduceLT, List.length_cons, List.length_nil, or_self, or_false, false_or, or_true, true_or, and_self, and_true, true_and, and_false, false_and, not_true_eq_false, not_false_eq_true, Nat.zero_le, qz1, qz2, qz3, qz4, qz5, qz6, qz7, qz8, qz9, qz0, qz10, qz01]
  have h0 : uC s 61 0 (420 * f) 61 0 (420 * t) 0 = s := by
    refine Prod.ext ?_ rfl
    funext x y z
    show zI (uC s 61 0 (420 * f) 61 0 (420 * t) 0) x y z = zI s x y z
    rw [zI_uC, if_neg (fun q => by omega)]
  have key := q_up (w := 420) (fun k => qm_evB d jM_copy 1 [qP 9 0, qI (nI f), qI (nI t), qI (nI k)] [] (uC s 61 0 (420 * f) 61 0 (420 * t) k)) (R := some (none, uC s 61 0 (420 * f) 61 0 (420 * t) 420)) ?_ ?_ 0 (Nat.zero_le _)
  · rw [h0] at key
    exact key
  · have h : (420 : Int32) ≤ nI 420 := Int32.le_refl _
    simp only [b_M_copy_1, b_M_copy_2, qx, qe, qc, qil, reduceIte, Nat.reduceEqDiff, Nat.reduceLeDiff, Bool.false_eq_true, Nat.reduceAdd, Nat.reduceLT, List.length_cons, List.length_nil, or_self, or_false, false_or, or_true, true_or, and_self, and_true, true_and, and_false, false_and, not_true_eq_false, not_false_eq_true, Nat.zero_le, qz1, qz2, qz3, qz4, qz5, qz6, qz7, qz8, qz9, qz0, qz10, qz01, h]
  · intro k hk
    have h1 : ¬ (420 : Int32) ≤ nI k := nI_ge (b := 420) hk (by decide)
    have e1 : 420 * nI f + nI k = nI (420 * f + k) := by
      rw [show (420 : Int32) = nI 420 from rfl]
      simp only [pk_mul, nI_add]
    have e2 : 420 * nI t + nI k = nI (420 * t + k) := by
      rw [show (420 : Int32) = nI 420 from rfl]
      simp only [pk_mul, nI_add]
    have h2 : vp_in (nI (420 * f + k)) 3360 := vp_in_nI (by omega) (by decide)
    have h3 : (nI (420 * f + k)).toNatClampNeg = 420 * f + k := nI_clamp (by omega)
    have h4 : vp_in (nI (420 * t + k)) 3360 := vp_in_nI (by omega) (by decide)
    have h5 : (nI (420 * t + k)).toNatClampNeg = 420 * t + k := nI_clamp (by omega)
    simp only [b_M_copy_1, qx, qe, qc, qil, reduceIte, Nat.reduceEqDiff, Nat.reduceLeDiff, Bool.false_eq_true, Nat.reduceAdd, Nat.reduceLT, List.length_cons, List.length_nil, or_self, or_false, false_or, or_true, true_or, and_self, and_true, true_and, and_false, false_and, not_true_eq_false, not_false_eq_true, Nat.zero_le, qz1, qz2, qz3, qz4, qz5, qz6, qz7, qz8, qz9, qz0, qz10, qz01, h1, e1, e2, h2, h3, h4, h5, nI_1]
    rw [uC_succ s 61 (420 * f) (420 * t) k (by omega)]
