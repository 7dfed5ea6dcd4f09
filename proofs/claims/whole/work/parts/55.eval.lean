/-! clauses worked out: the code as pairs (deed, value), two stacks (truths, values) -/
def tok : Nat → Nat
  | 2 => 57 | 3 => 49 | 4 => 50 | 5 => 51 | 6 => 52 | 7 => 24 | 8 => 25
  | 10 => 43 | 11 => 44 | 12 => 45 | 13 => 46 | 14 => 47 | 15 => 48
  | 20 => 26 | 21 => 27 | 22 => 28 | _ => 0
/-- the class's code of a pair -/
def enc (c : Nat × Nat) : Nat := if c.1 = 0 then c.2 else if c.1 = 1 then 10000 + c.2 else 20000 + tok c.1
def is2 (o : Nat) : Prop := (3 ≤ o ∧ o ≤ 8) ∨ (10 ≤ o ∧ o ≤ 15) ∨ o = 21 ∨ o = 22
def jl (o : Nat) (a b : Int64) : Int64 := match o with
  | 3 => a + b
  | 4 => a - b
  | 5 => a * b
  | 6 => if b = 0 then 0 else a / b
  | 7 => if b < a then b else a
  | 8 => if b < a then a else b
  | 10 => if a < b then 1 else 0
  | 11 => if a ≤ b then 1 else 0
  | 12 => if b < a then 1 else 0
  | 13 => if b ≤ a then 1 else 0
  | 14 => if a = b then 1 else 0
  | 15 => if a = b then 0 else 1
  | 21 => a &&& b
  | _ => a ||| b
def cpC (z : Int64) : Int32 := (if (if z < 1000000 then z else 1000000) < -1000000 then -1000000 else (if z < 1000000 then z else 1000000)).toInt32
def j2 (o : Nat) (x y : Int32) : Int32 := cpC (jl o x.toInt64 y.toInt64)
theorem s_joined (d : Nat) (s : qm_Hp) (o : Nat) (ho : is2 o) (a b : Int64) : qm_evM d jL_joined [qI (nI (tok o)), qL a, qL b] s = some (some (qL (jl o a b)), s) := by
  unfold is2 at ho
  have h : o = 3 ∨ o = 4 ∨ o = 5 ∨ o = 6 ∨ o = 7 ∨ o = 8 ∨ o = 10 ∨ o = 11 ∨ o = 12 ∨ o = 13 ∨ o = 14 ∨ o = 15 ∨ o = 21 ∨ o = 22 := by omega
  rcases h with h | h | h | h | h | h | h | h | h | h | h | h | h | h <;> subst h
  · exact s_joined_49 d s a b
  · exact s_joined_50 d s a b
  · exact s_joined_51 d s a b
  · exact s_joined_52 d s a b
  · exact s_joined_24 d s a b
  · exact s_joined_25 d s a b
  · exact s_joined_43 d s a b
  · exact s_joined_44 d s a b
  · exact s_joined_45 d s a b
  · exact s_joined_46 d s a b
  · exact s_joined_47 d s a b
  · exact s_joined_48 d s a b
  · exact s_joined_27 d s a b
  · exact s_joined_28 d s a b
abbrev SS : Type := List Int32 × List Int32
def cs (env : Nat → Int32) (c : Nat × Nat) (S : SS) : SS :=
  if c.1 = 0 then (S.1, nI c.2 :: S.2)
  else if c.1 = 1 then (S.1, env c.2 :: S.2)
  else if c.1 = 2 then (S.1, -(S.2.headD 0) :: S.2.tail)
  else if c.1 ≤ 8 then (S.1, j2 c.1 (S.2.tail.headD 0) (S.2.headD 0) :: S.2.tail.tail)
  else if c.1 ≤ 15 then (j2 c.1 (S.2.tail.headD 0) (S.2.headD 0) :: S.1, S.2.tail.tail)
  else if c.1 = 20 then ((1 - S.1.headD 0) :: S.1.tail, S.2)
  else (j2 c.1 (S.1.tail.headD 0) (S.1.headD 0) :: S.1.tail.tail, S.2)
def rn (env : Nat → Int32) (C : List (Nat × Nat)) (S : SS) : SS := C.foldl (fun S c => cs env c S) S
/-- a step fits t truths and n values, and comes to t' and n' -/
def w1 (c : Nat × Nat) (t n t' n' : Nat) : Prop :=
  (c.1 = 0 ∧ c.2 < 10000 ∧ t + n < 40 ∧ t' = t ∧ n' = n + 1) ∨ (c.1 = 1 ∧ c.2 < 17 ∧ t + n < 40 ∧ t' = t ∧ n' = n + 1)
  ∨ (c.1 = 2 ∧ 1 ≤ n ∧ t' = t ∧ n' = n) ∨ (3 ≤ c.1 ∧ c.1 ≤ 8 ∧ 2 ≤ n ∧ t' = t ∧ n' = n - 1)
  ∨ (10 ≤ c.1 ∧ c.1 ≤ 15 ∧ n = 2 ∧ t' = t + 1 ∧ n' = 0) ∨ (c.1 = 20 ∧ n = 0 ∧ 1 ≤ t ∧ t' = t ∧ n' = 0)
  ∨ ((c.1 = 21 ∨ c.1 = 22) ∧ n = 0 ∧ 2 ≤ t ∧ t' = t - 1 ∧ n' = 0)
def wt : List (Nat × Nat) → Nat → Nat → Nat → Nat → Prop
  | [], t, n, t', n' => t = t' ∧ n = n'
  | c :: C, t, n, t', n' => ∃ a b, w1 c t n a b ∧ wt C a b t' n'
theorem wt_app : ∀ {C D : List (Nat × Nat)} {t n a b t' n' : Nat}, wt C t n a b → wt D a b t' n' → wt (C ++ D) t n t' n'
  | [], _, _, _, _, _, _, _, h, q => by obtain ⟨rfl, rfl⟩ := h; exact q
  | _ :: C, _, _, _, _, _, _, _, ⟨x, y, h1, h2⟩, q => ⟨x, y, h1, wt_app (C := C) h2 q⟩
/-- the class's stack -/
abbrev sk (S : SS) : List Int32 := S.2 ++ S.1
theorem v_num (d : Nat) (s : qm_Hp) (t cl m i to e : Nat) (a4 a5 a6 a7 : qm_AV) (hT : zP s 5 0 0 = (4, t)) (hcl : cl < 20) (hto : zI s 34 t cl = nI to) (hi : i < to) (ht3 : to ≤ 300) (hc : zI s 31 t i = nI e) (he : e < 10000) (hm : m < 40) : qm_evB (d + 2) jL_valueOf 1 [qP 5 0, qI (nI cl), qI (nI m), qI (nI i), a4, a5, a6, a7] [] s = qm_evB (d + 2) jL_valueOf 1 [qP 5 0, qI (nI cl), qI (nI (m + 1)), qI (nI (i + 1)), qI (nI e), qI (nI e - 20000), a6, a7] [] (uI s 42 0 m (nI e)) := by
  have h1 : ¬ nI to ≤ nI i := nI_ge hi (by omega)
  have h2 : vp_in (nI cl) 20 := vp_in_nI hcl (by decide)
  have h3 : (nI cl).toNatClampNeg = cl := nI_clamp (by omega)
  have h4 : vp_in (nI i) 300 := vp_in_nI (by omega) (by decide)
  have h5 : (nI i).toNatClampNeg = i := nI_clamp (by omega)
  have h6 : ¬ (0 : Int32) ≤ nI e - 20000 := Int32.not_le.mpr (pk_sneg (b := 20000) (by decide) (by omega))
  have h7 : ¬ (40 : Int32) ≤ nI m := nI_ge (b := 40) hm (by decide)
  have h8 : ¬ (10000 : Int32) ≤ nI e := nI_ge (b := 10000) he (by decide)
  have h9 : vp_in (nI m) 40 := vp_in_nI hm (by decide)
  have h10 : (nI m).toNatClampNeg = m := nI_clamp (by omega)
  have h11 : Int32.ofNat 40 = 40 := rfl
  simp only [b_L_valueOf_1, b_L_valueOf_2, b_L_valueOf_3, b_L_valueOf_9, qx, qe, qc, qil, reduceIte, Nat.reduceEqDiff, Nat.reduceLeDiff, Bool.false_eq_true, Nat.reduceAdd, Nat.reduceLT, List.length_cons, List.length_nil, or_self, or_false, false_or, or_true, true_or, and_self, and_true, true_and, and_false, false_and, not_true_eq_false, not_false_eq_true, Nat.zero_le, qz1, qz2, qz3, qz4, qz5, qz6, qz7, qz8, qz9, qz0, qz10, qz01, hT, h1, h2, h3, h4, h5, hto, hc, h6, h7, h8, h9, h10, h11, nI_1]
theorem v_name (d : Nat) (s : qm_Hp) (t cl m i to e : Nat) (a4 a5 a6 a7 : qm_AV) (hT : zP s 5 0 0 = (4, t)) (hcl : cl < 20) (hto : zI s 34 t cl = nI to) (hi : i < to) (ht3 : to ≤ 300) (hc : zI s 31 t i = nI (10000 + e)) (he : e < 17) (hm : m < 40) : qm_evB (d + 2) jL_valueOf 1 [qP 5 0, qI (nI cl), qI (nI m), qI (nI i), a4, a5, a6, a7] [] s = qm_evB (d + 2) jL_valueOf 1 [qP 5 0, qI (nI cl), qI (nI (m + 1)), qI (nI (i + 1)), qI (nI (10000 + e)), qI (nI (10000 + e) - 20000), a6, a7] [] (uI s 42 0 m (zI s 41 0 e)) := by
  have h1 : ¬ nI to ≤ nI i := nI_ge hi (by omega)
  have h2 : vp_in (nI cl) 20 := vp_in_nI hcl (by decide)
  have h3 : (nI cl).toNatClampNeg = cl := nI_clamp (by omega)
  have h4 : vp_in (nI i) 300 := vp_in_nI (by omega) (by decide)
  have h5 : (nI i).toNatClampNeg = i := nI_clamp (by omega)
  have h6 : ¬ (0 : Int32) ≤ nI (10000 + e) - 20000 := Int32.not_le.mpr (pk_sneg (b := 20000) (by decide) (by omega))
  have h7 : ¬ (40 : Int32) ≤ nI m := nI_ge (b := 40) hm (by decide)
  have h8 : (10000 : Int32) ≤ nI (10000 + e) := nI_le (a := 10000) (by omega) (by omega)
  have h9 : vp_in (nI m) 40 := vp_in_nI hm (by decide)
  have h10 : (nI m).toNatClampNeg = m := nI_clamp (by omega)
  have h11 : Int32.ofNat 40 = 40 := rfl
  have h12 : nI (10000 + e) - 10000 = nI e := by
    have := pk_sub (a := 10000 + e) (b := 10000) (by omega)
    rw [Nat.add_sub_cancel_left] at this
    exact this
  have h13 := s_nameValue d s e he
  simp only [b_L_valueOf_1, b_L_valueOf_2, b_L_valueOf_3, b_L_valueOf_9, qx, qe, qc, qil, reduceIte, Nat.reduceEqDiff, Nat.reduceLeDiff, Bool.false_eq_true, Nat.reduceAdd, Nat.reduceLT, List.length_cons, List.length_nil, or_self, or_false, false_or, or_true, true_or, and_self, and_true, true_and, and_false, false_and, not_true_eq_false, not_false_eq_true, Nat.zero_le, qz1, qz2, qz3, qz4, qz5, qz6, qz7, qz8, qz9, qz0, qz10, qz01, hT, h1, h2, h3, h4, h5, hto, hc, h6, h7, h8, h9, h10, h11, h12, h13, nI_1]
theorem v_one (d : Nat) (s : qm_Hp) (t cl m i to o : Nat) (a4 a5 a6 a7 : qm_AV) (hT : zP s 5 0 0 = (4, t)) (hcl : cl < 20) (hto : zI s 34 t cl = nI to) (hi : i < to) (ht3 : to ≤ 300) (hc : zI s 31 t i = nI (20000 + tok o)) (ho : o = 2 ∨ o = 20) (hm : m < 40) : ∃ v, qm_evB (d + 2) jL_valueOf 1 [qP 5 0, qI (nI cl), qI (nI (m + 1)), qI (nI i), a4, a5, a6, a7] [] s = qm_evB (d + 2) jL_valueOf 1 [qP 5 0, qI (nI cl), qI (nI (m + 1)), qI (nI (i + 1)), qI (nI (20000 + tok o)), qI v, a6, a7] [] (uI s 42 0 m (if o = 2 then -(zI s 42 0 m) else 1 - zI s 42 0 m)) := by
  have h1 : ¬ nI to ≤ nI i := nI_ge hi (by omega)
  have h2 : vp_in (nI cl) 20 := vp_in_nI hcl (by decide)
  have h3 : (nI cl).toNatClampNeg = cl := nI_clamp (by omega)
  have h4 : vp_in (nI i) 300 := vp_in_nI (by omega) (by decide)
  have h5 : (nI i).toNatClampNeg = i := nI_clamp (by omega)
  have h7 : ¬ nI (m + 1) < 1 := nI_nlt (b := 1) (by omega) (by omega)
  have h9 : vp_in (nI m) 40 := vp_in_nI hm (by decide)
  have h10 : (nI m).toNatClampNeg = m := nI_clamp (by omega)
  have h11 : nI (m + 1) - 1 = nI m := nI_pred m
  rcases ho with rfl | rfl
  · have h6 : nI (20000 + tok 2) - 20000 = 57 := rfl
    refine ⟨57, ?_⟩
    simp only [b_L_valueOf_1, b_L_valueOf_4, b_L_valueOf_5, b_L_valueOf_6, b_L_valueOf_7, b_L_valueOf_9, qx, qe, qc, qil, reduceIte, Nat.reduceEqDiff, Nat.reduceLeDiff, Bool.false_eq_true, Nat.reduceAdd, Nat.reduceLT, List.length_cons, List.length_nil, or_self, or_false, false_or, or_true, true_or, and_self, and_true, true_and, and_false, false_and, not_true_eq_false, not_false_eq_true, Nat.zero_le, qz1, qz2, qz3, qz4, qz5, qz6, qz7, qz8, qz9, qz0, qz10, qz01, hT, h1, h2, h3, h4, h5, hto, hc, h6, h7, h9, h10, h11, nI_1]
    simp
  · have h6 : nI (20000 + tok 20) - 20000 = 26 := rfl
    refine ⟨26, ?_⟩
    simp only [b_L_valueOf_1, b_L_valueOf_4, b_L_valueOf_5, b_L_valueOf_6, b_L_valueOf_7, b_L_valueOf_9, qx, qe, qc, qil, reduceIte, Nat.reduceEqDiff, Nat.reduceLeDiff, Bool.false_eq_true, Nat.reduceAdd, Nat.reduceLT, List.length_cons, List.length_nil, or_self, or_false, false_or, or_true, true_or, and_self, and_true, true_and, and_false, false_and, not_true_eq_false, not_false_eq_true, Nat.zero_le, qz1, qz2, qz3, qz4, qz5, qz6, qz7, qz8, qz9, qz0, qz10, qz01, hT, h1, h2, h3, h4, h5, hto, hc, h6, h7, h9, h10, h11, nI_1]
    simp
theorem tk_2 (o : Nat) (ho : is2 o) : 0 < tok o ∧ tok o < 57 ∧ ¬ tok o = 26 := by
  unfold is2 at ho
  have h : o = 3 ∨ o = 4 ∨ o = 5 ∨ o = 6 ∨ o = 7 ∨ o = 8 ∨ o = 10 ∨ o = 11 ∨ o = 12 ∨ o = 13 ∨ o = 14 ∨ o = 15 ∨ o = 21 ∨ o = 22 := by omega
  rcases h with h | h | h | h | h | h | h | h | h | h | h | h | h | h <;> subst h <;> decide
theorem v_two (d : Nat) (s : qm_Hp) (t cl m i to o : Nat) (a4 a5 a6 a7 : qm_AV) (hT : zP s 5 0 0 = (4, t)) (hcl : cl < 20) (hto : zI s 34 t cl = nI to) (hi : i < to) (ht3 : to ≤ 300) (hc : zI s 31 t i = nI (20000 + tok o)) (ho : is2 o) (hm : m + 1 < 40) : ∃ v, qm_evB (d + 2) jL_valueOf 1 [qP 5 0, qI (nI cl), qI (nI (m + 2)), qI (nI i), a4, a5, a6, a7] [] s = qm_evB (d + 2) jL_valueOf 1 [qP 5 0, qI (nI cl), qI (nI (m + 1)), qI (nI (i + 1)), qI (nI (20000 + tok o)), qI (nI (tok o)), qL v, qU] [] (uI s 42 0 m (j2 o (zI s 42 0 m) (zI s 42 0 (m + 1)))) := by
  obtain ⟨k0, k1, k2⟩ := tk_2 o ho
  have h1 : ¬ nI to ≤ nI i := nI_ge hi (by omega)
  have h2 : vp_in (nI cl) 20 := vp_in_nI hcl (by decide)
  have h3 : (nI cl).toNatClampNeg = cl := nI_clamp (by omega)
  have h4 : vp_in (nI i) 300 := vp_in_nI (by omega) (by decide)
  have h5 : (nI i).toNatClampNeg = i := nI_clamp (by omega)
  have h6 : nI (20000 + tok o) - 20000 = nI (tok o) := by
    have := pk_sub (a := 20000 + tok o) (b := 20000) (by omega)
    rw [Nat.add_sub_cancel_left] at this
    exact this
  have h7 : ¬ nI (m + 2) < 2 := nI_nlt (b := 2) (by omega) (by omega)
  have h8 : (0 : Int32) ≤ nI (tok o) := nI_pos' (by omega)
  have h9 : vp_in (nI m) 40 := vp_in_nI (by omega) (by decide)
  have h10 : (nI m).toNatClampNeg = m := nI_clamp (by omega)
  have h11 : nI (m + 1) - 1 = nI m := nI_pred m
  have h12 : nI (m + 2) + (-1) = nI (m + 1) := pk_m1 (m + 1)
  have h13 : ¬ nI (tok o) = 57 := fun z => by have := (nI_eq (b := 57) (by omega) (by decide)).mp z; omega
  have h14 : ¬ nI (tok o) = 26 := fun z => by have := (nI_eq (b := 26) (by omega) (by decide)).mp z; omega
  have h15 : vp_in (nI (m + 1)) 40 := vp_in_nI (by omega) (by decide)
  have h16 : (nI (m + 1)).toNatClampNeg = m + 1 := nI_clamp (by omega)
  refine ⟨jl o (zI s 42 0 m).toInt64 (zI s 42 0 (m + 1)).toInt64, ?_⟩
  simp only [b_L_valueOf_1, b_L_valueOf_4, b_L_valueOf_8, b_L_valueOf_9, qx, qe, qc, qil, reduceIte, Nat.reduceEqDiff, Nat.reduceLeDiff, Bool.false_eq_true, Nat.reduceAdd, Nat.reduceLT, List.length_cons, List.length_nil, or_self, or_false, false_or, or_true, true_or, and_self, and_true, true_and, and_false, false_and, not_true_eq_false, not_false_eq_true, Nat.zero_le, qz1, qz2, qz3, qz4, qz5, qz6, qz7, qz8, qz9, qz0, qz10, qz01, hT, h1, h2, h3, h4, h5, hto, hc, h6, h7, h8, h9, h10, h11, h12, h13, h14, h15, h16, s_joined _ _ o ho, nI_1]
  rfl
