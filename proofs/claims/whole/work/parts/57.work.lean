/-! the reference's clause worked out -/
def bd (x : Int32) : Prop := -1000000 ≤ x.toInt ∧ x.toInt ≤ 1000000
theorem lM : (1000000 : Int64).toInt = 1000000 := rfl
theorem lm : (-1000000 : Int64).toInt = -1000000 := rfl
theorem l32 {z : Int64} (h1 : -1000000 ≤ z.toInt) (h2 : z.toInt ≤ 1000000) : z.toInt32.toInt = z.toInt := by
  rw [Int64.toInt_toInt32]
  exact fb_bmod (by omega) (by omega)
theorem cpC_clip (z : Int64) : (cpC z).toInt64 = if 1000000 < z then 1000000 else if z < -1000000 then -1000000 else z := by
  unfold cpC
  have hM : (1000000 : Int64).toInt = 1000000 := rfl
  have hm : (-1000000 : Int64).toInt = -1000000 := rfl
  by_cases h1 : 1000000 < z
  · rw [if_pos h1]
    rw [fa_lt64, hM] at h1
    have h2 : ¬ z < 1000000 := by rw [fa_lt64, hM]; omega
    rw [if_neg h2]
    rfl
  · rw [if_neg h1]
    rw [fa_lt64, hM] at h1
    by_cases h3 : z < 1000000
    · rw [if_pos h3]
      by_cases h4 : z < -1000000
      · rw [if_pos h4]
        rfl
      · rw [if_neg h4]
        rw [fa_lt64, hm] at h4
        rw [fa_eq64, Int32.toInt_toInt64]
        exact l32 (by omega) (by omega)
    · rw [if_neg h3]
      rw [fa_lt64, hM] at h3
      have e : z = 1000000 := by rw [fa_eq64, hM]; omega
      subst e
      rfl
theorem cpC_bd (z : Int64) : bd (cpC z) := by
  have h : (cpC z).toInt = (cpC z).toInt64.toInt := (Int32.toInt_toInt64 _).symm
  unfold bd
  rw [h, cpC_clip]
  by_cases h1 : 1000000 < z
  · rw [if_pos h1, lM]; omega
  · rw [if_neg h1]
    rw [fa_lt64, lM] at h1
    by_cases h2 : z < -1000000
    · rw [if_pos h2, lm]; omega
    · rw [if_neg h2]
      rw [fa_lt64, lm] at h2
      omega
theorem j2_bd (o : Nat) (x y : Int32) : bd (j2 o x y) := cpC_bd _
theorem cpC_id {x : Int32} (h : bd x) : cpC x.toInt64 = x := by
  have e := cpC_clip x.toInt64
  unfold bd at h
  rw [if_neg (by rw [fa_lt64, lM, Int32.toInt_toInt64]; omega), if_neg (by rw [fa_lt64, lm, Int32.toInt_toInt64]; omega)] at e
  exact (fa_wide_eq _ _).mp e
theorem cpC_if_same (x : Int64) : (if x < x then x else x) = x := by
  by_cases h : x < x
  · rw [if_pos h]
  · rw [if_neg h]
theorem cpC_if (c : Prop) [Decidable c] : cpC (if c then 1 else 0) = if c then 1 else 0 := by
  by_cases h : c
  · rw [if_pos h, if_pos h]; rfl
  · rw [if_neg h, if_neg h]; rfl
theorem m_two (d : Nat) (s : qm_Hp) (o : Nat) (ho : 3 ≤ o ∧ o ≤ 8) (x y : Int32) (hx : bd x) (hy : bd y) : qm_evM (d + 1) jM_two [qI (nI o), qL x.toInt64, qL y.toInt64] s = some (some (qL (j2 o x y).toInt64), s) := by
  have h : o = 3 ∨ o = 4 ∨ o = 5 ∨ o = 6 ∨ o = 7 ∨ o = 8 := by omega
  unfold j2
  rcases h with h | h | h | h | h | h <;> subst h
  · rw [cpC_clip]; exact m_two_3 d s _ _
  · rw [cpC_clip]; exact m_two_4 d s _ _
  · rw [cpC_clip]; exact m_two_5 d s _ _
  · rw [cpC_clip]
    refine (m_two_6 d s _ _).trans ?_
    show _ = some (some (qL (if 1000000 < (if y.toInt64 = 0 then 0 else x.toInt64 / y.toInt64) then 1000000 else if (if y.toInt64 = 0 then 0 else x.toInt64 / y.toInt64) < -1000000 then -1000000 else (if y.toInt64 = 0 then 0 else x.toInt64 / y.toInt64))), s)
    by_cases hb : y.toInt64 = 0
    · rw [if_pos hb, if_pos hb]; rfl
    · rw [if_neg hb, if_neg hb]
  · refine (m_two_7 d s _ _).trans ?_
    show _ = some (some (qL (cpC (if y.toInt64 < x.toInt64 then y.toInt64 else x.toInt64)).toInt64), s)
    rcases fb_three x.toInt64 y.toInt64 with q | q | q
    · have q2 : ¬ y.toInt64 < x.toInt64 := by rw [fa_lt64] at *; omega
      rw [if_pos q, if_neg q2, cpC_id hx]
    · rw [q, cpC_if_same, cpC_id hy]
    · have q2 : ¬ x.toInt64 < y.toInt64 := by rw [fa_lt64] at *; omega
      rw [if_neg q2, if_pos q, cpC_id hy]
  · refine (m_two_8 d s _ _).trans ?_
    show _ = some (some (qL (cpC (if y.toInt64 < x.toInt64 then x.toInt64 else y.toInt64)).toInt64), s)
    by_cases q : y.toInt64 < x.toInt64
    · rw [if_pos q, cpC_id hx]
    · rw [if_neg q, cpC_id hy]
theorem m_asked (d : Nat) (s : qm_Hp) (o : Nat) (ho : 10 ≤ o ∧ o ≤ 15) (x y : Int32) : qm_evM d jM_isAsked [qI (nI o), qL x.toInt64, qL y.toInt64] s = some (some (qI (j2 o x y)), s) := by
  have h : o = 10 ∨ o = 11 ∨ o = 12 ∨ o = 13 ∨ o = 14 ∨ o = 15 := by omega
  unfold j2
  rcases h with h | h | h | h | h | h <;> subst h
  · exact (m_ask_10 d s _ _).trans (by rw [show jl 10 x.toInt64 y.toInt64 = if x.toInt64 < y.toInt64 then 1 else 0 from rfl, cpC_if])
  · exact (m_ask_11 d s _ _).trans (by rw [show jl 11 x.toInt64 y.toInt64 = if x.toInt64 ≤ y.toInt64 then 1 else 0 from rfl, cpC_if])
  · exact (m_ask_12 d s _ _).trans (by rw [show jl 12 x.toInt64 y.toInt64 = if y.toInt64 < x.toInt64 then 1 else 0 from rfl, cpC_if])
  · exact (m_ask_13 d s _ _).trans (by rw [show jl 13 x.toInt64 y.toInt64 = if y.toInt64 ≤ x.toInt64 then 1 else 0 from rfl, cpC_if])
  · exact (m_ask_14 d s _ _).trans (by rw [show jl 14 x.toInt64 y.toInt64 = if x.toInt64 = y.toInt64 then 1 else 0 from rfl, cpC_if])
  · refine (m_ask_15 d s _ _).trans ?_
    rw [show jl 15 x.toInt64 y.toInt64 = if x.toInt64 = y.toInt64 then 0 else 1 from rfl]
    by_cases q : x.toInt64 = y.toInt64
    · rw [if_pos q, if_neg (fun z => z q)]; rfl
    · rw [if_neg q, if_pos q]; rfl
theorem j2_01 (o : Nat) (ho : 10 ≤ o ∧ o ≤ 15) (x y : Int32) : j2 o x y = 0 ∨ j2 o x y = 1 := by
  have h : o = 10 ∨ o = 11 ∨ o = 12 ∨ o = 13 ∨ o = 14 ∨ o = 15 := by omega
  have k : ∀ (c : Prop) [Decidable c], cpC (if c then 1 else 0) = 0 ∨ cpC (if c then 1 else 0) = 1 := fun c _ => by
    rw [cpC_if]
    by_cases q : c
    · rw [if_pos q]; exact Or.inr rfl
    · rw [if_neg q]; exact Or.inl rfl
  unfold j2
  rcases h with h | h | h | h | h | h <;> subst h
  · exact k _
  · exact k _
  · exact k _
  · exact k _
  · exact k _
  · rw [show jl 15 x.toInt64 y.toInt64 = if x.toInt64 = y.toInt64 then 0 else 1 from rfl]
    by_cases q : x.toInt64 = y.toInt64
    · rw [if_pos q]; exact Or.inl rfl
    · rw [if_neg q]; exact Or.inr rfl
theorem j2_bool (o : Nat) (ho : o = 21 ∨ o = 22) (x y : Int32) (hx : x = 0 ∨ x = 1) (hy : y = 0 ∨ y = 1) : j2 o x y = if o = 21 then (if x = 0 then 0 else y) else (if x = 0 then y else 1) := by
  rcases ho with rfl | rfl <;> rcases hx with rfl | rfl <;> rcases hy with rfl | rfl <;> decide
theorem neg64 {x : Int32} (h : bd x) : -(x.toInt64) = (-x).toInt64 := by
  unfold bd at h
  rw [fa_eq64, Int32.toInt_toInt64, fb_negI (by omega), Int64.toInt_neg, Int32.toInt_toInt64]
  exact fb_bmodL (by omega) (by omega)
theorem neg_bd {x : Int32} (h : bd x) : bd (-x) := by
  unfold bd at *
  rw [fb_negI (by omega)]
  omega
