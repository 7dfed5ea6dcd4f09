theorem qk_getD {α : Type} (l : List α) (d : α) {n : Nat} (h : l.length ≤ n) : l.getD n d = d := by
  rw [List.getD_eq_getElem?_getD, List.getElem?_eq_none h]
  rfl
theorem qk_small : ∀ m, m < 241 → qk_m m = true := by
  intro m hm
  by_cases h0 : m < 12
  · exact qk_0 m (by simp only [List.mem_cons, List.not_mem_nil, or_false]; omega)
  by_cases h1 : m < 24
  · exact qk_1 m (by simp only [List.mem_cons, List.not_mem_nil, or_false]; omega)
  by_cases h2 : m < 36
  · exact qk_2 m (by simp only [List.mem_cons, List.not_mem_nil, or_false]; omega)
  by_cases h3 : m < 48
  · exact qk_3 m (by simp only [List.mem_cons, List.not_mem_nil, or_false]; omega)
  by_cases h4 : m < 60
  · exact qk_4 m (by simp only [List.mem_cons, List.not_mem_nil, or_false]; omega)
  by_cases h5 : m < 72
  · exact qk_5 m (by simp only [List.mem_cons, List.not_mem_nil, or_false]; omega)
  by_cases h6 : m < 84
  · exact qk_6 m (by simp only [List.mem_cons, List.not_mem_nil, or_false]; omega)
  by_cases h7 : m < 96
  · exact qk_7 m (by simp only [List.mem_cons, List.not_mem_nil, or_false]; omega)
  by_cases h8 : m < 108
  · exact qk_8 m (by simp only [List.mem_cons, List.not_mem_nil, or_false]; omega)
  by_cases h9 : m < 120
  · exact qk_9 m (by simp only [List.mem_cons, List.not_mem_nil, or_false]; omega)
  by_cases h10 : m < 132
  · exact qk_10 m (by simp only [List.mem_cons, List.not_mem_nil, or_false]; omega)
  by_cases h11 : m < 144
  · exact qk_11 m (by simp only [List.mem_cons, List.not_mem_nil, or_false]; omega)
  by_cases h12 : m < 156
  · exact qk_12 m (by simp only [List.mem_cons, List.not_mem_nil, or_false]; omega)
  by_cases h13 : m < 168
  · exact qk_13 m (by simp only [List.mem_cons, List.not_mem_nil, or_false]; omega)
  by_cases h14 : m < 180
  · exact qk_14 m (by simp only [List.mem_cons, List.not_mem_nil, or_false]; omega)
  by_cases h15 : m < 192
  · exact qk_15 m (by simp only [List.mem_cons, List.not_mem_nil, or_false]; omega)
  by_cases h16 : m < 204
  · exact qk_16 m (by simp only [List.mem_cons, List.not_mem_nil, or_false]; omega)
  by_cases h17 : m < 216
  · exact qk_17 m (by simp only [List.mem_cons, List.not_mem_nil, or_false]; omega)
  by_cases h18 : m < 228
  · exact qk_18 m (by simp only [List.mem_cons, List.not_mem_nil, or_false]; omega)
  by_cases h19 : m < 240
  · exact qk_19 m (by simp only [List.mem_cons, List.not_mem_nil, or_false]; omega)
  by_cases h20 : m < 241
  · exact qk_20 m (by simp only [List.mem_cons, List.not_mem_nil, or_false]; omega)
  omega
theorem qk_ok : ∀ m b, qm_blk m b = [] ∨ qk_blk m (qm_bpc m b) (qm_blk m b) = true := by
  intro m b
  by_cases hm : m < 241
  · have h := qk_small m hm
    simp only [qk_m, Bool.and_eq_true, List.all_eq_true, List.mem_range] at h
    by_cases hb : b < ((qm_code.getD m (0, [])).2.length)
    · exact Or.inr (h.1 b hb)
    · refine Or.inl ?_
      show ((qm_code.getD m (0, [])).2.getD b []) = []
      rw [qk_getD _ _ (by omega)]
  · by_cases hm2 : m = 241
    · subst hm2
      by_cases hb : b < 40
      · refine Or.inr ?_
        match b, hb with
        | 0, _ => exact ql_0
        | 1, _ => exact ql_1
        | 2, _ => exact ql_2
        | 3, _ => exact ql_3
        | 4, _ => exact ql_4
        | 5, _ => exact ql_5
        | 6, _ => exact ql_6
        | 7, _ => exact ql_7
        | 8, _ => exact ql_8
        | 9, _ => exact ql_9
        | 10, _ => exact ql_10
        | 11, _ => exact ql_11
        | 12, _ => exact ql_12
        | 13, _ => exact ql_13
        | 14, _ => exact ql_14
        | 15, _ => exact ql_15
        | 16, _ => exact ql_16
        | 17, _ => exact ql_17
        | 18, _ => exact ql_18
        | 19, _ => exact ql_19
        | 20, _ => exact ql_20
        | 21, _ => exact ql_21
        | 22, _ => exact ql_22
        | 23, _ => exact ql_23
        | 24, _ => exact ql_24
        | 25, _ => exact ql_25
        | 26, _ => exact ql_26
        | 27, _ => exact ql_27
        | 28, _ => exact ql_28
        | 29, _ => exact ql_29
        | 30, _ => exact ql_30
        | 31, _ => exact ql_31
        | 32, _ => exact ql_32
        | 33, _ => exact ql_33
        | 34, _ => exact ql_34
        | 35, _ => exact ql_35
        | 36, _ => exact ql_36
        | 37, _ => exact ql_37
        | 38, _ => exact ql_38
        | 39, _ => exact ql_39
        | b + 40, hb => omega
      · refine Or.inl ?_
        show ((qm_code.getD 241 (0, [])).2.getD b []) = []
        exact qk_getD _ _ (by show (cd_W_law).length ≤ b; exact Nat.le_trans (by decide) (Nat.not_lt.mp hb))
    · refine Or.inl ?_
      show ((qm_code.getD m (0, [])).2.getD b []) = []
      have hz : qm_code.getD m (0, []) = (0, []) := qk_getD _ _ (Nat.le_trans (show qm_code.length ≤ 242 by decide +kernel) (show 242 ≤ m by omega))
      rw [hz]
      rfl
theorem qk_maxL : ∀ m, m < 241 → qm_maxL m ≤ 30 := fun m hm => by
  have h := qk_small m hm
  simp only [qk_m, Bool.and_eq_true, decide_eq_true_eq] at h
  exact h.2
