/-! the reference's token against the class's -/
def TT (T t : Nat) : Prop := ((T < 30 ∨ T = 42) ∧ t = 2) ∨ (T = 41 ∧ t = 0) ∨ (T = 40 ∧ t = 1) ∨ (T = 42 ∧ t = 3) ∨ (T = 44 ∧ t = 4) ∨ (T = 46 ∧ t = 5) ∨ (T = 43 ∧ t = 60) ∨ (T = 45 ∧ t = 62) ∨ (T = 47 ∧ t = 61) ∨ (T = 48 ∧ t = 35) ∨ (T = 49 ∧ t = 43) ∨ (T = 50 ∧ t = 45) ∨ (T = 51 ∧ t = 42) ∨ (T = 52 ∧ t = 47) ∨ (T = 53 ∧ t = 40) ∨ (T = 54 ∧ t = 41) ∨ (T = 55 ∧ t = 44) ∨ (T = 56 ∧ t = 59)
def RK (T V : Nat) (x : qm_Hp) : Prop := ∃ t, zI x 9 0 10 = nI t ∧ TT T t ∧ (t = 1 → ∃ n, zI x 9 0 11 = nI n ∧ n ≤ 2000000 ∧ ((n = V ∧ V ≤ 9999) ∨ (9999 < n ∧ V = 10000))) ∧ (t = 2 → ∀ k, k < 30 → (zL x 9 0 12 = wdK k ↔ T = k))
theorem rvn_le (B : Nat → Nat) (hB : ∀ j, isD (B j) = true → B j ≤ 57) : ∀ n j v, v ≤ 1000000 → rvn B n j v ≤ 1000009
  | 0, _, v, h => by show v ≤ _; omega
  | n + 1, j, v, h => by
    unfold rvn
    by_cases q : isD (B j) = true
    · rw [if_pos q]
      have := hB j q
      by_cases c : v < 100000
      · rw [if_pos c]; exact rvn_le B hB n (j + 1) _ (by omega)
      · rw [if_neg c]; exact rvn_le B hB n (j + 1) _ h
    · rw [if_neg q]; omega
theorem wo_30 {B : Nat → Nat} {f e : Nat} (he : f ≤ e) : wo B f e qm_str 0 0 true < 30 ∨ wo B f e qm_str 0 0 true = 42 := by
  have e1 : wo B f e qm_str 0 0 true = wk (gl B f (e - f)) WS 0 := by rw [str_WS]; exact wo_wk he WS 0 WS_32
  rw [e1]
  rcases wk_or (gl B f (e - f)) WS 0 with h | ⟨i, h1, h2, _⟩
  · exact Or.inr h
  · rw [WS_n] at h1
    exact Or.inl (by omega)
def sgt (T : Nat) : Nat := [3, 60, 4, 62, 5, 61, 35, 43, 45, 42, 47, 40, 41, 44, 59].getD (T - 42) 0
theorem sg_l : ∀ b, b < 256 → ¬ isD b = true → ¬ isL b = true → (42 ≤ sgn b ∧ sgn b ≤ 56 ∧ sgn b ≠ 44 ∧ sgn b ≠ 46) ∧ (if sgb b = 13 then 3 else b) = sgt (sgn b) := by decide +kernel
theorem TT_l {T t : Nat} (h1 : (42 ≤ T ∧ T ≤ 56 ∧ T ≠ 44 ∧ T ≠ 46) ∧ t = sgt T) : TT T t := by
  obtain ⟨h1, h2⟩ := h1
  unfold TT
  rcases (by omega : T = 42 ∨ T = 43 ∨ T = 45 ∨ T = 47 ∨ T = 48 ∨ T = 49 ∨ T = 50 ∨ T = 51 ∨ T = 52 ∨ T = 53 ∨ T = 54 ∨ T = 55 ∨ T = 56) with h | h | h | h | h | h | h | h | h | h | h | h | h <;> subst h
  · exact Or.inr (Or.inr (Or.inr (Or.inl ⟨rfl, h2⟩)))
  · exact Or.inr (Or.inr (Or.inr (Or.inr (Or.inr (Or.inr (Or.inl ⟨rfl, h2⟩))))))
  · exact Or.inr (Or.inr (Or.inr (Or.inr (Or.inr (Or.inr (Or.inr (Or.inl ⟨rfl, h2⟩)))))))
  · exact Or.inr (Or.inr (Or.inr (Or.inr (Or.inr (Or.inr (Or.inr (Or.inr (Or.inl ⟨rfl, h2⟩))))))))
  · exact Or.inr (Or.inr (Or.inr (Or.inr (Or.inr (Or.inr (Or.inr (Or.inr (Or.inr (Or.inl ⟨rfl, h2⟩)))))))))
  · exact Or.inr (Or.inr (Or.inr (Or.inr (Or.inr (Or.inr (Or.inr (Or.inr (Or.inr (Or.inr (Or.inl ⟨rfl, h2⟩))))))))))
  · exact Or.inr (Or.inr (Or.inr (Or.inr (Or.inr (Or.inr (Or.inr (Or.inr (Or.inr (Or.inr (Or.inr (Or.inl ⟨rfl, h2⟩)))))))))))
  · exact Or.inr (Or.inr (Or.inr (Or.inr (Or.inr (Or.inr (Or.inr (Or.inr (Or.inr (Or.inr (Or.inr (Or.inr (Or.inl ⟨rfl, h2⟩))))))))))))
  · exact Or.inr (Or.inr (Or.inr (Or.inr (Or.inr (Or.inr (Or.inr (Or.inr (Or.inr (Or.inr (Or.inr (Or.inr (Or.inr (Or.inl ⟨rfl, h2⟩)))))))))))))
  · exact Or.inr (Or.inr (Or.inr (Or.inr (Or.inr (Or.inr (Or.inr (Or.inr (Or.inr (Or.inr (Or.inr (Or.inr (Or.inr (Or.inr (Or.inl ⟨rfl, h2⟩))))))))))))))
  · exact Or.inr (Or.inr (Or.inr (Or.inr (Or.inr (Or.inr (Or.inr (Or.inr (Or.inr (Or.inr (Or.inr (Or.inr (Or.inr (Or.inr (Or.inr (Or.inl ⟨rfl, h2⟩)))))))))))))))
  · exact Or.inr (Or.inr (Or.inr (Or.inr (Or.inr (Or.inr (Or.inr (Or.inr (Or.inr (Or.inr (Or.inr (Or.inr (Or.inr (Or.inr (Or.inr (Or.inr (Or.inl ⟨rfl, h2⟩))))))))))))))))
  · exact Or.inr (Or.inr (Or.inr (Or.inr (Or.inr (Or.inr (Or.inr (Or.inr (Or.inr (Or.inr (Or.inr (Or.inr (Or.inr (Or.inr (Or.inr (Or.inr (Or.inr ⟨rfl, h2⟩))))))))))))))))
theorem sg_12 : ∀ b, b < 256 → ¬ isD b = true → ¬ isL b = true → (if sgb b = 13 then 3 else b) ≠ 1 ∧ (if sgb b = 13 then 3 else b) ≠ 2 := by decide +kernel
theorem RTK_RK {B : Nat → Nat} {L p : Nat} {x : qm_Hp} (hb : ∀ j, j < L → B j < 256) (h : RTK B L p x) : RK (tk0 B L p).1 (tk0 B L p).2.1 x := by
  obtain ⟨h9, h8, h10, h11, h12⟩ := h
  by_cases q : L ≤ p
  · have er : rtk B L p = 0 := by unfold rtk; rw [if_pos q]
    have et : tk0 B L p = (41, 0, p) := by unfold tk0; rw [if_pos q]
    rw [er] at h10
    rw [et]
    exact ⟨0, h10, Or.inr (Or.inl ⟨rfl, rfl⟩), fun g => absurd g (by decide), fun g => absurd g (by decide)⟩
  · by_cases hd : isD (B p) = true
    · have hl : ¬ isL (B p) = true := fun g => isLD g hd
      have er : rtk B L p = 1 := by unfold rtk; rw [if_neg q, if_pos hd]
      have et : tk0 B L p = (40, nv B (L - p) p 0, rwn B isD (L - p) p) := by unfold tk0; rw [if_neg q, if_neg hl, if_pos hd]
      rw [et]
      refine ⟨1, by rw [h10, er], Or.inr (Or.inr (Or.inl ⟨rfl, rfl⟩)), fun _ => ⟨_, h11 er, ?_, ?_⟩, fun g => absurd g (by decide)⟩
      · have := rvn_le B (fun j g => (of_decide_eq_true g : 48 ≤ B j ∧ B j ≤ 57).2) (L - p) p 0 (by decide)
        omega
      · exact rvn_nv B (L - p) p 0 0 (Or.inl ⟨rfl, by decide⟩)
    · by_cases hl : isL (B p) = true
      · have er : rtk B L p = 2 := by unfold rtk; rw [if_neg q, if_neg hd, if_pos hl]
        have et : (tk0 B L p).1 = wo B p (rwn B isL (L - p) p) qm_str 0 0 true := by unfold tk0; rw [if_neg q, if_pos hl]
        refine ⟨2, by rw [h10, er], Or.inl ⟨by rw [et]; exact wo_30 (rwn_b B isL (L - p) p).1, rfl⟩, fun g => absurd g (by decide), fun _ k hk => ?_⟩
        rw [h12 er]
        exact wd_iff (by omega) hl hk
      · by_cases h1 : (p + 1 < L ∧ B (p + 1) = 61) ∧ B p = 60
        · have er : rtk B L p = 4 := by unfold rtk; rw [if_neg q, if_neg hd, if_neg hl, if_pos h1]
          have et : tk0 B L p = (44, 0, p + 2) := by unfold tk0; rw [if_neg q, if_neg hl, if_neg hd, if_pos h1]
          rw [et]
          exact ⟨4, by rw [h10, er], Or.inr (Or.inr (Or.inr (Or.inr (Or.inl ⟨rfl, rfl⟩)))), fun g => absurd g (by decide), fun g => absurd g (by decide)⟩
        · by_cases h2 : (p + 1 < L ∧ B (p + 1) = 61) ∧ B p = 62
          · have er : rtk B L p = 5 := by unfold rtk; rw [if_neg q, if_neg hd, if_neg hl, if_neg h1, if_pos h2]
            have et : tk0 B L p = (46, 0, p + 2) := by unfold tk0; rw [if_neg q, if_neg hl, if_neg hd, if_neg h1, if_pos h2]
            rw [et]
            exact ⟨5, by rw [h10, er], Or.inr (Or.inr (Or.inr (Or.inr (Or.inr (Or.inl ⟨rfl, rfl⟩))))), fun g => absurd g (by decide), fun g => absurd g (by decide)⟩
          · have er : rtk B L p = if sgb (B p) = 13 then 3 else B p := by unfold rtk; rw [if_neg q, if_neg hd, if_neg hl, if_neg h1, if_neg h2]
            have et : tk0 B L p = (sgn (B p), 0, p + 1) := by unfold tk0; rw [if_neg q, if_neg hl, if_neg hd, if_neg h1, if_neg h2]
            have tt := TT_l (sg_l (B p) (hb p (by omega)) hd hl)
            have s12 := sg_12 (B p) (hb p (by omega)) hd hl
            rw [et]
            rw [er] at h10
            generalize (if sgb (B p) = 13 then 3 else B p) = t at *
            exact ⟨t, h10, tt, fun g => absurd g s12.1, fun g => absurd g s12.2⟩
