/-! the law: its loop -/
theorem b_or (a : Int32) : ∃ u, ((a = nI 0 ∧ u = 0) ∨ (¬ a = nI 0 ∧ u = 1)) ∧ (u = 0 ∨ u = 1) := by
  by_cases q : a = nI 0
  · exact ⟨0, Or.inl ⟨q, rfl⟩, Or.inl rfl⟩
  · exact ⟨1, Or.inr ⟨q, rfl⟩, Or.inr rfl⟩
def LWS (D w len i : Nat) (s : qm_Hp) : Prop := ∃ s', qm_evB (D + 1) jW_law 0 [qP 80 0, qP 1 0, qP 9 0, qI (nI i)] [] s = qm_evB (D + 1) jW_law 0 [qP 80 0, qP 1 0, qP 9 0, qI (nI (i + 6))] [] s' ∧ GG s' w ∧ zI s' 82 0 0 = nI len
theorem lw_x {D w len i : Nat} {s s1 s2 : qm_Hp} (hG : GG s w) (h82 : zI s 82 0 0 = nI len) (G2 : GG s2 w) (F1 : fp CP s s1) (F2 : fp MP s1 s2) (e : qm_evB (D + 1) jW_law 0 [qP 80 0, qP 1 0, qP 9 0, qI (nI i)] [] s = qm_evB (D + 1) jW_law 0 [qP 80 0, qP 1 0, qP 9 0, qI (nI (i + 6))] [] s2) : LWS D w len i s := ⟨s2, e, G2, (F2.1 82 0 0 (by unfold MP; omega)).trans ((F1.1 82 0 0 (by unfold CP; omega)).trans h82)⟩
theorem lw_step (d : Nat) {w len i : Nat} {s : qm_Hp} (hG : GG s w) (hi : i + 6 ≤ len) (hl : len ≤ 3073) (h82 : zI s 82 0 0 = nI len) : LWS (d + 200) w len i s := by
  obtain ⟨k, hk, ek⟩ := and31 (zI s 80 0 i)
  have e0 := lw_0 (d + 200) hi hl h82 ek
  clear ek
  by_cases q : k < 29
  · rcases (by omega : k = 0 ∨ k = 1 ∨ k = 2 ∨ k = 3 ∨ k = 4 ∨ k = 5 ∨ k = 6 ∨ k = 7 ∨ k = 8 ∨ k = 9 ∨ k = 10 ∨ k = 11 ∨ k = 12 ∨ k = 13 ∨ k = 14 ∨ k = 15 ∨ k = 16 ∨ k = 17 ∨ k = 18 ∨ k = 19 ∨ k = 20 ∨ k = 21 ∨ k = 22 ∨ k = 23 ∨ k = 24 ∨ k = 25 ∨ k = 26 ∨ k = 27 ∨ k = 28) with g | g | g | g | g | g | g | g | g | g | g | g | g | g | g | g | g | g | g | g | g | g | g | g | g | g | g | g | g <;> subst g
    · have hs : qm_sw [1, 2, 7, 8, 9, 10, 11, 16, 17, 18, 19, 20, 21, 22, 23, 24, 25, 26, 27, 28, 29, 30, 31, 32, 33, 34, 35, 36, 37] 0 (nI 0) 38 = 1 := by decide
      rw [hs] at e0
      obtain ⟨r, s1, s2, c, m, G2, F1, F2⟩ := st_lay (d + 160) (zI s 80 0 (i + 1)) (zI s 80 0 (i + 2)) (zI s 80 0 (i + 3)) (zI s 80 0 (i + 4)) s w hG
      exact lw_x hG h82 G2 F1 F2 (e0.trans (lw_lay (d + 200) hi hl h82 ((F1.1 82 0 0 (by unfold CP; omega)).trans h82) rfl (F1.1 80 0 _ (by unfold CP; omega)) rfl (F1.1 80 0 _ (by unfold CP; omega)) rfl (F1.1 80 0 _ (by unfold CP; omega)) rfl (F1.1 80 0 _ (by unfold CP; omega)) c m))
    · have hs : qm_sw [1, 2, 7, 8, 9, 10, 11, 16, 17, 18, 19, 20, 21, 22, 23, 24, 25, 26, 27, 28, 29, 30, 31, 32, 33, 34, 35, 36, 37] 0 (nI 1) 38 = 2 := by decide
      rw [hs] at e0
      obtain ⟨u, hu, hu1⟩ := b_or (zI s 80 0 (i + 3))
      obtain ⟨r, s1, s2, c, m, G2, F1, F2⟩ := st_bark (d + 160) (zI s 80 0 (i + 1)) (zI s 80 0 (i + 2)) u hu1 s w hG
      exact lw_x hG h82 G2 F1 F2 (e0.trans (lw_bark (d + 200) hu hi hl h82 ((F1.1 82 0 0 (by unfold CP; omega)).trans h82) rfl (F1.1 80 0 _ (by unfold CP; omega)) rfl (F1.1 80 0 _ (by unfold CP; omega)) rfl (F1.1 80 0 _ (by unfold CP; omega)) c m))
    · have hs : qm_sw [1, 2, 7, 8, 9, 10, 11, 16, 17, 18, 19, 20, 21, 22, 23, 24, 25, 26, 27, 28, 29, 30, 31, 32, 33, 34, 35, 36, 37] 0 (nI 2) 38 = 7 := by decide
      rw [hs] at e0
      obtain ⟨r, s1, s2, c, m, G2, F1, F2⟩ := st_measure (d + 160) (zI s 80 0 (i + 1)) (zI s 80 0 (i + 2)) (zI s 80 0 (i + 3)) (zI s 80 0 (i + 4)) s w hG
      exact lw_x hG h82 G2 F1 F2 (e0.trans (lw_measure (d + 200) hi hl h82 ((F1.1 82 0 0 (by unfold CP; omega)).trans h82) rfl (F1.1 80 0 _ (by unfold CP; omega)) rfl (F1.1 80 0 _ (by unfold CP; omega)) rfl (F1.1 80 0 _ (by unfold CP; omega)) rfl (F1.1 80 0 _ (by unfold CP; omega)) c m))
    · have hs : qm_sw [1, 2, 7, 8, 9, 10, 11, 16, 17, 18, 19, 20, 21, 22, 23, 24, 25, 26, 27, 28, 29, 30, 31, 32, 33, 34, 35, 36, 37] 0 (nI 3) 38 = 8 := by decide
      rw [hs] at e0
      obtain ⟨r, s1, s2, c, m, G2, F1, F2⟩ := st_span (d + 160) (zI s 80 0 (i + 1)) (zI s 80 0 (i + 2)) (zI s 80 0 (i + 3)) s w hG
      exact lw_x hG h82 G2 F1 F2 (e0.trans (lw_span (d + 200) hi hl h82 ((F1.1 82 0 0 (by unfold CP; omega)).trans h82) rfl (F1.1 80 0 _ (by unfold CP; omega)) rfl (F1.1 80 0 _ (by unfold CP; omega)) rfl (F1.1 80 0 _ (by unfold CP; omega)) c m))
    · have hs : qm_sw [1, 2, 7, 8, 9, 10, 11, 16, 17, 18, 19, 20, 21, 22, 23, 24, 25, 26, 27, 28, 29, 30, 31, 32, 33, 34, 35, 36, 37] 0 (nI 4) 38 = 9 := by decide
      rw [hs] at e0
      obtain ⟨r, s1, s2, c, m, G2, F1, F2⟩ := st_weather (d + 160) (zI s 80 0 (i + 1)) (zI s 80 0 (i + 2)) (zI s 80 0 (i + 3)) (zI s 80 0 (i + 4)) s w hG
      exact lw_x hG h82 G2 F1 F2 (e0.trans (lw_weather (d + 200) hi hl h82 ((F1.1 82 0 0 (by unfold CP; omega)).trans h82) rfl (F1.1 80 0 _ (by unfold CP; omega)) rfl (F1.1 80 0 _ (by unfold CP; omega)) rfl (F1.1 80 0 _ (by unfold CP; omega)) rfl (F1.1 80 0 _ (by unfold CP; omega)) c m))
    · have hs : qm_sw [1, 2, 7, 8, 9, 10, 11, 16, 17, 18, 19, 20, 21, 22, 23, 24, 25, 26, 27, 28, 29, 30, 31, 32, 33, 34, 35, 36, 37] 0 (nI 5) 38 = 10 := by decide
      rw [hs] at e0
      obtain ⟨r, s1, s2, c, m, G2, F1, F2⟩ := st_plan (d + 160) (zI s 80 0 (i + 1)) (zI s 80 0 (i + 2)) s w hG
      exact lw_x hG h82 G2 F1 F2 (e0.trans (lw_plan (d + 200) hi hl h82 ((F1.1 82 0 0 (by unfold CP; omega)).trans h82) rfl (F1.1 80 0 _ (by unfold CP; omega)) rfl (F1.1 80 0 _ (by unfold CP; omega)) c m))
    · have hs : qm_sw [1, 2, 7, 8, 9, 10, 11, 16, 17, 18, 19, 20, 21, 22, 23, 24, 25, 26, 27, 28, 29, 30, 31, 32, 33, 34, 35, 36, 37] 0 (nI 6) 38 = 11 := by decide
      rw [hs] at e0
      obtain ⟨u, hu, hu1⟩ := b_or (zI s 80 0 (i + 2))
      obtain ⟨r, s1, s2, c, m, G2, F1, F2⟩ := st_ends (d + 160) (zI s 80 0 (i + 1)) (zI s 80 0 (i + 3)) u hu1 s w hG
      exact lw_x hG h82 G2 F1 F2 (e0.trans (lw_ends (d + 200) hu hi hl h82 ((F1.1 82 0 0 (by unfold CP; omega)).trans h82) rfl (F1.1 80 0 _ (by unfold CP; omega)) rfl (F1.1 80 0 _ (by unfold CP; omega)) rfl (F1.1 80 0 _ (by unfold CP; omega)) c m))
    · have hs : qm_sw [1, 2, 7, 8, 9, 10, 11, 16, 17, 18, 19, 20, 21, 22, 23, 24, 25, 26, 27, 28, 29, 30, 31, 32, 33, 34, 35, 36, 37] 0 (nI 7) 38 = 16 := by decide
      rw [hs] at e0
      obtain ⟨r, s1, s2, c, m, G2, F1, F2⟩ := st_feed (d + 160) (zI s 80 0 (i + 1)) (zI s 80 0 (i + 2)) (zI s 80 0 (i + 3)) (zI s 80 0 (i + 4)) (zI s 80 0 (i + 5)) s w hG
      exact lw_x hG h82 G2 F1 F2 (e0.trans (lw_feed (d + 200) hi hl h82 ((F1.1 82 0 0 (by unfold CP; omega)).trans h82) rfl (F1.1 80 0 _ (by unfold CP; omega)) rfl (F1.1 80 0 _ (by unfold CP; omega)) rfl (F1.1 80 0 _ (by unfold CP; omega)) rfl (F1.1 80 0 _ (by unfold CP; omega)) rfl (F1.1 80 0 _ (by unfold CP; omega)) c m))
    · have hs : qm_sw [1, 2, 7, 8, 9, 10, 11, 16, 17, 18, 19, 20, 21, 22, 23, 24, 25, 26, 27, 28, 29, 30, 31, 32, 33, 34, 35, 36, 37] 0 (nI 8) 38 = 17 := by decide
      rw [hs] at e0
      obtain ⟨r, s1, s2, c, m, G2, F1, F2⟩ := st_end (d + 160) (zI s 80 0 (i + 1)) s w hG
      exact lw_x hG h82 G2 F1 F2 (e0.trans (lw_end (d + 200) hi hl h82 ((F1.1 82 0 0 (by unfold CP; omega)).trans h82) rfl (F1.1 80 0 _ (by unfold CP; omega)) c m))
    · have hs : qm_sw [1, 2, 7, 8, 9, 10, 11, 16, 17, 18, 19, 20, 21, 22, 23, 24, 25, 26, 27, 28, 29, 30, 31, 32, 33, 34, 35, 36, 37] 0 (nI 9) 38 = 18 := by decide
      rw [hs] at e0
      obtain ⟨r, s1, s2, c, m, G2, F1, F2⟩ := st_text (d + 0) s w hG
      exact lw_x hG h82 G2 F1 F2 (e0.trans (lw_text (d + 200) hi hl h82 ((F1.1 82 0 0 (by unfold CP; omega)).trans h82) c m))
    · have hs : qm_sw [1, 2, 7, 8, 9, 10, 11, 16, 17, 18, 19, 20, 21, 22, 23, 24, 25, 26, 27, 28, 29, 30, 31, 32, 33, 34, 35, 36, 37] 0 (nI 10) 38 = 19 := by decide
      rw [hs] at e0
      obtain ⟨r, s1, s2, c, m, G2, F1, F2⟩ := st_fault (d + 160) (zI s 80 0 (i + 1)) s w hG
      exact lw_x hG h82 G2 F1 F2 (e0.trans (lw_fault (d + 200) hi hl h82 ((F1.1 82 0 0 (by unfold CP; omega)).trans h82) rfl (F1.1 80 0 _ (by unfold CP; omega)) c m))
    · have hs : qm_sw [1, 2, 7, 8, 9, 10, 11, 16, 17, 18, 19, 20, 21, 22, 23, 24, 25, 26, 27, 28, 29, 30, 31, 32, 33, 34, 35, 36, 37] 0 (nI 11) 38 = 20 := by decide
      rw [hs] at e0
      obtain ⟨r, s1, s2, c, m, G2, F1, F2⟩ := st_by (d + 160) (zI s 80 0 (i + 1)) s w hG
      exact lw_x hG h82 G2 F1 F2 (e0.trans (lw_by (d + 200) hi hl h82 ((F1.1 82 0 0 (by unfold CP; omega)).trans h82) rfl (F1.1 80 0 _ (by unfold CP; omega)) c m))
    · have hs : qm_sw [1, 2, 7, 8, 9, 10, 11, 16, 17, 18, 19, 20, 21, 22, 23, 24, 25, 26, 27, 28, 29, 30, 31, 32, 33, 34, 35, 36, 37] 0 (nI 12) 38 = 21 := by decide
      rw [hs] at e0
      obtain ⟨r, s1, s2, c, m, G2, F1, F2⟩ := st_laid (d + 160) (zI s 80 0 (i + 1)) s w hG
      exact lw_x hG h82 G2 F1 F2 (e0.trans (lw_laid (d + 200) hi hl h82 ((F1.1 82 0 0 (by unfold CP; omega)).trans h82) rfl (F1.1 80 0 _ (by unfold CP; omega)) c m))
    · have hs : qm_sw [1, 2, 7, 8, 9, 10, 11, 16, 17, 18, 19, 20, 21, 22, 23, 24, 25, 26, 27, 28, 29, 30, 31, 32, 33, 34, 35, 36, 37] 0 (nI 13) 38 = 22 := by decide
      rw [hs] at e0
      obtain ⟨r, s1, s2, c, m, G2, F1, F2⟩ := st_of (d + 160) (zI s 80 0 (i + 1)) (zI s 80 0 (i + 2)) (zI s 80 0 (i + 3)) s w hG
      exact lw_x hG h82 G2 F1 F2 (e0.trans (lw_of (d + 200) hi hl h82 ((F1.1 82 0 0 (by unfold CP; omega)).trans h82) rfl (F1.1 80 0 _ (by unfold CP; omega)) rfl (F1.1 80 0 _ (by unfold CP; omega)) rfl (F1.1 80 0 _ (by unfold CP; omega)) c m))
    · have hs : qm_sw [1, 2, 7, 8, 9, 10, 11, 16, 17, 18, 19, 20, 21, 22, 23, 24, 25, 26, 27, 28, 29, 30, 31, 32, 33, 34, 35, 36, 37] 0 (nI 14) 38 = 23 := by decide
      rw [hs] at e0
      obtain ⟨r, s1, s2, c, m, G2, F1, F2⟩ := st_stack (d + 160) (zI s 80 0 (i + 1)) s w hG
      exact lw_x hG h82 G2 F1 F2 (e0.trans (lw_stack (d + 200) hi hl h82 ((F1.1 82 0 0 (by unfold CP; omega)).trans h82) rfl (F1.1 80 0 _ (by unfold CP; omega)) c m))
    · have hs : qm_sw [1, 2, 7, 8, 9, 10, 11, 16, 17, 18, 19, 20, 21, 22, 23, 24, 25, 26, 27, 28, 29, 30, 31, 32, 33, 34, 35, 36, 37] 0 (nI 15) 38 = 24 := by decide
      rw [hs] at e0
      obtain ⟨r, s1, s2, c, m, G2, F1, F2⟩ := st_week (d + 160) (zI s 80 0 (i + 1)) s w hG
      exact lw_x hG h82 G2 F1 F2 (e0.trans (lw_week (d + 200) hi hl h82 ((F1.1 82 0 0 (by unfold CP; omega)).trans h82) rfl (F1.1 80 0 _ (by unfold CP; omega)) c m))
    · have hs : qm_sw [1, 2, 7, 8, 9, 10, 11, 16, 17, 18, 19, 20, 21, 22, 23, 24, 25, 26, 27, 28, 29, 30, 31, 32, 33, 34, 35, 36, 37] 0 (nI 16) 38 = 25 := by decide
      rw [hs] at e0
      obtain ⟨r, s1, s2, c, m, G2, F1, F2⟩ := st_take (d + 160) (zI s 80 0 (i + 1)) s w hG
      exact lw_x hG h82 G2 F1 F2 (e0.trans (lw_take (d + 200) hi hl h82 ((F1.1 82 0 0 (by unfold CP; omega)).trans h82) rfl (F1.1 80 0 _ (by unfold CP; omega)) c m))
    · have hs : qm_sw [1, 2, 7, 8, 9, 10, 11, 16, 17, 18, 19, 20, 21, 22, 23, 24, 25, 26, 27, 28, 29, 30, 31, 32, 33, 34, 35, 36, 37] 0 (nI 17) 38 = 26 := by decide
      rw [hs] at e0
      obtain ⟨r, s1, s2, c, m, G2, F1, F2⟩ := st_order (d + 160) (zI s 80 0 (i + 1)) (zI s 80 0 (i + 2)) s w hG
      exact lw_x hG h82 G2 F1 F2 (e0.trans (lw_order (d + 200) hi hl h82 ((F1.1 82 0 0 (by unfold CP; omega)).trans h82) rfl (F1.1 80 0 _ (by unfold CP; omega)) rfl (F1.1 80 0 _ (by unfold CP; omega)) c m))
    · have hs : qm_sw [1, 2, 7, 8, 9, 10, 11, 16, 17, 18, 19, 20, 21, 22, 23, 24, 25, 26, 27, 28, 29, 30, 31, 32, 33, 34, 35, 36, 37] 0 (nI 18) 38 = 27 := by decide
      rw [hs] at e0
      obtain ⟨r, s1, s2, c, m, G2, F1, F2⟩ := st_way (d + 160) (zI s 80 0 (i + 1)) (zI s 80 0 (i + 2)) (zI s 80 0 (i + 3)) s w hG
      exact lw_x hG h82 G2 F1 F2 (e0.trans (lw_way (d + 200) hi hl h82 ((F1.1 82 0 0 (by unfold CP; omega)).trans h82) rfl (F1.1 80 0 _ (by unfold CP; omega)) rfl (F1.1 80 0 _ (by unfold CP; omega)) rfl (F1.1 80 0 _ (by unfold CP; omega)) c m))
    · have hs : qm_sw [1, 2, 7, 8, 9, 10, 11, 16, 17, 18, 19, 20, 21, 22, 23, 24, 25, 26, 27, 28, 29, 30, 31, 32, 33, 34, 35, 36, 37] 0 (nI 19) 38 = 28 := by decide
      rw [hs] at e0
      obtain ⟨r, s1, s2, c, m, G2, F1, F2⟩ := st_spans (d + 160) (zI s 80 0 (i + 1)) (zI s 80 0 (i + 2)) (zI s 80 0 (i + 3)) (zI s 80 0 (i + 4)) s w hG
      exact lw_x hG h82 G2 F1 F2 (e0.trans (lw_spans (d + 200) hi hl h82 ((F1.1 82 0 0 (by unfold CP; omega)).trans h82) rfl (F1.1 80 0 _ (by unfold CP; omega)) rfl (F1.1 80 0 _ (by unfold CP; omega)) rfl (F1.1 80 0 _ (by unfold CP; omega)) rfl (F1.1 80 0 _ (by unfold CP; omega)) c m))
    · have hs : qm_sw [1, 2, 7, 8, 9, 10, 11, 16, 17, 18, 19, 20, 21, 22, 23, 24, 25, 26, 27, 28, 29, 30, 31, 32, 33, 34, 35, 36, 37] 0 (nI 20) 38 = 29 := by decide
      rw [hs] at e0
      obtain ⟨r, s1, s2, c, m, G2, F1, F2⟩ := st_sure (d + 160) (zI s 80 0 (i + 1)) (zI s 80 0 (i + 2)) s w hG
      exact lw_x hG h82 G2 F1 F2 (e0.trans (lw_sure (d + 200) hi hl h82 ((F1.1 82 0 0 (by unfold CP; omega)).trans h82) rfl (F1.1 80 0 _ (by unfold CP; omega)) rfl (F1.1 80 0 _ (by unfold CP; omega)) c m))
    · have hs : qm_sw [1, 2, 7, 8, 9, 10, 11, 16, 17, 18, 19, 20, 21, 22, 23, 24, 25, 26, 27, 28, 29, 30, 31, 32, 33, 34, 35, 36, 37] 0 (nI 21) 38 = 30 := by decide
      rw [hs] at e0
      obtain ⟨r, s1, s2, c, m, G2, F1, F2⟩ := st_small (d + 160) (zI s 80 0 (i + 1)) (zI s 80 0 (i + 2)) (zI s 80 0 (i + 3)) s w hG
      exact lw_x hG h82 G2 F1 F2 (e0.trans (lw_small (d + 200) hi hl h82 ((F1.1 82 0 0 (by unfold CP; omega)).trans h82) rfl (F1.1 80 0 _ (by unfold CP; omega)) rfl (F1.1 80 0 _ (by unfold CP; omega)) rfl (F1.1 80 0 _ (by unfold CP; omega)) c m))
    · have hs : qm_sw [1, 2, 7, 8, 9, 10, 11, 16, 17, 18, 19, 20, 21, 22, 23, 24, 25, 26, 27, 28, 29, 30, 31, 32, 33, 34, 35, 36, 37] 0 (nI 22) 38 = 31 := by decide
      rw [hs] at e0
      obtain ⟨r, s1, s2, c, m, G2, F1, F2⟩ := st_winter (d + 160) (zI s 80 0 (i + 1)) s w hG
      exact lw_x hG h82 G2 F1 F2 (e0.trans (lw_winter (d + 200) hi hl h82 ((F1.1 82 0 0 (by unfold CP; omega)).trans h82) rfl (F1.1 80 0 _ (by unfold CP; omega)) c m))
    · have hs : qm_sw [1, 2, 7, 8, 9, 10, 11, 16, 17, 18, 19, 20, 21, 22, 23, 24, 25, 26, 27, 28, 29, 30, 31, 32, 33, 34, 35, 36, 37] 0 (nI 23) 38 = 32 := by decide
      rw [hs] at e0
      obtain ⟨r, s1, s2, c, m, G2, F1, F2⟩ := st_remember (d + 160) s w hG
      exact lw_x hG h82 G2 F1 F2 (e0.trans (lw_remember (d + 200) hi hl h82 ((F1.1 82 0 0 (by unfold CP; omega)).trans h82) c m))
    · have hs : qm_sw [1, 2, 7, 8, 9, 10, 11, 16, 17, 18, 19, 20, 21, 22, 23, 24, 25, 26, 27, 28, 29, 30, 31, 32, 33, 34, 35, 36, 37] 0 (nI 24) 38 = 33 := by decide
      rw [hs] at e0
      obtain ⟨r, s1, s2, c, m, G2, F1, F2⟩ := st_missing (d + 160) (zI s 80 0 (i + 1)) (zI s 80 0 (i + 2)) s w hG
      exact lw_x hG h82 G2 F1 F2 (e0.trans (lw_missing (d + 200) hi hl h82 ((F1.1 82 0 0 (by unfold CP; omega)).trans h82) rfl (F1.1 80 0 _ (by unfold CP; omega)) rfl (F1.1 80 0 _ (by unfold CP; omega)) c m))
    · have hs : qm_sw [1, 2, 7, 8, 9, 10, 11, 16, 17, 18, 19, 20, 21, 22, 23, 24, 25, 26, 27, 28, 29, 30, 31, 32, 33, 34, 35, 36, 37] 0 (nI 25) 38 = 34 := by decide
      rw [hs] at e0
      obtain ⟨r, s1, s2, c, m, G2, F1, F2⟩ := st_falls (d + 160) (zI s 80 0 (i + 1)) (zI s 80 0 (i + 2)) (zI s 80 0 (i + 3)) s w hG
      exact lw_x hG h82 G2 F1 F2 (e0.trans (lw_falls (d + 200) hi hl h82 ((F1.1 82 0 0 (by unfold CP; omega)).trans h82) rfl (F1.1 80 0 _ (by unfold CP; omega)) rfl (F1.1 80 0 _ (by unfold CP; omega)) rfl (F1.1 80 0 _ (by unfold CP; omega)) c m))
    · have hs : qm_sw [1, 2, 7, 8, 9, 10, 11, 16, 17, 18, 19, 20, 21, 22, 23, 24, 25, 26, 27, 28, 29, 30, 31, 32, 33, 34, 35, 36, 37] 0 (nI 26) 38 = 35 := by decide
      rw [hs] at e0
      obtain ⟨r, s1, s2, c, m, G2, F1, F2⟩ := st_image (d + 160) s w hG
      exact lw_x hG h82 G2 F1 F2 (e0.trans (lw_image (d + 200) hi hl h82 ((F1.1 82 0 0 (by unfold CP; omega)).trans h82) c m))
    · have hs : qm_sw [1, 2, 7, 8, 9, 10, 11, 16, 17, 18, 19, 20, 21, 22, 23, 24, 25, 26, 27, 28, 29, 30, 31, 32, 33, 34, 35, 36, 37] 0 (nI 27) 38 = 36 := by decide
      rw [hs] at e0
      obtain ⟨r, s1, s2, c, m, G2, F1, F2⟩ := st_back (d + 160) s w hG
      exact lw_x hG h82 G2 F1 F2 (e0.trans (lw_back (d + 200) hi hl h82 ((F1.1 82 0 0 (by unfold CP; omega)).trans h82) c m))
    · have hs : qm_sw [1, 2, 7, 8, 9, 10, 11, 16, 17, 18, 19, 20, 21, 22, 23, 24, 25, 26, 27, 28, 29, 30, 31, 32, 33, 34, 35, 36, 37] 0 (nI 28) 38 = 37 := by decide
      rw [hs] at e0
      obtain ⟨r, s1, s2, c, m, G2, F1, F2⟩ := st_about (d + 160) (zI s 80 0 (i + 1)) s w hG
      exact lw_x hG h82 G2 F1 F2 (e0.trans (lw_about (d + 200) hi hl h82 ((F1.1 82 0 0 (by unfold CP; omega)).trans h82) rfl (F1.1 80 0 _ (by unfold CP; omega)) c m))
  · have hs : qm_sw [1, 2, 7, 8, 9, 10, 11, 16, 17, 18, 19, 20, 21, 22, 23, 24, 25, 26, 27, 28, 29, 30, 31, 32, 33, 34, 35, 36, 37] 0 (nI k) 38 = 38 := by
      rcases (by omega : k = 29 ∨ k = 30 ∨ k = 31) with g | g | g <;> subst g <;> decide
    rw [hs] at e0
    exact ⟨s, e0.trans (lw_n (d + 200)), hG, h82⟩
theorem lw_loop (d : Nat) {w len : Nat} (hl : len ≤ 3073) (h6 : 6 ≤ len) : ∀ n i s, GG s w → zI s 82 0 0 = nI len → len < i + 6 * (n + 1) → i ≤ len → ∃ s', qm_evB (d + 201) jW_law 0 [qP 80 0, qP 1 0, qP 9 0, qI (nI i)] [] s = some (some (qI (nI 1)), s') := by
  intro n
  induction n with
  | zero =>
    intro i s hG h82 hn hi
    exact ⟨s, lw_e1 (d + 200) h6 (by omega) (by omega) hl h82⟩
  | succ n ih =>
    intro i s hG h82 hn hi
    by_cases q : i + 6 ≤ len
    · obtain ⟨s', e, G', g82⟩ := lw_step d hG q hl h82
      obtain ⟨s'', e'⟩ := ih (i + 6) s' G' g82 (by omega) q
      exact ⟨s'', e.trans e'⟩
    · exact ⟨s, lw_e1 (d + 200) h6 q (by omega) hl h82⟩
/-- THE LAW: from a good heap it answers 1 -/
theorem lw_all (d : Nat) {w len : Nat} {s : qm_Hp} (hl : len ≤ 3073) (hG : GG s w) (h82 : zI s 82 0 0 = nI len) : ∃ s', qm_evB (d + 201) jW_law 0 [qP 80 0, qP 1 0, qP 9 0, qI (nI 1)] [] s = some (some (qI (nI 1)), s') := by
  by_cases h6 : 6 ≤ len
  · exact lw_loop d hl h6 600 1 s hG h82 (by omega) (by omega)
  · exact ⟨s, lw_e0 (d + 200) (by omega) h82⟩
