/-! leaves with numbers as nI -/
theorem t_within (d : Nat) (s : qm_Hp) (a b c : Int32) : qm_evM d jC_within [qI a, qI b, qI c] s = some (some (qI (if b ≤ a ∧ a ≤ c then nI 1 else nI 0)), s) := s_within d s a b c
theorem t_isIn (d : Nat) (s : qm_Hp) (a b c : Int32) : qm_evM d jM_isIn [qI a, qI b, qI c] s = some (some (qI (if b ≤ a ∧ a ≤ c then nI 1 else nI 0)), s) := s_isIn d s a b c
theorem t_place (d : Nat) (s : qm_Hp) (a b : Nat) : qm_evM d jC_placeOf [qI (nI a), qI (nI b)] s = some (some (qI (nI (8 * a + b))), s) := by
  rw [s_placeOf, show (8 : Int32) = nI 8 from rfl, pk_mul, nI_add, Nat.mul_comm]
theorem t_clamp (d : Nat) (s : qm_Hp) (v a b : Int32) : qm_evM d jL_clamp [qI v, qI a, qI b] s = some (some (qI (ck v a b)), s) := s_clamp d s v a b
theorem t_isDry (d : Nat) (s : qm_Hp) (a : Int32) : qm_evM d jC_isDry [qI a] s = some (some (qI (if a ≤ nI 200 then nI 1 else nI 0)), s) := s_isDry d s a
theorem t_isKind (d : Nat) (s : qm_Hp) (a : Int32) : qm_evM (d + 1) jC_isKind [qI a] s = some (some (qI (if nI 0 ≤ a ∧ a ≤ nI 3 then nI 1 else nI 0)), s) := s_isKind d s a
theorem t_isWater (d : Nat) (s : qm_Hp) (a : Int32) : qm_evM (d + 1) jC_isWater [qI a] s = some (some (qI (if nI 0 ≤ a ∧ a ≤ nI 2000 then nI 1 else nI 0)), s) := s_isWater d s a
theorem t_isFallen (d : Nat) (s : qm_Hp) (p : Nat) : qm_evM d jP_isFallen [qP 3 p] s = some (some (qI (if zI s 3 p 9 = N1 then nI 0 else nI 1)), s) := s_isFallen d s p
theorem t_isTop (d : Nat) (s : qm_Hp) (p c z : Nat) (hc : c < 6) : qm_evM (d + 1) jP_isTop [qP 3 p, qI (nI c), qI (nI z)] s = some (some (qI (if ¬ zI s 3 p 9 = N1 ∨ zI s 17 p c ≤ nI (z + 1) then nI 1 else nI 0)), s) := by
  have := s_isTop d s p (nI c) (nI z) (vp_in_nI hc (by decide))
  rw [nI_clamp (by omega), nI_1] at this
  exact this
theorem ite_bi {c e : Prop} [Decidable c] [Decidable e] (h : c ↔ e) (a b : Int32) : (if c then a else b) = if e then a else b := by
  by_cases q : c
  · rw [if_pos q, if_pos (h.mp q)]
  · rw [if_neg q, if_neg (fun z => q (h.mpr z))]
theorem ite_nI {c : Prop} {e : Prop} [Decidable c] [Decidable e] (h : c ↔ ¬ e) : (if c then (0 : Int32) else 1) = nI (if e then 1 else 0) := by
  by_cases q : e
  · rw [if_neg (fun z => h.mp z q), if_pos q]; rfl
  · rw [if_pos (h.mpr q), if_neg q]; rfl
/-- the names that the class looks up -/
theorem lk_fr (s : qm_Hp) (p w c z : Nat) : fr [41] s (hp_look s p w c z) := by
  unfold hp_look
  repeat' (first | exact fr_refl _ _ | refine fr_uI (by decide) ?_ _ _ _)
theorem lk_bs {s : qm_Hp} {p w c z : Nat} {y : VW} (hP : PC s p w y) (ok : OKP w y) (hc : c < w) (hz : z < cn y c) : nm_bs s p w c z = if y 0 1 = N1 then nI (nbs y w c z) else nI 4 := by
  have h8 := OK_n ok hc
  have hw6 := ok.1.2
  unfold nm_bs
  rw [hP.2.1.2.1]
  by_cases hf : y 0 1 = N1
  · rw [if_pos hf, if_pos (show y 0 1 = -1 from hf)]
    unfold nbs
    rw [← nI_add, ← nI_add, ← nI_add, PC_c hP hc, nI_1, nI_1]
    congr 1
    · congr 1
      · congr 1
        · exact ite_nI (by rw [show (0 : Int32) = nI 0 from rfl, nI_leI (by omega) (by omega)]; omega)
        · exact ite_nI (by rw [nI_leI (by omega) (by omega)]; omega)
      · by_cases h0 : 0 < c
        · rw [PC_c hP (c := c - 1) (by omega)]
          have := OK_n ok (c := c - 1) (by omega)
          exact ite_nI (by rw [show (0 : Int32) = nI 0 from rfl, nI_leI (by omega) (by omega), nI_leI (by omega) (by omega)]; omega)
        · exact ite_nI (by rw [show (0 : Int32) = nI 0 from rfl, nI_leI (by omega) (by omega)]; constructor <;> intro h <;> first | omega | exact Or.inl (by omega))
    · by_cases h0 : c + 1 < w
      · rw [PC_c hP h0]
        have := OK_n ok h0
        exact ite_nI (by rw [nI_leI (by omega) (by omega), nI_leI (by omega) (by omega)]; omega)
      · exact ite_nI (by rw [nI_leI (by omega) (by omega)]; constructor <;> intro h <;> first | omega | exact Or.inl (by omega))
  · rw [if_neg hf, if_neg (show ¬ y 0 1 = -1 from hf)]
    rfl
theorem lk_tp {s : qm_Hp} {p w c z : Nat} {y : VW} (hP : PC s p w y) (ok : OKP w y) (hc : c < w) (hz : z < cn y c) : nm_tp s p c z = if y 0 1 = N1 ∧ z + 1 < cn y c then nI 0 else nI 1 := by
  have h8 := OK_n ok hc
  unfold nm_tp
  rw [hP.2.1.2.1, PC_c hP hc, nI_1]
  by_cases hf : y 0 1 = N1
  · by_cases h1 : z + 1 < cn y c
    · rw [if_neg (fun q => q.elim (fun g => g hf) (fun g => nI_ge h1 (by omega) g)), if_pos ⟨hf, h1⟩]; rfl
    · rw [if_pos (Or.inr (nI_le (by omega) (by omega))), if_neg (fun q => h1 q.2)]; rfl
  · rw [if_pos (Or.inl (show ¬ y 0 1 = -1 from hf)), if_neg (fun q => hf q.1)]; rfl
theorem lk_su {s : qm_Hp} {p w c : Nat} {y : VW} (hP : PC s p w y) (ok : OKP w y) (hc : c < w) : nm_su s p c = if c = (if y 0 4 = nI 0 then 0 else w - 1) then nI 1 else nI 0 := by
  have hw6 := ok.1
  unfold nm_su
  rw [hP.2.1.2.2.2.2, hP.1]
  by_cases h0 : y 0 4 = nI 0
  · rw [if_pos h0, if_pos (show y 0 4 = 0 from h0)]
    exact ite_bi (by rw [show (0 : Int32) = nI 0 from rfl, nI_eq (by omega) (by omega)]) _ _
  · rw [if_neg h0, if_neg (show ¬ y 0 4 = 0 from h0)]
    have e : nI w - 1 = nI (w - 1) := by
      obtain ⟨v, rfl⟩ : ∃ v, w = v + 1 := ⟨w - 1, by omega⟩
      exact nI_pred v
    rw [e]
    exact ite_bi (by rw [nI_eq (by omega) (by omega)]) _ _
theorem lk_ev {s : qm_Hp} {p w c z : Nat} {y : VW} (W : Nat → Int32) (hP : PC s p w y) (ok : OKP w y) (hc : c < w) (hz : z < cn y c) (v : Nat) (hv : v < 8 ∨ v = 12) : zI (hp_look s p w c z) 41 0 v = ev y w W c z v := by
  have hv : v = 0 ∨ v = 1 ∨ v = 2 ∨ v = 3 ∨ v = 4 ∨ v = 5 ∨ v = 6 ∨ v = 7 ∨ v = 12 := by omega
  unfold hp_look
  rcases hv with h | h | h | h | h | h | h | h | h <;> subst h <;> simp only [zI_uI, Nat.reduceEqDiff, and_false, and_true, and_self, ↓reduceIte]
  · exact PC_wt hP hc hz
  · exact PC_sz hP hc hz
  · exact PC_kd hP hc hz
  · exact PC_bk hP hc hz
  · unfold nm_hi
    rw [hP.2.1.2.1]
    rfl
  · exact lk_tp hP ok hc hz
  · exact lk_bs hP ok hc hz
  · exact lk_su hP ok hc
  · exact hP.2.1.1
theorem lk_no (s : qm_Hp) (p w c z v : Nat) (hv : 8 ≤ v ∧ v ≠ 12) : zI (hp_look s p w c z) 41 0 v = zI s 41 0 v := by
  unfold hp_look
  simp (disch := omega) only [zI_uI, n_eqF, and_false, ↓reduceIte]
/-- the laws go by τ -/
def LC (s : qm_Hp) (τ : TX) : Prop := ∃ t, zP s 5 0 0 = (4, t) ∧ TC s t τ
theorem LC_fr {K : List Nat} {s s' : qm_Hp} {τ : TX} (hK : ∀ k, k ∈ [4, 5, 31, 32, 33, 34, 35] → k ∉ K) (hf : fr K s s') (h : LC s τ) : LC s' τ := by
  obtain ⟨t, h1, h2⟩ := h
  refine ⟨t, (hf.2.2 5 0 0 (hK 5 (by decide))).trans h1, TC_fr (fun k hk => hK k ?_) hf h2⟩
  simp only [List.mem_cons, List.not_mem_nil, or_false] at hk ⊢
  omega
theorem c_val (d : Nat) {s : qm_Hp} {τ : TX} (hL : LC s τ) (okt : OKT τ) {k : Nat} (hk : k < τ.1) (h6 : (τ.2 k).1 < 6) (env : Nat → Int32) (he : ∀ v, nmok (τ.2 k).1 v → zI s 41 0 v = env v) : ∃ s', qm_evM (d + 2) jL_valueOf [qP 5 0, qI (nI k)] s = some (some (qI (cv env (τ.2 k).2)), s') ∧ fr [42] s s' := by
  obtain ⟨t, hT, h1, h2, h3⟩ := hL
  obtain ⟨q1, fm, q2, q3, q4, q5⟩ := h2 k hk
  obtain ⟨o1, o2, o3, o4, o5⟩ := okt.2 k hk
  have h20 := okt.1
  by_cases h5 : (τ.2 k).1 < 5
  · exact s_valueOf d s t k fm 0 1 (τ.2 k).2 env hT (by omega) q2 q3 q4 q5 (o2 h5) rfl (fun c hc hc1 => he _ (o4 h6 c hc hc1))
  · exact s_valueOf d s t k fm 1 0 (τ.2 k).2 env hT (by omega) q2 q3 q4 q5 (o3 (by omega)) rfl (fun c hc hc1 => he _ (o4 h6 c hc hc1))
theorem c_clauseOf (d : Nat) {s : qm_Hp} {t : Nat} {τ : TX} (h : TC s t τ) (a : Nat) (ha : a < 5) : qm_evM (d + 2) jT_clauseOf [qP 4 t, qI (nI (17 + a))] s = some (some (qI (if fnd τ a < τ.1 then nI (fnd τ a) else N1)), s) := by
  have := s_clauseOf d s t (17 + a) (by omega)
  rw [Nat.add_sub_cancel_left, h.2.2 a ha] at this
  exact this
theorem c_look (d : Nat) {s : qm_Hp} {p w c z : Nat} {y : VW} (hP : PC s p w y) (ok : OKP w y) (hc : c < w) (hz : z < cn y c) : qm_evM (d + 2) jL_look [qP 5 0, qP 3 p, qI (nI c), qI (nI z)] s = some (none, hp_look s p w c z) := by
  have := OK_n ok hc
  exact s_look d s p w c z hP.1 ok.1.2 hc (by omega)
/-- looked at and worked out -/
theorem c_lv (d e : Nat) {s : qm_Hp} {p w c z : Nat} {y : VW} {τ : TX} (W : Nat → Int32) (hP : PC s p w y) (ok : OKP w y) (hL : LC s τ) (okt : OKT τ) (hc : c < w) (hz : z < cn y c) {k : Nat} (hk : k < τ.1) (h6 : (τ.2 k).1 < 6) (h2 : (τ.2 k).1 ≠ 2) (hW : (τ.2 k).1 = 0 → zI s 41 0 8 = W 0 ∧ zI s 41 0 9 = W 1 ∧ zI s 41 0 10 = W 2 ∧ zI s 41 0 11 = W 3) : ∃ s', qm_evM (d + 2) jL_look [qP 5 0, qP 3 p, qI (nI c), qI (nI z)] s = some (none, hp_look s p w c z) ∧ qm_evM (e + 2) jL_valueOf [qP 5 0, qI (nI k)] (hp_look s p w c z) = some (some (qI (cv (ev y w W c z) (τ.2 k).2)), s') ∧ fr [41, 42] s s' ∧ (∀ v, 8 ≤ v → v ≤ 11 → zI s' 41 0 v = zI s 41 0 v) := by
  have f1 := lk_fr s p w c z
  obtain ⟨s', h3, h4⟩ := c_val e (LC_fr (K := [41]) (by decide) f1 hL) okt hk h6 (ev y w W c z) (fun v hv => by
    by_cases h8 : v < 8 ∨ v = 12
    · exact lk_ev W hP ok hc hz v h8
    · unfold nmok at hv
      have h0 : (τ.2 k).1 = 0 := by omega
      have hv : v = 8 ∨ v = 9 ∨ v = 10 ∨ v = 11 := by omega
      obtain ⟨g1, g2, g3, g4⟩ := hW h0
      rw [lk_no s p w c z v (by omega)]
      rcases hv with h | h | h | h <;> subst h
      · exact g1
      · exact g2
      · exact g3
      · exact g4)
  refine ⟨s', c_look d hP ok hc hz, h3, fr_trans (fr_mono (fun k hk => ?_) f1) (fr_mono (fun k hk => ?_) h4), fun v a b => ?_⟩
  · simp only [List.mem_cons, List.not_mem_nil, or_false] at hk ⊢; omega
  · simp only [List.mem_cons, List.not_mem_nil, or_false] at hk ⊢; omega
  · rw [h4.1 41 0 v (by decide), lk_no s p w c z v (by omega)]
