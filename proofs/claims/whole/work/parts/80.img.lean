/-! splits, copies; calls image, back, remember -/
def spl (y : VW) : Nat → Nat
  | 0 => 0
  | c + 1 => spl y c + cn y c
theorem bxs {f : Nat → Int32} {y : VW} : ∀ {n : Nat}, (∀ c, c < n → f c = nI (cn y c)) → bx_sum f n = nI (spl y n)
  | 0, _ => rfl
  | n + 1, h => by
    show bx_sum f n + f n = nI (spl y n + cn y n)
    rw [bxs (fun c hc => h c (by omega)), h n (by omega), nI_add]
theorem c_splits (d : Nat) {s : qm_Hp} {p w : Nat} {y : VW} (hP : PC s p w y) (ok : OKP w y) : qm_evM d jP_splits [qP 3 p] s = some (some (qI (nI (spl y w))), s) := by
  rw [s_splits d s p w hP.1 ok.1.2, bxs (fun c hc => PC_c hP hc)]
theorem r_splits (d : Nat) {s : qm_Hp} {b w : Nat} {y : VW} (hP : PM s b w y) (ok : OKP w y) (hb : zI s 9 0 2 = nI b) (hb2 : b ≤ 2940) : qm_evM (d + 1) jM_splits [qP 9 0] s = some (some (qI (nI (spl y w))), s) := by
  rw [m_splits d s b w hP.1 ok.1.2 hb hb2, bxs (fun c hc => PM_c hP hc)]
theorem spl_le {w : Nat} {y : VW} (ok : OKP w y) : ∀ n, n ≤ w → spl y n ≤ 8 * n
  | 0, _ => Nat.le_refl _
  | n + 1, h => by
    have h1 := spl_le ok n (by omega)
    have h2 := OK_n ok (c := n) (by omega)
    show spl y n + cn y n ≤ _
    omega
theorem bec_arr (s : qm_Hp) (p q f j : Nat) (hf : f < 6) (hj : j < 48) : zI (hp_bec s p q) (11 + f) p j = zI s (11 + f) q j := by
  unfold hp_bec
  have : f = 0 ∨ f = 1 ∨ f = 2 ∨ f = 3 ∨ f = 4 ∨ f = 5 := by omega
  rcases this with h | h | h | h | h | h <;> subst h <;> simp only [zI_uI, zI_uC, Nat.reduceAdd, Nat.reduceEqDiff, Nat.zero_add, Nat.sub_zero, Nat.zero_le, true_and, and_true, false_and, hj, ↓reduceIte]
theorem bec_cnt (s : qm_Hp) (p q j : Nat) (hj : j < 6) : zI (hp_bec s p q) 17 p j = zI s 17 q j := by
  unfold hp_bec
  simp only [zI_uI, zI_uC, Nat.reduceEqDiff, Nat.zero_add, Nat.sub_zero, Nat.zero_le, true_and, and_true, false_and, hj, ↓reduceIte]
theorem bec_sc (s : qm_Hp) (p q i : Nat) (hpq : q ≠ p) (hi : i < 5) : zI (hp_bec s p q) 3 p (8 + i) = zI s 3 q (8 + i) := by
  unfold hp_bec
  have : i = 0 ∨ i = 1 ∨ i = 2 ∨ i = 3 ∨ i = 4 := by omega
  rcases this with h | h | h | h | h <;> subst h <;> simp only [zI_uI, zI_uC, Nat.reduceAdd, Nat.reduceEqDiff, hpq, true_and, and_true, and_self, and_false, false_and, ↓reduceIte]
theorem bec_0 (s : qm_Hp) (p q i : Nat) : zI (hp_bec s p q) 3 i 0 = zI s 3 i 0 := by
  unfold hp_bec
  simp only [zI_uI, zI_uC, Nat.reduceEqDiff, and_false, false_and, ↓reduceIte]
theorem fp_uC {P : Nat → Nat → Prop} {s s' : qm_Hp} {k' i' : Nat} (hk : P k' i') (h : fp P s s') (k i sp dp n : Nat) : fp P s (uC s' k i sp k' i' dp n) := by
  refine ⟨fun a b c q => ?_, fun a b c q => h.2.1 a b c q, fun a b c q => h.2.2 a b c q⟩
  rw [zI_uC, if_neg (fun z => q (by rw [z.1, z.2.1]; exact hk))]
  exact h.1 a b c q
theorem bec_fp (s : qm_Hp) (p q : Nat) : fp (PP p) s (hp_bec s p q) := by
  unfold hp_bec
  repeat' (first | exact fp_refl _ _ | refine fp_uI (by unfold PP; omega) ?_ _ _ | refine fp_uC (by unfold PP; omega) ?_ _ _ _ _ _)
theorem PC_bec {s : qm_Hp} {p q w : Nat} {y : VW} (h : PC s q w y) (ok : OKP w y) (hpq : q ≠ p) (hw : zI s 3 p 0 = nI w) : PC (hp_bec s p q) p w y := by
  have h6 := ok.1.2
  refine ⟨(bec_0 s p q p).trans hw, ⟨(bec_sc s p q 0 hpq (by decide)).trans h.2.1.1, (bec_sc s p q 1 hpq (by decide)).trans h.2.1.2.1, (bec_sc s p q 2 hpq (by decide)).trans h.2.1.2.2.1, (bec_sc s p q 3 hpq (by decide)).trans h.2.1.2.2.2.1, (bec_sc s p q 4 hpq (by decide)).trans h.2.1.2.2.2.2⟩, fun c hc => (bec_cnt s p q c (by omega)).trans (h.2.2.1 c hc), fun f c z hf hc hz => ?_⟩
  have h8 := OK_n ok hc
  exact (bec_arr s p q f _ hf (by omega)).trans (h.2.2.2 f c z hf hc hz)
/-- a yard becomes another -/
def hy_bec (s : qm_Hp) (i q : Nat) : qm_Hp :=
  let s4 := uC (uC (uC (uC (hp_bec s i q) 21 q 0 21 i 0 12) 22 q 0 22 i 0 12) 23 q 0 23 i 0 12) 24 q 0 24 i 0 12
  let s9 := uC (uC (uC (uC (uI s4 2 i 5 (zI s 2 q 5)) 25 q 0 25 i 0 40) 26 q 0 26 i 0 4) 27 q 0 27 i 0 4) 28 q 0 28 i 0 6
  uI (uI (uI s9 2 i 10 (zI s 2 q 10)) 2 i 11 (zI s 2 q 11)) 2 i 12 (zI s 2 q 12)
theorem bec_o (s : qm_Hp) (p q a b : Nat) : zI (hp_bec s p q) 2 a b = zI s 2 a b := (bec_fp s p q).1 2 a b (by unfold PP; omega)
theorem c_ybec (d : Nat) (s : qm_Hp) (i q : Nat) (hiq : q ≠ i) (hz : zI s 2 q 10 = 0 ∨ zI s 2 q 10 = 1) : qm_evM (d + 1) jY_become [qP 2 i, qP 2 q] s = some (none, hy_bec s i q) := by
  unfold hy_bec
  simp only [e_Y_become, b_Y_become_0, qx, qe, qc, qil, reduceIte, Nat.reduceEqDiff, Nat.reduceLeDiff, Bool.false_eq_true, Nat.reduceAdd, Nat.reduceLT, List.length_cons, List.length_nil, or_self, or_false, false_or, or_true, true_or, and_self, and_true, true_and, and_false, false_and, not_true_eq_false, not_false_eq_true, Nat.zero_le, qz1, qz2, qz3, qz4, qz5, qz6, qz7, qz8, qz9, qz0, qz10, qz01, qtn, qn0, Nat.lt_irrefl, Nat.not_lt_zero, s_become, zI_uI, zI_uC, bec_o, hz, hiq]
def YPi (i : Nat) : Nat → Nat → Prop := fun k j => k = 41 ∨ k = 42 ∨ (j = i ∧ (k = 2 ∨ k = 3 ∨ (11 ≤ k ∧ k ≤ 17) ∨ (21 ≤ k ∧ k ≤ 28)))
theorem ybec_fp (s : qm_Hp) (i q : Nat) : fp (YPi i) s (hy_bec s i q) := by
  unfold hy_bec
  repeat' (first | exact fp_mono (fun k j hk => by unfold PP at hk; unfold YPi; omega) (bec_fp s i q) | refine fp_uI (by unfold YPi; omega) ?_ _ _ | refine fp_uC (by unfold YPi; omega) ?_ _ _ _ _ _)
theorem ybec_pile (s : qm_Hp) (i q a b c : Nat) (h : a = 3 ∨ (11 ≤ a ∧ a ≤ 17)) : zI (hy_bec s i q) a b c = zI (hp_bec s i q) a b c := by
  unfold hy_bec
  simp (disch := omega) only [zI_uI, zI_uC, n_eqF, false_and, ↓reduceIte]
theorem ybec_u (s : qm_Hp) (i q g j : Nat) (hg : g < 8) (hj : (g < 4 ∧ j < 12) ∨ (g = 4 ∧ j < 40) ∨ ((g = 5 ∨ g = 6) ∧ j < 4) ∨ (g = 7 ∧ j < 6)) : zI (hy_bec s i q) (21 + g) i j = zI s (21 + g) q j := by
  have hb : ∀ k a b, 21 ≤ k → k ≤ 28 → zI (hp_bec s i q) k a b = zI s k a b := fun k a b h1 h2 => (bec_fp s i q).1 k a b (by unfold PP; omega)
  unfold hy_bec
  have : g = 0 ∨ g = 1 ∨ g = 2 ∨ g = 3 ∨ g = 4 ∨ g = 5 ∨ g = 6 ∨ g = 7 := by omega
  rcases this with h | h | h | h | h | h | h | h <;> subst h
  · have hj' : j < 12 := by omega
    simp only [zI_uI, zI_uC, Nat.reduceAdd, Nat.reduceEqDiff, Nat.zero_add, Nat.sub_zero, Nat.zero_le, true_and, and_true, false_and, hj', ↓reduceIte, hb 21 _ _ (by decide) (by decide)]
  · have hj' : j < 12 := by omega
    simp only [zI_uI, zI_uC, Nat.reduceAdd, Nat.reduceEqDiff, Nat.zero_add, Nat.sub_zero, Nat.zero_le, true_and, and_true, false_and, hj', ↓reduceIte, hb 22 _ _ (by decide) (by decide)]
  · have hj' : j < 12 := by omega
    simp only [zI_uI, zI_uC, Nat.reduceAdd, Nat.reduceEqDiff, Nat.zero_add, Nat.sub_zero, Nat.zero_le, true_and, and_true, false_and, hj', ↓reduceIte, hb 23 _ _ (by decide) (by decide)]
  · have hj' : j < 12 := by omega
    simp only [zI_uI, zI_uC, Nat.reduceAdd, Nat.reduceEqDiff, Nat.zero_add, Nat.sub_zero, Nat.zero_le, true_and, and_true, false_and, hj', ↓reduceIte, hb 24 _ _ (by decide) (by decide)]
  · have hj' : j < 40 := by omega
    simp only [zI_uI, zI_uC, Nat.reduceAdd, Nat.reduceEqDiff, Nat.zero_add, Nat.sub_zero, Nat.zero_le, true_and, and_true, false_and, hj', ↓reduceIte, hb 25 _ _ (by decide) (by decide)]
  · have hj' : j < 4 := by omega
    simp only [zI_uI, zI_uC, Nat.reduceAdd, Nat.reduceEqDiff, Nat.zero_add, Nat.sub_zero, Nat.zero_le, true_and, and_true, false_and, hj', ↓reduceIte, hb 26 _ _ (by decide) (by decide)]
  · have hj' : j < 4 := by omega
    simp only [zI_uI, zI_uC, Nat.reduceAdd, Nat.reduceEqDiff, Nat.zero_add, Nat.sub_zero, Nat.zero_le, true_and, and_true, false_and, hj', ↓reduceIte, hb 27 _ _ (by decide) (by decide)]
  · have hj' : j < 6 := by omega
    simp only [zI_uI, zI_uC, Nat.reduceAdd, Nat.reduceEqDiff, Nat.zero_add, Nat.sub_zero, Nat.zero_le, true_and, and_true, false_and, hj', ↓reduceIte, hb 28 _ _ (by decide) (by decide)]
theorem ybec_s (s : qm_Hp) (i q : Nat) : zI (hy_bec s i q) 2 i 5 = zI s 2 q 5 ∧ zI (hy_bec s i q) 2 i 11 = zI s 2 q 11 ∧ zI (hy_bec s i q) 2 i 12 = zI s 2 q 12 ∧ zI (hy_bec s i q) 2 i 10 = zI s 2 q 10 := by
  unfold hy_bec
  refine ⟨?_, ?_, ?_, ?_⟩ <;> simp only [zI_uI, zI_uC, Nat.reduceEqDiff, true_and, and_true, and_self, and_false, false_and, ↓reduceIte]
theorem YC_bec {s : qm_Hp} {i q w : Nat} {y : VW} (hw : w ≤ 6) (h : YC s q w y) : YC (hy_bec s i q) i w y := by
  obtain ⟨e1, e2, e3, e4⟩ := ybec_s s i q
  refine ⟨⟨e1.trans h.1.1, e2.trans h.1.2.1, e3.trans h.1.2.2.1, e4.trans h.1.2.2.2⟩, fun j hj => ?_, fun j hj => (ybec_u s i q 4 j (by decide) (by omega)).trans (h.2.2.1 j hj), fun j hj => ?_, fun c hc => (ybec_u s i q 7 c (by decide) (by omega)).trans (h.2.2.2.2 c hc)⟩
  · obtain ⟨a1, a2, a3, a4⟩ := h.2.1 j hj
    exact ⟨(ybec_u s i q 0 j (by decide) (by omega)).trans a1, (ybec_u s i q 1 j (by decide) (by omega)).trans a2, (ybec_u s i q 2 j (by decide) (by omega)).trans a3, (ybec_u s i q 3 j (by decide) (by omega)).trans a4⟩
  · obtain ⟨a1, a2⟩ := h.2.2.2.1 j hj
    exact ⟨(ybec_u s i q 5 j (by decide) (by omega)).trans a1, (ybec_u s i q 6 j (by decide) (by omega)).trans a2⟩
theorem PC_ybec {s : qm_Hp} {i q w : Nat} {y : VW} (h : PC s q w y) (ok : OKP w y) (hiq : q ≠ i) (hw : zI s 3 i 0 = nI w) : PC (hy_bec s i q) i w y := by
  have hp := PC_bec h ok hiq hw
  have e : ∀ a c, (a = 3 ∨ (11 ≤ a ∧ a ≤ 17)) → zI (hy_bec s i q) a i c = zI (hp_bec s i q) a i c := fun a c ha => ybec_pile s i q a i c ha
  exact ⟨(e 3 0 (by omega)).trans hp.1, ⟨(e 3 8 (by omega)).trans hp.2.1.1, (e 3 9 (by omega)).trans hp.2.1.2.1, (e 3 10 (by omega)).trans hp.2.1.2.2.1, (e 3 11 (by omega)).trans hp.2.1.2.2.2.1, (e 3 12 (by omega)).trans hp.2.1.2.2.2.2⟩, fun c hc => (e 17 c (by omega)).trans (hp.2.2.1 c hc), fun f c z hf hc hz => (e (11 + f) _ (by omega)).trans (hp.2.2.2 f c z hf hc hz)⟩
