/-! the call order: the reference -/
def MR (x : qm_Hp) (R : RR) : Prop := zI x 9 0 31 = R.1 ∧ (R.1 = N1 ∨ ∀ i, i < 5 → zI x 71 0 i = if i < R.2.1 then R.2.2 i else N1)
def hkb (x : qm_Hp) (k : Nat) (ch : Nat → Int32) : Nat → qm_Hp
  | 0 => x
  | n + 1 => uI (hkb x k ch n) 71 0 n (if n < k then ch n else N1)
theorem hkb_e (x : qm_Hp) (k : Nat) (ch : Nat → Int32) : ∀ n i, i < n → zI (hkb x k ch n) 71 0 i = if i < k then ch i else N1
  | 0, i, h => absurd h (Nat.not_lt_zero _)
  | n + 1, i, h => by
    show zI (uI (hkb x k ch n) 71 0 n (if n < k then ch n else N1)) 71 0 i = _
    rw [zI_uI]
    by_cases g : i = n
    · rw [if_pos ⟨rfl, rfl, g⟩, g]
    · rw [if_neg (fun z => g z.2.2)]; exact hkb_e x k ch n i (by omega)
theorem hkb_fr (x : qm_Hp) (k : Nat) (ch : Nat → Int32) : ∀ n, fr [71] x (hkb x k ch n)
  | 0 => fr_refl _ _
  | n + 1 => fr_uI (by decide) (hkb_fr x k ch n) _ _ _
theorem r_keep (d : Nat) {x : qm_Hp} {k : Nat} {ht : Int32} {ch : Nat → Int32} {R : RR} (hk : k ≤ 5) (h0 : nI 0 ≤ ht) (hch : ∀ i, i < k → zI x 69 0 i = ch i) (hS : MR x R) : ∃ x', qm_evM d jM_keepOrder [qP 9 0, qI (nI k), qI ht] x = some (none, x') ∧ MR x' (nte k ht ch R) ∧ fr [9, 71] x x' ∧ (∀ j, j ≠ 31 → zI x' 9 0 j = zI x 9 0 j) := by
  obtain ⟨s1, s2⟩ := hS
  unfold nte
  by_cases h : R.1 < ht
  · rw [if_pos h]
    have hf : fr [9, 71] x (hkb (uI x 9 0 31 ht) k ch 5) := fr_trans (fr_uI (k := 9) (by decide) (fr_refl _ _) _ _ _) (fr_mono (by decide) (hkb_fr _ k ch 5))
    have hl := q_up (w := 5) (fun i => qm_evB d jM_keepOrder 2 [qP 9 0, qI (nI k), qI ht, qI (nI i)] [] (hkb (uI x 9 0 31 ht) k ch i)) rfl (fun i hi => by
      refine (b_M_keepOrder_2 ..).trans ?_
      by_cases q : i < k
      · have hc : zI (hkb (uI x 9 0 31 ht) k ch i) 69 0 i = ch i := by
          rw [(hkb_fr _ k ch i).1 69 0 i (by decide), zI_uI, if_neg (by omega)]; exact hch i q
        have q' : (if i < k then ch i else N1) = ch i := if_pos q
        simp (config := {maxSteps := 1000000}) (disch := first | omega | assumption | (simp only [qm_wid_n, qm_wid_I, qm_wid_L, qm_wid_P]; omega) | (simp only [qm_wid_n, qm_wid_I, qm_wid_L, qm_wid_P]; done) | fail) only [b_M_keepOrder_3, b_M_keepOrder_4, qy0, qy1, qy2, qy3, qe, qcn, qin, ↓reduceIte, Nat.reduceEqDiff, Nat.reduceLeDiff, Bool.false_eq_true, Nat.reduceAdd, Nat.reduceSub, Nat.reduceMul, Nat.reduceLT, or_self, or_false, false_or, or_true, true_or, and_self, and_true, true_and, and_false, false_and, not_true_eq_false, not_false_eq_true, hc, hkb, q']
      · have q' : (if i < k then ch i else N1) = N1 := if_neg q
        simp (config := {maxSteps := 1000000}) (disch := first | omega | assumption | (simp only [qm_wid_n, qm_wid_I, qm_wid_L, qm_wid_P]; omega) | (simp only [qm_wid_n, qm_wid_I, qm_wid_L, qm_wid_P]; done) | fail) only [b_M_keepOrder_3, b_M_keepOrder_4, qy0, qy1, qy2, qy3, qe, qcn, qin, ↓reduceIte, Nat.reduceEqDiff, Nat.reduceLeDiff, Bool.false_eq_true, Nat.reduceAdd, Nat.reduceSub, Nat.reduceMul, Nat.reduceLT, or_self, or_false, false_or, or_true, true_or, and_self, and_true, true_and, and_false, false_and, not_true_eq_false, not_false_eq_true, hkb, q']) 0 (Nat.zero_le _)
    refine ⟨hkb (uI x 9 0 31 ht) k ch 5, ?_, ⟨?_, Or.inr fun i hi => hkb_e _ k ch 5 i hi⟩, hf, fun j hj => ?_⟩
    · have fin : ∀ X : qm_Hp, qm_evB d jM_keepOrder 2 [qP 9 0, qI (nI k), qI ht, qI (nI 5)] [] X = some (none, X) := fun X => by
        refine (b_M_keepOrder_2 ..).trans ?_
        simp (config := {maxSteps := 1000000}) (disch := first | omega | assumption | (simp only [qm_wid_n, qm_wid_I, qm_wid_L, qm_wid_P]; omega) | (simp only [qm_wid_n, qm_wid_I, qm_wid_L, qm_wid_P]; done) | fail) only [b_M_keepOrder_5, qy0, qy1, qy2, qy3, qe, qcn, qin, ↓reduceIte, Nat.reduceEqDiff, Nat.reduceLeDiff, Bool.false_eq_true, Nat.reduceAdd, Nat.reduceSub, Nat.reduceMul, Nat.reduceLT, or_self, or_false, false_or, or_true, true_or, and_self, and_true, true_and, and_false, false_and, not_true_eq_false, not_false_eq_true]
      by_cases g : R.1 < nI 0
      · simp (config := {maxSteps := 1000000}) (disch := first | omega | assumption | (simp only [qm_wid_n, qm_wid_I, qm_wid_L, qm_wid_P]; omega) | (simp only [qm_wid_n, qm_wid_I, qm_wid_L, qm_wid_P]; done) | fail) only [e_M_keepOrder, b_M_keepOrder_0, b_M_keepOrder_1, qy0, qy1, qy2, qy3, qe, qcn, qin, ↓reduceIte, Nat.reduceEqDiff, Nat.reduceLeDiff, Bool.false_eq_true, Nat.reduceAdd, Nat.reduceSub, Nat.reduceMul, Nat.reduceLT, or_self, or_false, false_or, or_true, true_or, and_self, and_true, true_and, and_false, false_and, not_true_eq_false, not_false_eq_true, s1, g]
        exact hl.trans (fin _)
      · simp (config := {maxSteps := 1000000}) (disch := first | omega | assumption | (simp only [qm_wid_n, qm_wid_I, qm_wid_L, qm_wid_P]; omega) | (simp only [qm_wid_n, qm_wid_I, qm_wid_L, qm_wid_P]; done) | fail) only [e_M_keepOrder, b_M_keepOrder_0, b_M_keepOrder_1, qy0, qy1, qy2, qy3, qe, qcn, qin, ↓reduceIte, Nat.reduceEqDiff, Nat.reduceLeDiff, Bool.false_eq_true, Nat.reduceAdd, Nat.reduceSub, Nat.reduceMul, Nat.reduceLT, or_self, or_false, false_or, or_true, true_or, and_self, and_true, true_and, and_false, false_and, not_true_eq_false, not_false_eq_true, s1, g, h]
        exact hl.trans (fin _)
    · rw [(hkb_fr _ k ch 5).1 9 0 31 (by decide), zI_uI, if_pos ⟨rfl, rfl, rfl⟩]
    · rw [(hkb_fr _ k ch 5).1 9 0 j (by decide), zI_uI, if_neg (by omega)]
  · rw [if_neg h]
    have g : ¬ R.1 < nI 0 := fun g => h (by rw [fa_lt] at *; rw [fa_le] at h0; omega)
    refine ⟨x, ?_, ⟨s1, s2⟩, fr_refl _ _, fun _ _ => rfl⟩
    simp (config := {maxSteps := 1000000}) (disch := first | omega | assumption | (simp only [qm_wid_n, qm_wid_I, qm_wid_L, qm_wid_P]; omega) | (simp only [qm_wid_n, qm_wid_I, qm_wid_L, qm_wid_P]; done) | fail) only [e_M_keepOrder, b_M_keepOrder_0, qy0, qy1, qy2, qy3, qe, qcn, qin, ↓reduceIte, Nat.reduceEqDiff, Nat.reduceLeDiff, Bool.false_eq_true, Nat.reduceAdd, Nat.reduceSub, Nat.reduceMul, Nat.reduceLT, or_self, or_false, false_or, or_true, true_or, and_self, and_true, true_and, and_false, false_and, not_true_eq_false, not_false_eq_true, s1, g, h]
/-- the next column that holds a split -/
def nxc (v : VW) : Nat → Nat → Nat
  | 0, c => c
  | m + 1, c => if cn v c = 0 then nxc v m (c + 1) else c
theorem nxc_p (v : VW) : ∀ m c, c ≤ nxc v m c ∧ nxc v m c ≤ c + m ∧ (nxc v m c < c + m → ¬ cn v (nxc v m c) = 0) ∧ (∀ c', c ≤ c' → c' < nxc v m c → cn v c' = 0)
  | 0, c => ⟨Nat.le_refl _, Nat.le_refl _, fun h => absurd h (Nat.lt_irrefl _), fun c' h1 h2 => absurd h2 (Nat.not_lt.mpr h1)⟩
  | m + 1, c => by
    unfold nxc
    by_cases h : cn v c = 0
    · rw [if_pos h]
      obtain ⟨a1, a2, a3, a4⟩ := nxc_p v m (c + 1)
      refine ⟨by omega, by omega, fun g => a3 (by omega), fun c' h1 h2 => ?_⟩
      by_cases e : c' = c
      · rw [e]; exact h
      · exact a4 c' (by omega) h2
    · rw [if_neg h]
      exact ⟨Nat.le_refl _, by omega, fun _ => h, fun c' h1 h2 => by omega⟩
theorem fcol_sk {F : Nat → RR → RR} {v : VW} {R : RR} {a : Nat} : ∀ b, a ≤ b → (∀ c, a ≤ c → c < b → cn v c = 0) → fcol F v b R = fcol F v a R
  | 0, h, _ => by
    have : a = 0 := by omega
    rw [this]
  | b + 1, h, h2 => by
    by_cases e : a = b + 1
    · rw [e]
    · have q := h2 b (by omega) (by omega)
      show (if cn v b = 0 then fcol F v b R else F b (fcol F v b R)) = _
      rw [if_pos q]
      exact fcol_sk b (by omega) (fun c h3 h4 => h2 c h3 (by omega))
def cm (c : Nat) : Int32 := if c = 0 then N1 else nI (c - 1)
theorem r_choose (d : Nat) {x : qm_Hp} {k w c : Nat} {v : VW} (hk : k ≤ 4) (hP : PM x (420 * (2 + k)) w v) (ok : OKP w v) (hc : c ≤ w) (hch : zI x 69 0 k = cm c) : qm_evM (d + 1) jM_choosesNext [qP 9 0, qI (nI k)] x = some (some (qI (if nxc v (w - c) c < w then nI 1 else nI 0)), uI (uI x 9 0 2 (nI (420 * (2 + k)))) 69 0 k (nI (nxc v (w - c) c))) := by
  have hw6 := ok.1.2
  have htr := r_tries d x (2 + k)
  have hX : ∀ m c, c + m = w → qm_evB (d + 1) jM_choosesNext 1 [qP 9 0, qI (nI k), qI (nI c)] [] (uI x 9 0 2 (nI (420 * (2 + k)))) = some (some (qI (if nxc v m c < w then nI 1 else nI 0)), uI (uI x 9 0 2 (nI (420 * (2 + k)))) 69 0 k (nI (nxc v m c))) := by
    intro m
    have hw9 : zI (uI x 9 0 2 (nI (420 * (2 + k)))) 9 0 1 = nI w := by rw [zI_uI, if_neg (by omega)]; exact hP.1
    have hb9 : zI (uI x 9 0 2 (nI (420 * (2 + k)))) 9 0 2 = nI (420 * (2 + k)) := by rw [zI_uI, if_pos ⟨rfl, rfl, rfl⟩]
    have hPX : PM (uI x 9 0 2 (nI (420 * (2 + k)))) (420 * (2 + k)) w v := PM_tr ok hw9 (fun j hj => rfl) hP
    generalize uI x 9 0 2 (nI (420 * (2 + k))) = X at hw9 hb9 hPX
    induction m with
    | zero =>
      intro c hcm
      have ec : c = w := by omega
      subst ec
      refine (b_M_choosesNext_1 ..).trans ?_
      have hw9' : zI (uI X 69 0 k (nI c)) 9 0 1 = nI c := by rw [zI_uI, if_neg (by omega)]; exact hw9
      rw [show nxc v 0 c = c from rfl, if_neg (Nat.lt_irrefl _)]
      simp (config := {maxSteps := 1000000}) (disch := first | omega | assumption | (simp only [qm_wid_n, qm_wid_I, qm_wid_L, qm_wid_P]; omega) | (simp only [qm_wid_n, qm_wid_I, qm_wid_L, qm_wid_P]; done) | fail) only [b_M_choosesNext_2, b_M_choosesNext_3, b_M_choosesNext_4, qy0, qy1, qy2, qy3, qe, qcn, qin, ↓reduceIte, Nat.reduceEqDiff, Nat.reduceLeDiff, Bool.false_eq_true, Nat.reduceAdd, Nat.reduceSub, Nat.reduceMul, Nat.reduceLT, or_self, or_false, false_or, or_true, true_or, and_self, and_true, true_and, and_false, false_and, not_true_eq_false, not_false_eq_true, hw9, hw9']
    | succ m ih =>
      intro c hcm
      have hct := r_count d hPX ok hb9 (by omega) (c := c) (by omega)
      have h8 := OK_n ok (c := c) (by omega)
      unfold nxc
      by_cases h : cn v c = 0
      · rw [if_pos h]
        rw [h] at hct
        rw [← ih (c + 1) (by omega)]
        refine (b_M_choosesNext_1 ..).trans ?_
        simp (config := {maxSteps := 1000000}) (disch := first | omega | assumption | (simp only [qm_wid_n, qm_wid_I, qm_wid_L, qm_wid_P]; omega) | (simp only [qm_wid_n, qm_wid_I, qm_wid_L, qm_wid_P]; done) | fail) only [qy0, qy1, qy2, qy3, qe, qcn, qin, ↓reduceIte, Nat.reduceEqDiff, Nat.reduceLeDiff, Bool.false_eq_true, Nat.reduceAdd, Nat.reduceSub, Nat.reduceMul, Nat.reduceLT, or_self, or_false, false_or, or_true, true_or, and_self, and_true, true_and, and_false, false_and, not_true_eq_false, not_false_eq_true, hw9, hct]
      · rw [if_neg h, if_pos (by omega)]
        have hw9' : zI (uI X 69 0 k (nI c)) 9 0 1 = nI w := by rw [zI_uI, if_neg (by omega)]; exact hw9
        refine (b_M_choosesNext_1 ..).trans ?_
        simp (config := {maxSteps := 1000000}) (disch := first | omega | assumption | (simp only [qm_wid_n, qm_wid_I, qm_wid_L, qm_wid_P]; omega) | (simp only [qm_wid_n, qm_wid_I, qm_wid_L, qm_wid_P]; done) | fail) only [b_M_choosesNext_2, b_M_choosesNext_3, b_M_choosesNext_4, qy0, qy1, qy2, qy3, qe, qcn, qin, ↓reduceIte, Nat.reduceEqDiff, Nat.reduceLeDiff, Bool.false_eq_true, Nat.reduceAdd, Nat.reduceSub, Nat.reduceMul, Nat.reduceLT, or_self, or_false, false_or, or_true, true_or, and_self, and_true, true_and, and_false, false_and, not_true_eq_false, not_false_eq_true, hw9, hw9', hct]
  have h2 := hX (w - c) c (by omega)
  have hch' : zI (uI x 9 0 2 (nI (420 * (2 + k)))) 69 0 k = cm c := by rw [zI_uI, if_neg (by omega)]; exact hch
  by_cases h : c = 0
  · subst h
    have e : cm 0 = N1 := rfl
    have e2 : N1 + nI 1 = nI 0 := by decide
    rw [e] at hch'
    rw [← h2]
    simp (config := {maxSteps := 1000000}) (disch := first | omega | assumption | (simp only [qm_wid_n, qm_wid_I, qm_wid_L, qm_wid_P]; omega) | (simp only [qm_wid_n, qm_wid_I, qm_wid_L, qm_wid_P]; done) | fail) only [e_M_choosesNext, b_M_choosesNext_0, qy0, qy1, qy2, qy3, qe, qcn, qin, ↓reduceIte, Nat.reduceEqDiff, Nat.reduceLeDiff, Bool.false_eq_true, Nat.reduceAdd, Nat.reduceSub, Nat.reduceMul, Nat.reduceLT, or_self, or_false, false_or, or_true, true_or, and_self, and_true, true_and, and_false, false_and, not_true_eq_false, not_false_eq_true, htr, hch', e2]
  · have e : cm c = nI (c - 1) := if_neg h
    have e2 : c - 1 + 1 = c := by omega
    rw [e] at hch'
    rw [← h2]
    simp (config := {maxSteps := 1000000}) (disch := first | omega | assumption | (simp only [qm_wid_n, qm_wid_I, qm_wid_L, qm_wid_P]; omega) | (simp only [qm_wid_n, qm_wid_I, qm_wid_L, qm_wid_P]; done) | fail) only [e_M_choosesNext, b_M_choosesNext_0, qy0, qy1, qy2, qy3, qe, qcn, qin, ↓reduceIte, Nat.reduceEqDiff, Nat.reduceLeDiff, Bool.false_eq_true, Nat.reduceAdd, Nat.reduceSub, Nat.reduceMul, Nat.reduceLT, or_self, or_false, false_or, or_true, true_or, and_self, and_true, true_and, and_false, false_and, not_true_eq_false, not_false_eq_true, htr, hch', e2]
theorem PM_dec {s : qm_Hp} {b w c : Nat} {v : VW} (h : PM s b w v) (ok : OKP w v) (hc : c < w) (hn : ¬ cn v c = 0) : PM (uI s 61 0 (b + 120 + c) (nI (cn v c - 1))) b w (vrm v c (cn v c - 1)) := by
  have hw6 := ok.1.2
  have h8 := OK_n ok hc
  have e : ∀ j, j ≠ b + 120 + c → zI (uI s 61 0 (b + 120 + c) (nI (cn v c - 1))) 61 0 j = zI s 61 0 j := fun j hj => by rw [zI_uI, if_neg (by omega)]
  have hv : ∀ i, vrm v c (cn v c - 1) 0 i = v 0 i := fun i => vrm_ne (by omega) (by omega)
  refine ⟨h.1, ⟨?_, ?_, ?_, ?_, ?_⟩, fun c' hc' => ?_, fun f c' z' hf hc' hz' => ?_⟩
  · rw [e _ (by omega), hv]; exact h.2.1.1
  · rw [e _ (by omega), hv]; exact h.2.1.2.1
  · rw [e _ (by omega), hv]; exact h.2.1.2.2.1
  · rw [e _ (by omega), hv]; exact h.2.1.2.2.2.1
  · rw [e _ (by omega), hv]; exact h.2.1.2.2.2.2
  · rw [cn_vrm h8]
    by_cases q : c' = c
    · rw [if_pos q, zI_uI, if_pos ⟨rfl, rfl, by rw [q]⟩]
    · rw [if_neg q, e _ (by omega)]; exact h.2.2.1 c' hc'
  · rw [cn_vrm h8] at hz'
    have h8' := OK_n ok hc'
    rw [e _ (by omega)]
    by_cases q : c' = c
    · rw [if_pos q] at hz'
      subst q
      rw [vrm_ne (by omega) (by omega)]
      exact h.2.2.2 f c' z' hf hc' (by omega)
    · rw [if_neg q] at hz'
      rw [vrm_ne (by omega) (by omega)]
      exact h.2.2.2 f c' z' hf hc' hz'
/-- what a search of the reference from depth k on leaves as it was -/
def mQ (k : Nat) (x x' : qm_Hp) : Prop := fp MP x x' ∧ (∀ i, i < k → zI x' 69 0 i = zI x 69 0 i) ∧ (∀ i, i ≤ k → zI x' 70 0 i = zI x 70 0 i) ∧ (∀ i, i < 420 * (2 + k) + 420 → zI x' 61 0 i = zI x 61 0 i)
theorem mQ_refl (k : Nat) (x : qm_Hp) : mQ k x x := ⟨fp_refl _ _, fun _ _ => rfl, fun _ _ => rfl, fun _ _ => rfl⟩
theorem mQ_trans {k : Nat} {x x1 x2 : qm_Hp} (h1 : mQ k x x1) (h2 : mQ k x1 x2) : mQ k x x2 := ⟨fp_trans h1.1 h2.1, fun i hi => (h2.2.1 i hi).trans (h1.2.1 i hi), fun i hi => (h2.2.2.1 i hi).trans (h1.2.2.1 i hi), fun i hi => (h2.2.2.2 i hi).trans (h1.2.2.2 i hi)⟩
theorem mQ_up {k : Nat} {x x1 : qm_Hp} (h : mQ (k + 1) x x1) : mQ k x x1 := ⟨h.1, fun i hi => h.2.1 i (by omega), fun i hi => h.2.2.1 i (by omega), fun i hi => h.2.2.2 i (by omega)⟩
theorem PM_row {k w : Nat} {x x1 : qm_Hp} {v : VW} (ok : OKP w v) (hw : zI x1 9 0 1 = nI w) (h : ∀ i, i < 420 * (2 + k) + 420 → zI x1 61 0 i = zI x 61 0 i) (hP : PM x (420 * (2 + k)) w v) : PM x1 (420 * (2 + k)) w v := PM_tr ok hw (fun j hj => h _ (by omega)) hP
