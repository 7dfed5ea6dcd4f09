/-! the reference's figure, expects, laidBy -/
theorem nx_R (D : Nat) {y : qm_Hp} {B : Nat → Nat} {L i : Nat} (hB : BYM B L y) (h8 : zI y 9 0 8 = nI (tk0 B L (stt B L i)).2.2) : ∃ y', qm_evM (D + 2) jM_nextToken [qP 9 0] y = some (none, y') ∧ NF Sx y y' ∧ RTK B L (stt B L (i + 1)) y' := by
  have hb : ∀ j, j < L → B j < 256 := fun j hj => (hB.2.2 j hj).2
  exact r_next D hB (tk_end hb (stt_le hb i)) h8
/-- what laidBy may change -/
def LFp (c k j : Nat) : Prop := (k = 9 ∧ 8 ≤ j ∧ j ≤ 11) ∨ (k = 62 ∧ c + 1 ≤ j ∧ j ≤ c + 4)
def LF (c : Nat) (x x' : qm_Hp) : Prop := (∀ k i j, ¬ LFp c k j → zI x' k i j = zI x k i j) ∧ (∀ k i j, ¬ (k = 9 ∧ j = 12) → zL x' k i j = zL x k i j) ∧ (∀ k i j, zP x' k i j = zP x k i j)
theorem LF_refl (c : Nat) (x : qm_Hp) : LF c x x := ⟨fun _ _ _ _ => rfl, fun _ _ _ _ => rfl, fun _ _ _ => rfl⟩
theorem LF_tr {c : Nat} {x1 x2 x3 : qm_Hp} (h1 : LF c x1 x2) (h2 : LF c x2 x3) : LF c x1 x3 := ⟨fun k i j h => (h2.1 k i j h).trans (h1.1 k i j h), fun k i j h => (h2.2.1 k i j h).trans (h1.2.1 k i j h), fun k i j => (h2.2.2 k i j).trans (h1.2.2 k i j)⟩
theorem LF_NF {c : Nat} {x x' : qm_Hp} (h : NF Sx x x') : LF c x x' := ⟨fun k i j q => h.1 k i j (fun g => q (Or.inl ⟨g.1, g.2⟩)), h.2.1, h.2.2⟩
theorem BYM_LF {c : Nat} {B : Nat → Nat} {L : Nat} {x x' : qm_Hp} (h : LF c x x') (g : BYM B L x) : BYM B L x' := ⟨(h.1 9 0 5 (by unfold LFp; omega)).trans g.1, g.2.1, fun j hj => ⟨(h.1 63 0 j (by unfold LFp; omega)).trans (g.2.2 j hj).1, (g.2.2 j hj).2⟩⟩
theorem fg_1 (D : Nat) {x : qm_Hp} {t c lo hi : Nat} (h10 : zI x 9 0 10 = nI t) (ht : t ≤ 62 ∧ t ≠ 1) : qm_evM D jM_figure [qP 9 0, qI (nI c), qI (nI lo), qI (nI hi)] x = some (some (qI (nI 1)), x) := by
  obtain ⟨h1, h2⟩ := ht
  simp (config := {maxSteps := 1000000}) (disch := first | omega | assumption | (simp only [qm_wid_n, qm_wid_I, qm_wid_L, qm_wid_P]; omega) | (simp only [qm_wid_n, qm_wid_I, qm_wid_L, qm_wid_P]; done) | fail) only [e_M_figure, b_M_figure_0, qy0, qy1, qy2, qy3, qe, qcn, qin, ↓reduceIte, Nat.reduceEqDiff, Nat.reduceLeDiff, Bool.false_eq_true, Nat.reduceAdd, Nat.reduceSub, Nat.reduceMul, Nat.reduceLT, or_self, or_false, false_or, or_true, true_or, and_self, and_true, true_and, and_false, false_and, not_true_eq_false, not_false_eq_true, h10]
theorem fg_2 (D : Nat) {x : qm_Hp} {n c lo hi : Nat} (h10 : zI x 9 0 10 = nI 1) (h11 : zI x 9 0 11 = nI n) (hn : n ≤ 2000000 ∧ lo ≤ 2000 ∧ hi ≤ 2000) (h : ¬ (lo ≤ n ∧ n ≤ hi)) : qm_evM (D + 1) jM_figure [qP 9 0, qI (nI c), qI (nI lo), qI (nI hi)] x = some (some (qI (nI 2)), x) := by
  rcases (by omega : n < lo ∨ hi < n) with g | g
  · simp (config := {maxSteps := 1000000}) (disch := first | omega | assumption | (simp only [qm_wid_n, qm_wid_I, qm_wid_L, qm_wid_P]; omega) | (simp only [qm_wid_n, qm_wid_I, qm_wid_L, qm_wid_P]; done) | fail) only [e_M_figure, b_M_figure_0, b_M_figure_1, qy0, qy1, qy2, qy3, qe, qcn, qin, ↓reduceIte, Nat.reduceEqDiff, Nat.reduceLeDiff, Bool.false_eq_true, Nat.reduceAdd, Nat.reduceSub, Nat.reduceMul, Nat.reduceLT, or_self, or_false, false_or, or_true, true_or, and_self, and_true, true_and, and_false, false_and, not_true_eq_false, not_false_eq_true, h10, h11, t_isIn]
  · simp (config := {maxSteps := 1000000}) (disch := first | omega | assumption | (simp only [qm_wid_n, qm_wid_I, qm_wid_L, qm_wid_P]; omega) | (simp only [qm_wid_n, qm_wid_I, qm_wid_L, qm_wid_P]; done) | fail) only [e_M_figure, b_M_figure_0, b_M_figure_1, qy0, qy1, qy2, qy3, qe, qcn, qin, ↓reduceIte, Nat.reduceEqDiff, Nat.reduceLeDiff, Bool.false_eq_true, Nat.reduceAdd, Nat.reduceSub, Nat.reduceMul, Nat.reduceLT, or_self, or_false, false_or, or_true, true_or, and_self, and_true, true_and, and_false, false_and, not_true_eq_false, not_false_eq_true, h10, h11, t_isIn]
theorem fg_0 (D : Nat) {x x1 : qm_Hp} {n c lo hi : Nat} (h10 : zI x 9 0 10 = nI 1) (h11 : zI x 9 0 11 = nI n) (hn : lo ≤ n ∧ n ≤ hi ∧ hi ≤ 2000) (hc : c < 2880) (nx : qm_evM D jM_nextToken [qP 9 0] (uI x 62 0 c (nI n)) = some (none, x1)) : qm_evM (D + 1) jM_figure [qP 9 0, qI (nI c), qI (nI lo), qI (nI hi)] x = some (some (qI (nI 0)), x1) := by
  obtain ⟨h1, h2, h3⟩ := hn
  simp (config := {maxSteps := 1000000}) (disch := first | omega | assumption | (simp only [qm_wid_n, qm_wid_I, qm_wid_L, qm_wid_P]; omega) | (simp only [qm_wid_n, qm_wid_I, qm_wid_L, qm_wid_P]; done) | fail) only [e_M_figure, b_M_figure_0, b_M_figure_1, b_M_figure_2, qy0, qy1, qy2, qy3, qe, qcn, qin, ↓reduceIte, Nat.reduceEqDiff, Nat.reduceLeDiff, Bool.false_eq_true, Nat.reduceAdd, Nat.reduceSub, Nat.reduceMul, Nat.reduceLT, or_self, or_false, false_or, or_true, true_or, and_self, and_true, true_and, and_false, false_and, not_true_eq_false, not_false_eq_true, h10, h11, t_isIn, nx]
theorem ex_n (D : Nat) (x : qm_Hp) : qm_evM D jM_expects [qP 9 0, qI (nI 0)] x = some (some (qI (nI 1)), x) := by
  simp (config := {maxSteps := 1000000}) (disch := first | omega | assumption | (simp only [qm_wid_n, qm_wid_I, qm_wid_L, qm_wid_P]; omega) | (simp only [qm_wid_n, qm_wid_I, qm_wid_L, qm_wid_P]; done) | fail) only [e_M_expects, b_M_expects_0, qy0, qy1, qy2, qy3, qe, qcn, qin, ↓reduceIte, Nat.reduceEqDiff, Nat.reduceLeDiff, Bool.false_eq_true, Nat.reduceAdd, Nat.reduceSub, Nat.reduceMul, Nat.reduceLT, or_self, or_false, false_or, or_true, true_or, and_self, and_true, true_and, and_false, false_and, not_true_eq_false, not_false_eq_true]
theorem ex_y (D : Nat) {x x1 : qm_Hp} (nx : qm_evM D jM_nextToken [qP 9 0] x = some (none, x1)) : qm_evM (D + 1) jM_expects [qP 9 0, qI (nI 1)] x = some (some (qI (nI 0)), x1) := by
  simp (config := {maxSteps := 1000000}) (disch := first | omega | assumption | (simp only [qm_wid_n, qm_wid_I, qm_wid_L, qm_wid_P]; omega) | (simp only [qm_wid_n, qm_wid_I, qm_wid_L, qm_wid_P]; done) | fail) only [e_M_expects, b_M_expects_0, b_M_expects_1, qy0, qy1, qy2, qy3, qe, qcn, qin, ↓reduceIte, Nat.reduceEqDiff, Nat.reduceLeDiff, Bool.false_eq_true, Nat.reduceAdd, Nat.reduceSub, Nat.reduceMul, Nat.reduceLT, or_self, or_false, false_or, or_true, true_or, and_self, and_true, true_and, and_false, false_and, not_true_eq_false, not_false_eq_true, nx]
/-- a state of laidBy: what was read so far -/
def LYS (x0 : qm_Hp) (B : Nat → Nat) (L c : Nat) (r : PR) (x : qm_Hp) : Prop := LF c x0 x ∧ RTK B L (stt B L r.2.1) x ∧ r.1 ≤ 9 ∧ (r.1 = 0 → ∀ k, k < r.2.2.length → zI x 62 0 (c + 1 + k) = nI (r.2.2.getD k (0, 0)).2)
theorem r_fig (D : Nat) {x : qm_Hp} {B : Nat → Nat} {L i c lo hi : Nat} (hB : BYM B L x) (hR : RTK B L (stt B L i) x) (hc : c < 2880) (hh : lo ≤ 2000 ∧ hi ≤ 2000) : ∃ x', qm_evM (D + 3) jM_figure [qP 9 0, qI (nI c), qI (nI lo), qI (nI hi)] x = some (some (qI (nI (told (TKr B L) (VLr B L) lo hi i).1)), x') ∧ RTK B L (stt B L (told (TKr B L) (VLr B L) lo hi i).2.1) x' ∧ ((told (TKr B L) (VLr B L) lo hi i).1 ≠ 0 → x' = x) ∧ ((told (TKr B L) (VLr B L) lo hi i).1 = 0 → NF Sx (uI x 62 0 c (nI (VLr B L i))) x') := by
  have hk : RK (TKr B L i) (VLr B L i) x := RTK_RK (fun j hj => (hB.2.2 j hj).2) hR
  unfold told
  obtain ⟨t, h10, tt, hn, -⟩ := hk
  by_cases q : TKr B L i = 40
  · rw [if_pos q]
    rw [q] at tt
    have t1 := TT_40 tt
    subst t1
    obtain ⟨n, h11, n2, hn⟩ := hn rfl
    by_cases v : lo ≤ VLr B L i ∧ VLr B L i ≤ hi
    · rw [if_pos v]
      have en : n = VLr B L i := by omega
      subst en
      have hB1 : BYM B L (uI x 62 0 c (nI (VLr B L i))) := ⟨by rw [zI_uI, if_neg (by omega)]; exact hB.1, hB.2.1, fun j hj => ⟨by rw [zI_uI, if_neg (by omega)]; exact (hB.2.2 j hj).1, (hB.2.2 j hj).2⟩⟩
      obtain ⟨x', e, N, R'⟩ := nx_R D (i := i) hB1 (by rw [zI_uI, if_neg (by omega)]; exact hR.2.1)
      exact ⟨x', fg_0 (D + 2) h10 h11 ⟨v.1, v.2, hh.2⟩ hc e, R', fun g => absurd rfl g, fun _ => N⟩
    · rw [if_neg v]
      exact ⟨x, fg_2 (D + 2) h10 h11 ⟨n2, hh.1, hh.2⟩ (by omega), hR, fun _ => rfl, fun g => absurd g (show ¬ (2 : Nat) = 0 by decide)⟩
  · rw [if_neg q]
    have tb := TT_b tt
    have ar := TT_ar tt
    exact ⟨x, fg_1 (D + 3) h10 ⟨tb.1, fun g => q (ar.2.2.2.2.2.2.2.2.1 g)⟩, hR, fun _ => rfl, fun g => absurd g (show ¬ (1 : Nat) = 0 by decide)⟩
theorem r_exp (D : Nat) {x : qm_Hp} {B : Nat → Nat} {L i c : Nat} (hB : BYM B L x) (hR : RTK B L (stt B L i) x) : ∃ x', qm_evM (D + 3) jM_expects [qP 9 0, qI (nI (if TKr B L i = c then 1 else 0))] x = some (some (qI (nI (want (TKr B L) c i).1)), x') ∧ RTK B L (stt B L (want (TKr B L) c i).2.1) x' ∧ NF Sx x x' := by
  unfold want
  by_cases q : TKr B L i = c
  · rw [if_pos q, if_pos q]
    obtain ⟨x', e, N, R'⟩ := nx_R D (i := i) hB hR.2.1
    exact ⟨x', ex_y (D + 2) e, R', N⟩
  · rw [if_neg q, if_neg q]
    exact ⟨x, ex_n (D + 3) x, hR, NF_refl _ _⟩
/-- one more number -/
theorem LYS_fig {D : Nat} {x0 x : qm_Hp} {B : Nat → Nat} {L c lo hi k : Nat} {r : PR} (hB : BYM B L x0) (h : LYS x0 B L c r x) (hr : r.1 = 0) (hk : k = r.2.2.length) (hk4 : k < 4) (hc : c + 4 < 2880) (hh : lo ≤ 2000 ∧ hi ≤ 2000) : ∃ x', qm_evM (D + 3) jM_figure [qP 9 0, qI (nI (c + 1 + k)), qI (nI lo), qI (nI hi)] x = some (some (qI (nI (sq r (told (TKr B L) (VLr B L) lo hi)).1)), x') ∧ LYS x0 B L c (sq r (told (TKr B L) (VLr B L) lo hi)) x' := by
  obtain ⟨F, R, _, hz⟩ := h
  obtain ⟨x', e, R', g1, g2⟩ := r_fig D (lo := lo) (hi := hi) (BYM_LF F hB) R (show c + 1 + k < 2880 by omega) hh
  have hz := hz hr
  unfold sq
  rw [bnd_0 hr]
  by_cases q : (told (TKr B L) (VLr B L) lo hi r.2.1).1 = 0
  · have N := g2 q
    have et := told_0 q
    rw [bnd_0 q]
    rw [q] at e
    have Fu : LF c x (uI x 62 0 (c + 1 + k) (nI (VLr B L r.2.1))) := ⟨fun k' i' j' q' => by rw [zI_uI, if_neg (fun g => q' (by unfold LFp; omega))], fun _ _ _ _ => rfl, fun _ _ _ => rfl⟩
    refine ⟨x', e, LF_tr F (LF_tr Fu (LF_NF N)), R', by show (0 : Nat) ≤ 9; decide, fun _ m hm => ?_⟩
    · rw [N.1 62 0 _ (by omega), zI_uI]
      show (if (62 : Nat) = 62 ∧ (0 : Nat) = 0 ∧ c + 1 + m = c + 1 + k then _ else _) = nI ((r.2.2 ++ (told (TKr B L) (VLr B L) lo hi r.2.1).2.2).getD m (0, 0)).2
      rw [et.2] at hm ⊢
      have hm : m < (r.2.2 ++ [(0, VLr B L r.2.1)]).length := hm
      rw [List.length_append] at hm
      have hm : m < r.2.2.length + 1 := hm
      show _ = nI ((r.2.2 ++ [(0, VLr B L r.2.1)]).getD m (0, 0)).2
      by_cases mk : m = k
      · rw [if_pos ⟨rfl, rfl, by omega⟩, List.getD_eq_getElem?_getD, List.getElem?_append_right (by omega), mk, hk, Nat.sub_self]
        rfl
      · rw [if_neg (by omega), hz m (by omega), List.getD_eq_getElem?_getD, List.getD_eq_getElem?_getD, List.getElem?_append_left (by omega)]
  · rw [bnd_n q]
    have ex := g1 q
    subst ex
    have t9 : (told (TKr B L) (VLr B L) lo hi r.2.1).1 ≤ 9 := by
      unfold told
      by_cases h1 : TKr B L r.2.1 = 40
      · rw [if_pos h1]
        by_cases h2 : lo ≤ VLr B L r.2.1 ∧ VLr B L r.2.1 ≤ hi
        · rw [if_pos h2]; show (0 : Nat) ≤ 9; decide
        · rw [if_neg h2]; show (2 : Nat) ≤ 9; decide
      · rw [if_neg h1]; show (1 : Nat) ≤ 9; decide
    exact ⟨x', e, F, R', t9, fun g => absurd g q⟩
theorem LYS_exp {D : Nat} {x0 x : qm_Hp} {B : Nat → Nat} {L c w : Nat} {r : PR} (hB : BYM B L x0) (h : LYS x0 B L c r x) (hr : r.1 = 0) : ∃ x', qm_evM (D + 3) jM_expects [qP 9 0, qI (nI (if TKr B L r.2.1 = w then 1 else 0))] x = some (some (qI (nI (sq r (want (TKr B L) w)).1)), x') ∧ LYS x0 B L c (sq r (want (TKr B L) w)) x' := by
  obtain ⟨F, R, _, hz⟩ := h
  obtain ⟨x', e, R', N⟩ := r_exp D (c := w) (BYM_LF F hB) R
  have hz := hz hr
  unfold sq
  rw [bnd_0 hr]
  by_cases q : (want (TKr B L) w r.2.1).1 = 0
  · have et := want_0 q
    rw [bnd_0 q]
    rw [q] at e
    refine ⟨x', e, LF_tr F (LF_NF N), R', by show (0 : Nat) ≤ 9; decide, fun _ m hm => ?_⟩
    rw [et.2] at hm ⊢
    have hm : m < (r.2.2 ++ []).length := hm
    show _ = nI ((r.2.2 ++ []).getD m (0, 0)).2
    rw [List.append_nil] at hm ⊢
    rw [N.1 62 0 _ (by omega)]
    exact hz m hm
  · rw [bnd_n q]
    have t9 : (want (TKr B L) w r.2.1).1 ≤ 9 := by
      unfold want
      by_cases h1 : TKr B L r.2.1 = w
      · rw [if_pos h1]; show (0 : Nat) ≤ 9; decide
      · rw [if_neg h1]; show (1 : Nat) ≤ 9; decide
    exact ⟨x', e, LF_tr F (LF_NF N), R', t9, fun g => absurd g q⟩
theorem RTK_cm {x : qm_Hp} {B : Nat → Nat} {L i : Nat} (hB : BYM B L x) (hR : RTK B L (stt B L i) x) : ∃ t, zI x 9 0 10 = nI t ∧ t ≤ 62 ∧ (t = 44 ↔ TKr B L i = 55) ∧ (t = 59 ↔ TKr B L i = 56) ∧ (t = 0 ↔ TKr B L i = 41) ∧ ((TKr B L i = 29) ↔ (t = 2 ∧ lg_cmp (zL x 9 0 12) (wdK 29) = nI 0)) := by
  have hk : RK (TKr B L i) (VLr B L i) x := RTK_RK (fun j hj => (hB.2.2 j hj).2) hR
  obtain ⟨t, h10, tt, -, hw⟩ := hk
  have tb := TT_b tt
  have ar := TT_ar tt
  refine ⟨t, h10, tb.1, ⟨ar.2.2.2.2.2.2.1, fun g => ?_⟩, ⟨ar.2.2.2.2.2.2.2.1, fun g => ?_⟩, ⟨ar.2.2.2.2.2.2.2.2.2, fun g => ?_⟩, fun g => ?_, fun g => ?_⟩
  · rw [g] at tt; exact TT_s tt (by decide)
  · rw [g] at tt; exact TT_s tt (by decide)
  · rw [g] at tt; unfold TT at tt; omega
  · rw [g] at tt
    have t2 := TT_w tt (by decide)
    exact ⟨t2, (lg_0 _ _).mpr ((hw t2 29 (by decide)).mpr g)⟩
  · exact (hw g.1 29 (by decide)).mp ((lg_0 _ _).mp g.2)
theorem lb_f3 (D : Nat) {x : qm_Hp} {c : Int32} {f : Nat} (hf : 1 ≤ f ∧ f ≤ 9) : qm_evB D jM_laidBy 3 [qP 9 0, qI c, qI (nI f)] [] x = qm_evB D jM_laidBy 4 [qP 9 0, qI c, qI (nI f)] [] x := by
  simp (config := {maxSteps := 1000000}) (disch := first | omega | assumption | (simp only [qm_wid_n, qm_wid_I, qm_wid_L, qm_wid_P]; omega) | (simp only [qm_wid_n, qm_wid_I, qm_wid_L, qm_wid_P]; done) | fail) only [b_M_laidBy_3, qy0, qy1, qy2, qy3, qe, qcn, qin, ↓reduceIte, Nat.reduceEqDiff, Nat.reduceLeDiff, Bool.false_eq_true, Nat.reduceAdd, Nat.reduceSub, Nat.reduceMul, Nat.reduceLT, or_self, or_false, false_or, or_true, true_or, and_self, and_true, true_and, and_false, false_and, not_true_eq_false, not_false_eq_true]
theorem lb_f4 (D : Nat) {x : qm_Hp} {c : Int32} {f : Nat} (hf : 1 ≤ f ∧ f ≤ 9) : qm_evB D jM_laidBy 4 [qP 9 0, qI c, qI (nI f)] [] x = qm_evB D jM_laidBy 7 [qP 9 0, qI c, qI (nI f)] [] x := by
  simp (config := {maxSteps := 1000000}) (disch := first | omega | assumption | (simp only [qm_wid_n, qm_wid_I, qm_wid_L, qm_wid_P]; omega) | (simp only [qm_wid_n, qm_wid_I, qm_wid_L, qm_wid_P]; done) | fail) only [b_M_laidBy_4, qy0, qy1, qy2, qy3, qe, qcn, qin, ↓reduceIte, Nat.reduceEqDiff, Nat.reduceLeDiff, Bool.false_eq_true, Nat.reduceAdd, Nat.reduceSub, Nat.reduceMul, Nat.reduceLT, or_self, or_false, false_or, or_true, true_or, and_self, and_true, true_and, and_false, false_and, not_true_eq_false, not_false_eq_true]
theorem lb_f7 (D : Nat) {x : qm_Hp} {c : Int32} {f : Nat} (hf : 1 ≤ f ∧ f ≤ 9) : qm_evB D jM_laidBy 7 [qP 9 0, qI c, qI (nI f)] [] x = qm_evB D jM_laidBy 8 [qP 9 0, qI c, qI (nI f)] [] x := by
  simp (config := {maxSteps := 1000000}) (disch := first | omega | assumption | (simp only [qm_wid_n, qm_wid_I, qm_wid_L, qm_wid_P]; omega) | (simp only [qm_wid_n, qm_wid_I, qm_wid_L, qm_wid_P]; done) | fail) only [b_M_laidBy_7, qy0, qy1, qy2, qy3, qe, qcn, qin, ↓reduceIte, Nat.reduceEqDiff, Nat.reduceLeDiff, Bool.false_eq_true, Nat.reduceAdd, Nat.reduceSub, Nat.reduceMul, Nat.reduceLT, or_self, or_false, false_or, or_true, true_or, and_self, and_true, true_and, and_false, false_and, not_true_eq_false, not_false_eq_true]
theorem lb_f8 (D : Nat) {x : qm_Hp} {c : Int32} {f : Nat} (hf : 1 ≤ f ∧ f ≤ 9) : qm_evB D jM_laidBy 8 [qP 9 0, qI c, qI (nI f)] [] x = qm_evB D jM_laidBy 11 [qP 9 0, qI c, qI (nI f)] [] x := by
  simp (config := {maxSteps := 1000000}) (disch := first | omega | assumption | (simp only [qm_wid_n, qm_wid_I, qm_wid_L, qm_wid_P]; omega) | (simp only [qm_wid_n, qm_wid_I, qm_wid_L, qm_wid_P]; done) | fail) only [b_M_laidBy_8, qy0, qy1, qy2, qy3, qe, qcn, qin, ↓reduceIte, Nat.reduceEqDiff, Nat.reduceLeDiff, Bool.false_eq_true, Nat.reduceAdd, Nat.reduceSub, Nat.reduceMul, Nat.reduceLT, or_self, or_false, false_or, or_true, true_or, and_self, and_true, true_and, and_false, false_and, not_true_eq_false, not_false_eq_true]
theorem lb_f11 (D : Nat) {x : qm_Hp} {c : Int32} {f : Nat} (hf : 1 ≤ f ∧ f ≤ 9) : qm_evB D jM_laidBy 11 [qP 9 0, qI c, qI (nI f)] [] x = some (some (qI (nI f)), x) := by
  simp (config := {maxSteps := 1000000}) (disch := first | omega | assumption | (simp only [qm_wid_n, qm_wid_I, qm_wid_L, qm_wid_P]; omega) | (simp only [qm_wid_n, qm_wid_I, qm_wid_L, qm_wid_P]; done) | fail) only [b_M_laidBy_11, b_M_laidBy_12, b_M_laidBy_13, qy0, qy1, qy2, qy3, qe, qcn, qin, ↓reduceIte, Nat.reduceEqDiff, Nat.reduceLeDiff, Bool.false_eq_true, Nat.reduceAdd, Nat.reduceSub, Nat.reduceMul, Nat.reduceLT, or_self, or_false, false_or, or_true, true_or, and_self, and_true, true_and, and_false, false_and, not_true_eq_false, not_false_eq_true]
theorem lb_0f (D : Nat) {x x1 : qm_Hp} {c f : Nat} (hf : 1 ≤ f ∧ f ≤ 9) (fg : qm_evM D jM_figure [qP 9 0, qI (nI (c + 1)), qI (nI 0), qI (nI 3)] x = some (some (qI (nI f)), x1)) : qm_evM (D + 1) jM_laidBy [qP 9 0, qI (nI c)] x = qm_evB (D + 1) jM_laidBy 3 [qP 9 0, qI (nI c), qI (nI f)] [] x1 := by
  simp (config := {maxSteps := 1000000}) (disch := first | omega | assumption | (simp only [qm_wid_n, qm_wid_I, qm_wid_L, qm_wid_P]; omega) | (simp only [qm_wid_n, qm_wid_I, qm_wid_L, qm_wid_P]; done) | fail) only [e_M_laidBy, b_M_laidBy_0, qy0, qy1, qy2, qy3, qe, qcn, qin, ↓reduceIte, Nat.reduceEqDiff, Nat.reduceLeDiff, Bool.false_eq_true, Nat.reduceAdd, Nat.reduceSub, Nat.reduceMul, Nat.reduceLT, or_self, or_false, false_or, or_true, true_or, and_self, and_true, true_and, and_false, false_and, not_true_eq_false, not_false_eq_true, fg]
theorem lb_0 (D : Nat) {x x1 x2 : qm_Hp} {c t b : Nat} {r : Int32} (fg : qm_evM D jM_figure [qP 9 0, qI (nI (c + 1)), qI (nI 0), qI (nI 3)] x = some (some (qI (nI 0)), x1)) (h10 : zI x1 9 0 10 = nI t) (ht : t ≤ 62) (hb : (t = 44 ∧ b = 1) ∨ (t ≠ 44 ∧ b = 0)) (ex : qm_evM D jM_expects [qP 9 0, qI (nI b)] x1 = some (some (qI r), x2)) : qm_evM (D + 1) jM_laidBy [qP 9 0, qI (nI c)] x = qm_evB (D + 1) jM_laidBy 3 [qP 9 0, qI (nI c), qI r] [] x2 := by
  rcases hb with ⟨h1, h2⟩ | ⟨h1, h2⟩ <;> subst h2
  · simp (config := {maxSteps := 1000000}) (disch := first | omega | assumption | (simp only [qm_wid_n, qm_wid_I, qm_wid_L, qm_wid_P]; omega) | (simp only [qm_wid_n, qm_wid_I, qm_wid_L, qm_wid_P]; done) | fail) only [e_M_laidBy, b_M_laidBy_0, b_M_laidBy_2, qy0, qy1, qy2, qy3, qe, qcn, qin, ↓reduceIte, Nat.reduceEqDiff, Nat.reduceLeDiff, Bool.false_eq_true, Nat.reduceAdd, Nat.reduceSub, Nat.reduceMul, Nat.reduceLT, or_self, or_false, false_or, or_true, true_or, and_self, and_true, true_and, and_false, false_and, not_true_eq_false, not_false_eq_true, fg, h10, ex]
  · simp (config := {maxSteps := 1000000}) (disch := first | omega | assumption | (simp only [qm_wid_n, qm_wid_I, qm_wid_L, qm_wid_P]; omega) | (simp only [qm_wid_n, qm_wid_I, qm_wid_L, qm_wid_P]; done) | fail) only [e_M_laidBy, b_M_laidBy_0, b_M_laidBy_1, b_M_laidBy_2, qy0, qy1, qy2, qy3, qe, qcn, qin, ↓reduceIte, Nat.reduceEqDiff, Nat.reduceLeDiff, Bool.false_eq_true, Nat.reduceAdd, Nat.reduceSub, Nat.reduceMul, Nat.reduceLT, or_self, or_false, false_or, or_true, true_or, and_self, and_true, true_and, and_false, false_and, not_true_eq_false, not_false_eq_true, fg, h10, ex]
theorem lb_3 (D : Nat) {x x1 : qm_Hp} {c : Nat} {r : Int32} (fg : qm_evM D jM_figure [qP 9 0, qI (nI (c + 2)), qI (nI 1), qI (nI 20)] x = some (some (qI r), x1)) : qm_evB (D + 1) jM_laidBy 3 [qP 9 0, qI (nI c), qI (nI 0)] [] x = qm_evB (D + 1) jM_laidBy 4 [qP 9 0, qI (nI c), qI r] [] x1 := by
  simp (config := {maxSteps := 1000000}) (disch := first | omega | assumption | (simp only [qm_wid_n, qm_wid_I, qm_wid_L, qm_wid_P]; omega) | (simp only [qm_wid_n, qm_wid_I, qm_wid_L, qm_wid_P]; done) | fail) only [b_M_laidBy_3, qy0, qy1, qy2, qy3, qe, qcn, qin, ↓reduceIte, Nat.reduceEqDiff, Nat.reduceLeDiff, Bool.false_eq_true, Nat.reduceAdd, Nat.reduceSub, Nat.reduceMul, Nat.reduceLT, or_self, or_false, false_or, or_true, true_or, and_self, and_true, true_and, and_false, false_and, not_true_eq_false, not_false_eq_true, fg]
theorem lb_4 (D : Nat) {x x2 : qm_Hp} {c t b : Nat} {r : Int32} (h10 : zI x 9 0 10 = nI t) (ht : t ≤ 62) (hb : (t = 44 ∧ b = 1) ∨ (t ≠ 44 ∧ b = 0)) (ex : qm_evM D jM_expects [qP 9 0, qI (nI b)] x = some (some (qI r), x2)) : qm_evB (D + 1) jM_laidBy 4 [qP 9 0, qI (nI c), qI (nI 0)] [] x = qm_evB (D + 1) jM_laidBy 7 [qP 9 0, qI (nI c), qI r] [] x2 := by
  rcases hb with ⟨h1, h2⟩ | ⟨h1, h2⟩ <;> subst h2
  · simp (config := {maxSteps := 1000000}) (disch := first | omega | assumption | (simp only [qm_wid_n, qm_wid_I, qm_wid_L, qm_wid_P]; omega) | (simp only [qm_wid_n, qm_wid_I, qm_wid_L, qm_wid_P]; done) | fail) only [b_M_laidBy_4, b_M_laidBy_6, qy0, qy1, qy2, qy3, qe, qcn, qin, ↓reduceIte, Nat.reduceEqDiff, Nat.reduceLeDiff, Bool.false_eq_true, Nat.reduceAdd, Nat.reduceSub, Nat.reduceMul, Nat.reduceLT, or_self, or_false, false_or, or_true, true_or, and_self, and_true, true_and, and_false, false_and, not_true_eq_false, not_false_eq_true, h10, ex]
  · simp (config := {maxSteps := 1000000}) (disch := first | omega | assumption | (simp only [qm_wid_n, qm_wid_I, qm_wid_L, qm_wid_P]; omega) | (simp only [qm_wid_n, qm_wid_I, qm_wid_L, qm_wid_P]; done) | fail) only [b_M_laidBy_4, b_M_laidBy_5, b_M_laidBy_6, qy0, qy1, qy2, qy3, qe, qcn, qin, ↓reduceIte, Nat.reduceEqDiff, Nat.reduceLeDiff, Bool.false_eq_true, Nat.reduceAdd, Nat.reduceSub, Nat.reduceMul, Nat.reduceLT, or_self, or_false, false_or, or_true, true_or, and_self, and_true, true_and, and_false, false_and, not_true_eq_false, not_false_eq_true, h10, ex]
theorem lb_7 (D : Nat) {x x1 : qm_Hp} {c : Nat} {r : Int32} (fg : qm_evM D jM_figure [qP 9 0, qI (nI (c + 3)), qI (nI 0), qI (nI 2000)] x = some (some (qI r), x1)) : qm_evB (D + 1) jM_laidBy 7 [qP 9 0, qI (nI c), qI (nI 0)] [] x = qm_evB (D + 1) jM_laidBy 8 [qP 9 0, qI (nI c), qI r] [] x1 := by
  simp (config := {maxSteps := 1000000}) (disch := first | omega | assumption | (simp only [qm_wid_n, qm_wid_I, qm_wid_L, qm_wid_P]; omega) | (simp only [qm_wid_n, qm_wid_I, qm_wid_L, qm_wid_P]; done) | fail) only [b_M_laidBy_7, qy0, qy1, qy2, qy3, qe, qcn, qin, ↓reduceIte, Nat.reduceEqDiff, Nat.reduceLeDiff, Bool.false_eq_true, Nat.reduceAdd, Nat.reduceSub, Nat.reduceMul, Nat.reduceLT, or_self, or_false, false_or, or_true, true_or, and_self, and_true, true_and, and_false, false_and, not_true_eq_false, not_false_eq_true, fg]
theorem lb_8 (D : Nat) {x x2 : qm_Hp} {c t b : Nat} {r : Int32} (h10 : zI x 9 0 10 = nI t) (ht : t ≤ 62) (hb : ((t = 2 ∧ lg_cmp (zL x 9 0 12) (wdK 29) = nI 0) ∧ b = 1) ∨ (¬ (t = 2 ∧ lg_cmp (zL x 9 0 12) (wdK 29) = nI 0) ∧ b = 0)) (ex : qm_evM D jM_expects [qP 9 0, qI (nI b)] x = some (some (qI r), x2)) : qm_evB (D + 1) jM_laidBy 8 [qP 9 0, qI (nI c), qI (nI 0)] [] x = qm_evB (D + 1) jM_laidBy 11 [qP 9 0, qI (nI c), qI r] [] x2 := by
  rcases hb with ⟨⟨h1, h3⟩, h2⟩ | ⟨h1, h2⟩ <;> subst h2
  · subst h1
    simp (config := {maxSteps := 1000000}) (disch := first | omega | assumption | (simp only [qm_wid_n, qm_wid_I, qm_wid_L, qm_wid_P]; omega) | (simp only [qm_wid_n, qm_wid_I, qm_wid_L, qm_wid_P]; done) | fail) only [b_M_laidBy_8, b_M_laidBy_10, qy0, qy1, qy2, qy3, qe, qcn, qin, ↓reduceIte, Nat.reduceEqDiff, Nat.reduceLeDiff, Bool.false_eq_true, Nat.reduceAdd, Nat.reduceSub, Nat.reduceMul, Nat.reduceLT, or_self, or_false, false_or, or_true, true_or, and_self, and_true, true_and, and_false, false_and, not_true_eq_false, not_false_eq_true, h10, wk_on2, h3, ex]
  · by_cases q : t = 2
    · subst q
      have h3 : ¬ lg_cmp (zL x 9 0 12) (wdK 29) = nI 0 := fun g => h1 ⟨rfl, g⟩
      simp (config := {maxSteps := 1000000}) (disch := first | omega | assumption | (simp only [qm_wid_n, qm_wid_I, qm_wid_L, qm_wid_P]; omega) | (simp only [qm_wid_n, qm_wid_I, qm_wid_L, qm_wid_P]; done) | fail) only [b_M_laidBy_8, b_M_laidBy_9, b_M_laidBy_10, qy0, qy1, qy2, qy3, qe, qcn, qin, ↓reduceIte, Nat.reduceEqDiff, Nat.reduceLeDiff, Bool.false_eq_true, Nat.reduceAdd, Nat.reduceSub, Nat.reduceMul, Nat.reduceLT, or_self, or_false, false_or, or_true, true_or, and_self, and_true, true_and, and_false, false_and, not_true_eq_false, not_false_eq_true, h10, wk_on2, h3, ex]
    · clear h1
      simp (config := {maxSteps := 1000000}) (disch := first | omega | assumption | (simp only [qm_wid_n, qm_wid_I, qm_wid_L, qm_wid_P]; omega) | (simp only [qm_wid_n, qm_wid_I, qm_wid_L, qm_wid_P]; done) | fail) only [b_M_laidBy_8, b_M_laidBy_9, b_M_laidBy_10, qy0, qy1, qy2, qy3, qe, qcn, qin, ↓reduceIte, Nat.reduceEqDiff, Nat.reduceLeDiff, Bool.false_eq_true, Nat.reduceAdd, Nat.reduceSub, Nat.reduceMul, Nat.reduceLT, or_self, or_false, false_or, or_true, true_or, and_self, and_true, true_and, and_false, false_and, not_true_eq_false, not_false_eq_true, h10, ex]
theorem lb_11 (D : Nat) {x x1 : qm_Hp} {c : Nat} {r : Int32} (fg : qm_evM D jM_figure [qP 9 0, qI (nI (c + 4)), qI (nI 0), qI (nI 5)] x = some (some (qI r), x1)) : qm_evB (D + 1) jM_laidBy 11 [qP 9 0, qI (nI c), qI (nI 0)] [] x = some (some (qI r), x1) := by
  simp (config := {maxSteps := 1000000}) (disch := first | omega | assumption | (simp only [qm_wid_n, qm_wid_I, qm_wid_L, qm_wid_P]; omega) | (simp only [qm_wid_n, qm_wid_I, qm_wid_L, qm_wid_P]; done) | fail) only [b_M_laidBy_11, b_M_laidBy_13, qy0, qy1, qy2, qy3, qe, qcn, qin, ↓reduceIte, Nat.reduceEqDiff, Nat.reduceLeDiff, Bool.false_eq_true, Nat.reduceAdd, Nat.reduceSub, Nat.reduceMul, Nat.reduceLT, or_self, or_false, false_or, or_true, true_or, and_self, and_true, true_and, and_false, false_and, not_true_eq_false, not_false_eq_true, fg]
theorem sq_n {r : PR} {g : Nat → PR} (h : ¬ r.1 = 0) : sq r g = r := bnd_n h
theorem sq_i {i : Nat} {g : Nat → PR} : sq (0, i, []) g = g i := by
  unfold sq
  rw [bnd_0 rfl]
  by_cases q : (g i).1 = 0
  · rw [bnd_0 q]
    exact Prod.ext q.symm rfl
  · exact bnd_n q
theorem b_of {t w : Nat} {P : Prop} [Decidable P] (h : t = w ↔ P) : (t = w ∧ (if P then 1 else 0) = 1) ∨ (t ≠ w ∧ (if P then 1 else 0) = 0) := by
  by_cases q : P
  · exact Or.inl ⟨h.mpr q, if_pos q⟩
  · exact Or.inr ⟨fun g => q (h.mp g), if_neg q⟩
theorem r_laidBy (d : Nat) {x : qm_Hp} {B : Nat → Nat} {L i c : Nat} (hB : BYM B L x) (hR : RTK B L (stt B L i) x) (hc : c + 4 < 2880) : ∃ x', qm_evM (d + 4) jM_laidBy [qP 9 0, qI (nI c)] x = some (some (qI (nI (pLay (TKr B L) (VLr B L) i).1)), x') ∧ LYS x B L c (pLay (TKr B L) (VLr B L) i) x' := by
  have l0 : LYS x B L c (0, i, []) x := ⟨LF_refl _ _, hR, by show (0 : Nat) ≤ 9; decide, fun _ k hk => absurd hk (Nat.not_lt_zero _)⟩
  obtain ⟨x1, e1, l1⟩ := LYS_fig (D := d) (lo := 0) (hi := 3) (k := 0) hB l0 rfl rfl (by decide) hc (by decide)
  rw [sq_i] at e1 l1
  have n1 : (told (TKr B L) (VLr B L) 0 3 i).1 = 0 → (told (TKr B L) (VLr B L) 0 3 i).2.2.length = 1 := fun g => by rw [(told_0 g).2]; rfl
  unfold pLay
  generalize told (TKr B L) (VLr B L) 0 3 i = r1 at *
  have s2 : ∃ x2, qm_evM (d + 4) jM_laidBy [qP 9 0, qI (nI c)] x = qm_evB (d + 4) jM_laidBy 3 [qP 9 0, qI (nI c), qI (nI (sq r1 (want (TKr B L) 55)).1)] [] x2 ∧ LYS x B L c (sq r1 (want (TKr B L) 55)) x2 := by
    by_cases q : r1.1 = 0
    · obtain ⟨x2, e2, l2⟩ := LYS_exp (D := d) (w := 55) hB l1 q
      obtain ⟨t, h10, ht, h44, _⟩ := RTK_cm (BYM_LF l1.1 hB) l1.2.1
      rw [q] at e1
      exact ⟨x2, lb_0 (d + 3) e1 h10 ht (b_of h44) e2, l2⟩
    · rw [sq_n q]
      exact ⟨x1, lb_0f (d + 3) ⟨by omega, l1.2.2.1⟩ e1, l1⟩
  obtain ⟨x2, e2, l2⟩ := s2
  have n2 : (sq r1 (want (TKr B L) 55)).1 = 0 → (sq r1 (want (TKr B L) 55)).2.2.length = 1 := fun g => by
    have h := sqw g
    rw [h.2]
    exact n1 h.1
  generalize sq r1 (want (TKr B L) 55) = r2 at *
  have s3 : ∃ x3, qm_evB (d + 4) jM_laidBy 3 [qP 9 0, qI (nI c), qI (nI r2.1)] [] x2 = qm_evB (d + 4) jM_laidBy 4 [qP 9 0, qI (nI c), qI (nI (sq r2 (told (TKr B L) (VLr B L) 1 20)).1)] [] x3 ∧ LYS x B L c (sq r2 (told (TKr B L) (VLr B L) 1 20)) x3 := by
    by_cases q : r2.1 = 0
    · obtain ⟨x3, e3, l3⟩ := LYS_fig (D := d) (lo := 1) (hi := 20) (k := 1) hB l2 q (n2 q).symm (by decide) hc (by decide)
      rw [q]
      exact ⟨x3, lb_3 (d + 3) e3, l3⟩
    · rw [sq_n q]
      exact ⟨x2, lb_f3 (d + 4) ⟨by omega, l2.2.2.1⟩, l2⟩
  obtain ⟨x3, e3, l3⟩ := s3
  have n3 : (sq r2 (told (TKr B L) (VLr B L) 1 20)).1 = 0 → (sq r2 (told (TKr B L) (VLr B L) 1 20)).2.2.length = 2 := fun g => by
    obtain ⟨h1, v, _, h2⟩ := sqt g
    rw [h2]
    show (r2.2.2 ++ [(0, v)]).length = 2
    rw [List.length_append, n2 h1]
    rfl
  generalize sq r2 (told (TKr B L) (VLr B L) 1 20) = r3 at *
  have s4 : ∃ x4, qm_evB (d + 4) jM_laidBy 4 [qP 9 0, qI (nI c), qI (nI r3.1)] [] x3 = qm_evB (d + 4) jM_laidBy 7 [qP 9 0, qI (nI c), qI (nI (sq r3 (want (TKr B L) 55)).1)] [] x4 ∧ LYS x B L c (sq r3 (want (TKr B L) 55)) x4 := by
    by_cases q : r3.1 = 0
    · obtain ⟨x4, e4, l4⟩ := LYS_exp (D := d) (w := 55) hB l3 q
      obtain ⟨t, h10, ht, h44, _⟩ := RTK_cm (BYM_LF l3.1 hB) l3.2.1
      rw [q]
      exact ⟨x4, lb_4 (d + 3) h10 ht (b_of h44) e4, l4⟩
    · rw [sq_n q]
      exact ⟨x3, lb_f4 (d + 4) ⟨by omega, l3.2.2.1⟩, l3⟩
  obtain ⟨x4, e4, l4⟩ := s4
  have n4 : (sq r3 (want (TKr B L) 55)).1 = 0 → (sq r3 (want (TKr B L) 55)).2.2.length = 2 := fun g => by
    have h := sqw g
    rw [h.2]
    exact n3 h.1
  generalize sq r3 (want (TKr B L) 55) = r4 at *
  have s5 : ∃ x5, qm_evB (d + 4) jM_laidBy 7 [qP 9 0, qI (nI c), qI (nI r4.1)] [] x4 = qm_evB (d + 4) jM_laidBy 8 [qP 9 0, qI (nI c), qI (nI (sq r4 (told (TKr B L) (VLr B L) 0 2000)).1)] [] x5 ∧ LYS x B L c (sq r4 (told (TKr B L) (VLr B L) 0 2000)) x5 := by
    by_cases q : r4.1 = 0
    · obtain ⟨x5, e5, l5⟩ := LYS_fig (D := d) (lo := 0) (hi := 2000) (k := 2) hB l4 q (n4 q).symm (by decide) hc (by decide)
      rw [q]
      exact ⟨x5, lb_7 (d + 3) e5, l5⟩
    · rw [sq_n q]
      exact ⟨x4, lb_f7 (d + 4) ⟨by omega, l4.2.2.1⟩, l4⟩
  obtain ⟨x5, e5, l5⟩ := s5
  have n5 : (sq r4 (told (TKr B L) (VLr B L) 0 2000)).1 = 0 → (sq r4 (told (TKr B L) (VLr B L) 0 2000)).2.2.length = 3 := fun g => by
    obtain ⟨h1, v, _, h2⟩ := sqt g
    rw [h2]
    show (r4.2.2 ++ [(0, v)]).length = 3
    rw [List.length_append, n4 h1]
    rfl
  generalize sq r4 (told (TKr B L) (VLr B L) 0 2000) = r5 at *
  have s6 : ∃ x6, qm_evB (d + 4) jM_laidBy 8 [qP 9 0, qI (nI c), qI (nI r5.1)] [] x5 = qm_evB (d + 4) jM_laidBy 11 [qP 9 0, qI (nI c), qI (nI (sq r5 (want (TKr B L) 29)).1)] [] x6 ∧ LYS x B L c (sq r5 (want (TKr B L) 29)) x6 := by
    by_cases q : r5.1 = 0
    · obtain ⟨x6, e6, l6⟩ := LYS_exp (D := d) (w := 29) hB l5 q
      obtain ⟨t, h10, ht, _, _, _, h29⟩ := RTK_cm (BYM_LF l5.1 hB) l5.2.1
      rw [q]
      refine ⟨x6, lb_8 (d + 3) h10 ht ?_ e6, l6⟩
      by_cases k : TKr B L r5.2.1 = 29
      · exact Or.inl ⟨h29.mp k, if_pos k⟩
      · exact Or.inr ⟨fun g => k (h29.mpr g), if_neg k⟩
    · rw [sq_n q]
      exact ⟨x5, lb_f8 (d + 4) ⟨by omega, l5.2.2.1⟩, l5⟩
  obtain ⟨x6, e6, l6⟩ := s6
  have n6 : (sq r5 (want (TKr B L) 29)).1 = 0 → (sq r5 (want (TKr B L) 29)).2.2.length = 3 := fun g => by
    have h := sqw g
    rw [h.2]
    exact n5 h.1
  generalize sq r5 (want (TKr B L) 29) = r6 at *
  have e06 := ((e2.trans e3).trans e4).trans (e5.trans e6)
  by_cases q : r6.1 = 0
  · obtain ⟨x7, e7, l7⟩ := LYS_fig (D := d) (lo := 0) (hi := 5) (k := 3) hB l6 q (n6 q).symm (by decide) hc (by decide)
    rw [q] at e06
    exact ⟨x7, e06.trans (lb_11 (d + 3) e7), l7⟩
  · rw [sq_n q]
    exact ⟨x6, e06.trans (lb_f11 (d + 4) ⟨by omega, l6.2.2.1⟩), l6⟩
