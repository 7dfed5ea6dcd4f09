/-! loops over all splits; how many are dry, have beetles; air -/
def fz {α : Type} (g : Nat → α → α) : Nat → α → α
  | 0, a => a
  | n + 1, a => g n (fz g n a)
/-- column by column: begin, split by split, end -/
def l3 {α β : Type} (n : Nat → Nat) (ini : Nat → α → β) (g : Nat → Nat → β → β) (fin : Nat → β → α) : Nat → α → α
  | 0, a => a
  | c + 1, a => fin c (fz (g c) (n c) (ini c (l3 n ini g fin c a)))
theorem q_l3 {A B H G G' R : Type} (w : Nat) (n : Nat → Nat) (ini : Nat → A → B) (g : Nat → Nat → B → B) (fin : Nat → B → A) (I : Nat → A → H → Prop) (J : Nat → Nat → B → H → Prop) (O : Nat → A → H → G → R) (N : Nat → Nat → B → H → G' → R)
  (h1 : ∀ c a s x, c < w → I c a s → (∃ x', O c a s x = N c 0 (ini c a) s x') ∧ J c 0 (ini c a) s)
  (h2 : ∀ c z b s x, c < w → z < n c → J c z b s → ∃ s' x', N c z b s x = N c (z + 1) (g c z b) s' x' ∧ J c (z + 1) (g c z b) s')
  (h3 : ∀ c b s x, c < w → J c (n c) b s → ∃ s' x', N c (n c) b s x = O (c + 1) (fin c b) s' x' ∧ I (c + 1) (fin c b) s') :
  ∀ a s x, I 0 a s → ∃ s' x', O 0 a s x = O w (l3 n ini g fin w a) s' x' ∧ I w (l3 n ini g fin w a) s' := by
  intro a s x h0
  obtain ⟨y, e, hy⟩ := q_lp w (fun c (y : H × G) => O c (l3 n ini g fin c a) y.1 y.2) (fun c y => I c (l3 n ini g fin c a) y.1) (fun c y hc hy => by
    obtain ⟨⟨x1, e1⟩, j1⟩ := h1 c _ y.1 y.2 hc hy
    obtain ⟨y2, e2, j2⟩ := q_lp (n c) (fun z (y : H × G') => N c z (fz (g c) z (ini c (l3 n ini g fin c a))) y.1 y.2) (fun z y => J c z (fz (g c) z (ini c (l3 n ini g fin c a))) y.1) (fun z y hz hj => by
      obtain ⟨s', x', e3, j3⟩ := h2 c z _ y.1 y.2 hc hz hj
      exact ⟨(s', x'), e3, j3⟩) 0 (y.1, x1) (Nat.zero_le _) j1
    obtain ⟨s', x', e3, j3⟩ := h3 c _ y2.1 y2.2 hc j2
    exact ⟨(s', x'), (e1.trans e2).trans e3, j3⟩) 0 (s, x) (Nat.zero_le _) h0
  exact ⟨y.1, y.2, e, hy⟩
/-- a sum over all splits -/
def cnt (f : Nat → Nat → Int32) (y : VW) (w : Nat) : Int32 := l3 (cn y) (fun _ a => a) (fun c z a => a + f c z) (fun _ a => a) w (nI 0)
def isd (y : VW) (c z : Nat) : Int32 := if y 4 (8 * c + z) ≤ nI 200 then nI 1 else nI 0
theorem c_dry (d : Nat) {s : qm_Hp} {p w : Nat} {y : VW} (hP : PC s p w y) (ok : OKP w y) : qm_evM (d + 1) jP_drySplits [qP 3 p] s = some (some (qI (cnt (isd y) y w)), s) := by
  have hw6 := ok.1.2
  have hww := hP.1
  obtain ⟨s', x', e, rfl⟩ := q_l3 w (cn y) (fun _ a => a) (fun c z a => a + isd y c z) (fun _ a => a) (fun _ _ s' => s' = s) (fun _ _ _ s' => s' = s) (fun c a s' (x : qm_AV) => qm_evB (d + 1) jP_drySplits 1 [qP 3 p, qI a, qI (nI c), x] [] s') (fun c z a s' (_ : Unit) => qm_evB (d + 1) jP_drySplits 2 [qP 3 p, qI a, qI (nI c), qI (nI z)] [] s') (fun c a s' x hc hs => by
      subst hs
      refine ⟨⟨(), ?_⟩, rfl⟩
      refine (b_P_drySplits_1 ..).trans ?_
      simp (config := {maxSteps := 1000000}) (disch := first | omega | assumption | (simp only [qm_wid_n, qm_wid_I, qm_wid_L, qm_wid_P] <;> omega)) only [qy0, qy1, qy2, qy3, qe, qcn, qin, ↓reduceIte, Nat.reduceEqDiff, Nat.reduceLeDiff, Bool.false_eq_true, Nat.reduceAdd, Nat.reduceSub, Nat.reduceMul, Nat.reduceLT, or_self, or_false, false_or, or_true, true_or, and_self, and_true, true_and, and_false, false_and, not_true_eq_false, not_false_eq_true, hww]) (fun c z a s' x hc hz hs => by
      subst hs
      have h8 := OK_n ok hc
      have hcn := PC_c hP hc
      have hwt := PC_wt hP hc hz
      refine ⟨s', (), ?_, rfl⟩
      refine (b_P_drySplits_2 ..).trans ?_
      unfold isd
      by_cases q : y 4 (8 * c + z) ≤ nI 200
      · simp (config := {maxSteps := 1000000}) (disch := first | omega | assumption | (simp only [qm_wid_n, qm_wid_I, qm_wid_L, qm_wid_P] <;> omega)) only [b_P_drySplits_3, b_P_drySplits_4, qy0, qy1, qy2, qy3, qe, qcn, qin, ↓reduceIte, Nat.reduceEqDiff, Nat.reduceLeDiff, Bool.false_eq_true, Nat.reduceAdd, Nat.reduceSub, Nat.reduceMul, Nat.reduceLT, or_self, or_false, false_or, or_true, true_or, and_self, and_true, true_and, and_false, false_and, not_true_eq_false, not_false_eq_true, hcn, t_place, hwt, t_isDry, q]
      · simp (config := {maxSteps := 1000000}) (disch := first | omega | assumption | (simp only [qm_wid_n, qm_wid_I, qm_wid_L, qm_wid_P] <;> omega)) only [b_P_drySplits_3, b_P_drySplits_4, qy0, qy1, qy2, qy3, qe, qcn, qin, ↓reduceIte, Nat.reduceEqDiff, Nat.reduceLeDiff, Bool.false_eq_true, Nat.reduceAdd, Nat.reduceSub, Nat.reduceMul, Nat.reduceLT, or_self, or_false, false_or, or_true, true_or, and_self, and_true, true_and, and_false, false_and, not_true_eq_false, not_false_eq_true, hcn, t_place, hwt, t_isDry, q]) (fun c a s' x hc hs => by
      subst hs
      have h8 := OK_n ok hc
      have hcn := PC_c hP hc
      refine ⟨s', qI (nI (cn y c)), ?_, rfl⟩
      refine (b_P_drySplits_2 ..).trans ?_
      simp (config := {maxSteps := 1000000}) (disch := first | omega | assumption | (simp only [qm_wid_n, qm_wid_I, qm_wid_L, qm_wid_P] <;> omega)) only [b_P_drySplits_5, qy0, qy1, qy2, qy3, qe, qcn, qin, ↓reduceIte, Nat.reduceEqDiff, Nat.reduceLeDiff, Bool.false_eq_true, Nat.reduceAdd, Nat.reduceSub, Nat.reduceMul, Nat.reduceLT, or_self, or_false, false_or, or_true, true_or, and_self, and_true, true_and, and_false, false_and, not_true_eq_false, not_false_eq_true, hcn]) (nI 0) s qU rfl
  simp (config := {maxSteps := 1000000}) (disch := first | omega | assumption | (simp only [qm_wid_n, qm_wid_I, qm_wid_L, qm_wid_P] <;> omega)) only [e_P_drySplits, b_P_drySplits_0, qy0, qy1, qy2, qy3, qe, qcn, qin, ↓reduceIte, Nat.reduceEqDiff, Nat.reduceLeDiff, Bool.false_eq_true, Nat.reduceAdd, Nat.reduceSub, Nat.reduceMul, Nat.reduceLT, or_self, or_false, false_or, or_true, true_or, and_self, and_true, true_and, and_false, false_and, not_true_eq_false, not_false_eq_true]
  refine e.trans ?_
  simp (config := {maxSteps := 1000000}) (disch := first | omega | assumption | (simp only [qm_wid_n, qm_wid_I, qm_wid_L, qm_wid_P] <;> omega)) only [b_P_drySplits_1, b_P_drySplits_6, qy0, qy1, qy2, qy3, qe, qcn, qin, ↓reduceIte, Nat.reduceEqDiff, Nat.reduceLeDiff, Bool.false_eq_true, Nat.reduceAdd, Nat.reduceSub, Nat.reduceMul, Nat.reduceLT, or_self, or_false, false_or, or_true, true_or, and_self, and_true, true_and, and_false, false_and, not_true_eq_false, not_false_eq_true, hww, cnt]
theorem r_isDry (d : Nat) {s : qm_Hp} {b w c z : Nat} {y : VW} (hP : PM s b w y) (ok : OKP w y) (hb : zI s 9 0 2 = nI b) (hb2 : b ≤ 2940) (hc : c < w) (hz : z < cn y c) : qm_evM (d + 1) jM_isDry [qP 9 0, qI (nI c), qI (nI z)] s = some (some (qI (isd y c z)), s) := by
  have h8 := OK_n ok hc
  have hw6 := ok.1.2
  have hat := r_at0 d hb c z
  have h2 := PM_s hP hc hz 2 (by decide)
  rw [show 2 + 2 = 4 from rfl] at h2
  unfold isd
  by_cases q : y 4 (8 * c + z) ≤ nI 200
  · have q' := Int32.not_lt.mpr q
    simp (config := {maxSteps := 1000000}) (disch := first | omega | assumption | (simp only [qm_wid_n, qm_wid_I, qm_wid_L, qm_wid_P] <;> omega)) only [e_M_isDry, b_M_isDry_0, b_M_isDry_1, b_M_isDry_2, qy0, qy1, qy2, qy3, qe, qcn, qin, ↓reduceIte, Nat.reduceEqDiff, Nat.reduceLeDiff, Bool.false_eq_true, Nat.reduceAdd, Nat.reduceSub, Nat.reduceMul, Nat.reduceLT, or_self, or_false, false_or, or_true, true_or, and_self, and_true, true_and, and_false, false_and, not_true_eq_false, not_false_eq_true, hat, h2, q, q']
  · have q' := Int32.not_le.mp q
    simp (config := {maxSteps := 1000000}) (disch := first | omega | assumption | (simp only [qm_wid_n, qm_wid_I, qm_wid_L, qm_wid_P] <;> omega)) only [e_M_isDry, b_M_isDry_0, b_M_isDry_1, b_M_isDry_2, qy0, qy1, qy2, qy3, qe, qcn, qin, ↓reduceIte, Nat.reduceEqDiff, Nat.reduceLeDiff, Bool.false_eq_true, Nat.reduceAdd, Nat.reduceSub, Nat.reduceMul, Nat.reduceLT, or_self, or_false, false_or, or_true, true_or, and_self, and_true, true_and, and_false, false_and, not_true_eq_false, not_false_eq_true, hat, h2, q, q']
theorem r_dry (d : Nat) {s : qm_Hp} {b w : Nat} {y : VW} (hP : PM s b w y) (ok : OKP w y) (hb : zI s 9 0 2 = nI b) (hb2 : b ≤ 2940) : qm_evM (d + 2) jM_dryMany [qP 9 0] s = some (some (qI (cnt (isd y) y w)), s) := by
  have hw6 := ok.1.2
  have hww := hP.1
  obtain ⟨s', x', e, rfl⟩ := q_l3 w (cn y) (fun _ a => a) (fun c z a => a + isd y c z) (fun _ a => a) (fun _ _ s' => s' = s) (fun _ _ _ s' => s' = s) (fun c a s' (x : qm_AV) => qm_evB (d + 2) jM_dryMany 1 [qP 9 0, qI a, qI (nI c), x] [] s') (fun c z a s' (_ : Unit) => qm_evB (d + 2) jM_dryMany 2 [qP 9 0, qI a, qI (nI c), qI (nI z)] [] s') (fun c a s' x hc hs => by
      subst hs
      refine ⟨⟨(), ?_⟩, rfl⟩
      refine (b_M_dryMany_1 ..).trans ?_
      simp (config := {maxSteps := 1000000}) (disch := first | omega | assumption | (simp only [qm_wid_n, qm_wid_I, qm_wid_L, qm_wid_P] <;> omega)) only [qy0, qy1, qy2, qy3, qe, qcn, qin, ↓reduceIte, Nat.reduceEqDiff, Nat.reduceLeDiff, Bool.false_eq_true, Nat.reduceAdd, Nat.reduceSub, Nat.reduceMul, Nat.reduceLT, or_self, or_false, false_or, or_true, true_or, and_self, and_true, true_and, and_false, false_and, not_true_eq_false, not_false_eq_true, hww]) (fun c z a s' x hc hz hs => by
      subst hs
      have h8 := OK_n ok hc
      have hct := r_count (d + 1) hP ok hb hb2 hc
      have hid := r_isDry d hP ok hb hb2 hc hz
      refine ⟨s', (), ?_, rfl⟩
      refine (b_M_dryMany_2 ..).trans ?_
      unfold isd at hid ⊢
      by_cases q : y 4 (8 * c + z) ≤ nI 200
      · simp (config := {maxSteps := 1000000}) (disch := first | omega | assumption | (simp only [qm_wid_n, qm_wid_I, qm_wid_L, qm_wid_P] <;> omega)) only [b_M_dryMany_3, b_M_dryMany_4, qy0, qy1, qy2, qy3, qe, qcn, qin, ↓reduceIte, Nat.reduceEqDiff, Nat.reduceLeDiff, Bool.false_eq_true, Nat.reduceAdd, Nat.reduceSub, Nat.reduceMul, Nat.reduceLT, or_self, or_false, false_or, or_true, true_or, and_self, and_true, true_and, and_false, false_and, not_true_eq_false, not_false_eq_true, hct, hid, q]
      · simp (config := {maxSteps := 1000000}) (disch := first | omega | assumption | (simp only [qm_wid_n, qm_wid_I, qm_wid_L, qm_wid_P] <;> omega)) only [b_M_dryMany_3, b_M_dryMany_4, qy0, qy1, qy2, qy3, qe, qcn, qin, ↓reduceIte, Nat.reduceEqDiff, Nat.reduceLeDiff, Bool.false_eq_true, Nat.reduceAdd, Nat.reduceSub, Nat.reduceMul, Nat.reduceLT, or_self, or_false, false_or, or_true, true_or, and_self, and_true, true_and, and_false, false_and, not_true_eq_false, not_false_eq_true, hct, hid, q]) (fun c a s' x hc hs => by
      subst hs
      have h8 := OK_n ok hc
      have hct := r_count (d + 1) hP ok hb hb2 hc
      refine ⟨s', qI (nI (cn y c)), ?_, rfl⟩
      refine (b_M_dryMany_2 ..).trans ?_
      simp (config := {maxSteps := 1000000}) (disch := first | omega | assumption | (simp only [qm_wid_n, qm_wid_I, qm_wid_L, qm_wid_P] <;> omega)) only [b_M_dryMany_5, qy0, qy1, qy2, qy3, qe, qcn, qin, ↓reduceIte, Nat.reduceEqDiff, Nat.reduceLeDiff, Bool.false_eq_true, Nat.reduceAdd, Nat.reduceSub, Nat.reduceMul, Nat.reduceLT, or_self, or_false, false_or, or_true, true_or, and_self, and_true, true_and, and_false, false_and, not_true_eq_false, not_false_eq_true, hct]) (nI 0) s qU rfl
  simp (config := {maxSteps := 1000000}) (disch := first | omega | assumption | (simp only [qm_wid_n, qm_wid_I, qm_wid_L, qm_wid_P] <;> omega)) only [e_M_dryMany, b_M_dryMany_0, qy0, qy1, qy2, qy3, qe, qcn, qin, ↓reduceIte, Nat.reduceEqDiff, Nat.reduceLeDiff, Bool.false_eq_true, Nat.reduceAdd, Nat.reduceSub, Nat.reduceMul, Nat.reduceLT, or_self, or_false, false_or, or_true, true_or, and_self, and_true, true_and, and_false, false_and, not_true_eq_false, not_false_eq_true]
  refine e.trans ?_
  simp (config := {maxSteps := 1000000}) (disch := first | omega | assumption | (simp only [qm_wid_n, qm_wid_I, qm_wid_L, qm_wid_P] <;> omega)) only [b_M_dryMany_1, b_M_dryMany_6, qy0, qy1, qy2, qy3, qe, qcn, qin, ↓reduceIte, Nat.reduceEqDiff, Nat.reduceLeDiff, Bool.false_eq_true, Nat.reduceAdd, Nat.reduceSub, Nat.reduceMul, Nat.reduceLT, or_self, or_false, false_or, or_true, true_or, and_self, and_true, true_and, and_false, false_and, not_true_eq_false, not_false_eq_true, hww, cnt]
/-- is there a beetle: m clauses from k on -/
def btf (τ : TX) (env : Nat → Int32) : Nat → Nat → Int32
  | 0, _ => nI 0
  | m + 1, k => if (τ.2 k).1 = 5 ∧ ¬ cv env (τ.2 k).2 = nI 0 then nI 1 else btf τ env m (k + 1)
def beet (τ : TX) (y : VW) (w c z : Nat) : Int32 := btf τ (ev y w W0 c z) τ.1 0
theorem btf01 (τ : TX) (env : Nat → Int32) : ∀ m k, btf τ env m k = nI 0 ∨ btf τ env m k = nI 1
  | 0, _ => Or.inl rfl
  | m + 1, k => by
    unfold btf
    by_cases h : (τ.2 k).1 = 5 ∧ ¬ cv env (τ.2 k).2 = nI 0
    · rw [if_pos h]; exact Or.inr rfl
    · rw [if_neg h]; exact btf01 τ env m (k + 1)
theorem sort_le {τ : TX} (okt : OKT τ) {k : Nat} (hk : k < τ.1) : (τ.2 k).1 ≤ 6 := (okt.2 k hk).1
theorem c_beet (d : Nat) {s : qm_Hp} {p w c z : Nat} {y : VW} {τ : TX} (hP : PC s p w y) (ok : OKP w y) (hL : LC s τ) (okt : OKT τ) (hc : c < w) (hz : z < cn y c) : ∃ s', qm_evM (d + 3) jL_hasBeetle [qP 5 0, qP 3 p, qI (nI c), qI (nI z)] s = some (some (qI (beet τ y w c z)), s') ∧ fr [41, 42] s s' := by
  have h20 := okt.1
  have f1 := lk_fr s p w c z
  have hlk := c_look d hP ok hc hz
  have key : ∀ m k, k + m = τ.1 → ∀ x, fr [42] (hp_look s p w c z) x → ∃ s', qm_evB (d + 3) jL_hasBeetle 1 [qP 5 0, qP 3 p, qI (nI c), qI (nI z), qI (nI k)] [] x = some (some (qI (btf τ (ev y w W0 c z) m k)), s') ∧ fr [42] (hp_look s p w c z) s' := by
    intro m
    induction m with
    | zero =>
      intro k hk x hx
      obtain ⟨t, hT, hTC⟩ := LC_fr (K := [42]) (by decide) hx (LC_fr (K := [41]) (by decide) f1 hL)
      have h6 := hTC.1
      refine ⟨x, ?_, hx⟩
      refine (b_L_hasBeetle_1 ..).trans ?_
      simp (config := {maxSteps := 1000000}) (disch := first | omega | assumption | (simp only [qm_wid_n, qm_wid_I, qm_wid_L, qm_wid_P] <;> omega)) only [b_L_hasBeetle_3, qy0, qy1, qy2, qy3, qe, qcn, qin, ↓reduceIte, Nat.reduceEqDiff, Nat.reduceLeDiff, Bool.false_eq_true, Nat.reduceAdd, Nat.reduceSub, Nat.reduceMul, Nat.reduceLT, or_self, or_false, false_or, or_true, true_or, and_self, and_true, true_and, and_false, false_and, not_true_eq_false, not_false_eq_true, hT, h6, btf]
    | succ m ih =>
      intro k hk x hx
      have hLx := LC_fr (K := [42]) (by decide) hx (LC_fr (K := [41]) (by decide) f1 hL)
      obtain ⟨t, hT, hTC⟩ := id hLx
      have h6 := hTC.1
      have hw := (hTC.2.1 k (by omega)).1
      have hs6 := sort_le okt (k := k) (by omega)
      unfold btf
      by_cases h5 : (τ.2 k).1 = 5
      · obtain ⟨x', g1, g2⟩ := c_val d hLx okt (k := k) (by omega) (by omega) (ev y w W0 c z) (fun v hv => by
          rw [hx.1 41 0 v (by decide)]
          exact lk_ev W0 hP ok hc hz v (by unfold nmok at hv; omega))
        by_cases hv : cv (ev y w W0 c z) (τ.2 k).2 = nI 0
        · obtain ⟨s', e1, e2⟩ := ih (k + 1) (by omega) x' (fr_trans hx g2)
          refine ⟨s', ?_, e2⟩
          rw [if_neg (fun g => g.2 hv), ← e1]
          refine (b_L_hasBeetle_1 ..).trans ?_
          simp (config := {maxSteps := 1000000}) (disch := first | omega | assumption | (simp only [qm_wid_n, qm_wid_I, qm_wid_L, qm_wid_P] <;> omega)) only [b_L_hasBeetle_2, qy0, qy1, qy2, qy3, qe, qcn, qin, ↓reduceIte, Nat.reduceEqDiff, Nat.reduceLeDiff, Bool.false_eq_true, Nat.reduceAdd, Nat.reduceSub, Nat.reduceMul, Nat.reduceLT, or_self, or_false, false_or, or_true, true_or, and_self, and_true, true_and, and_false, false_and, not_true_eq_false, not_false_eq_true, hT, h6, hw, g1, hv]
        · refine ⟨x', ?_, fr_trans hx g2⟩
          rw [if_pos ⟨h5, hv⟩]
          refine (b_L_hasBeetle_1 ..).trans ?_
          simp (config := {maxSteps := 1000000}) (disch := first | omega | assumption | (simp only [qm_wid_n, qm_wid_I, qm_wid_L, qm_wid_P] <;> omega)) only [qy0, qy1, qy2, qy3, qe, qcn, qin, ↓reduceIte, Nat.reduceEqDiff, Nat.reduceLeDiff, Bool.false_eq_true, Nat.reduceAdd, Nat.reduceSub, Nat.reduceMul, Nat.reduceLT, or_self, or_false, false_or, or_true, true_or, and_self, and_true, true_and, and_false, false_and, not_true_eq_false, not_false_eq_true, hT, h6, hw, g1, hv]
      · obtain ⟨s', e1, e2⟩ := ih (k + 1) (by omega) x hx
        refine ⟨s', ?_, e2⟩
        rw [if_neg (fun g => h5 g.1), ← e1]
        refine (b_L_hasBeetle_1 ..).trans ?_
        simp (config := {maxSteps := 1000000}) (disch := first | omega | assumption | (simp only [qm_wid_n, qm_wid_I, qm_wid_L, qm_wid_P] <;> omega)) only [b_L_hasBeetle_2, qy0, qy1, qy2, qy3, qe, qcn, qin, ↓reduceIte, Nat.reduceEqDiff, Nat.reduceLeDiff, Bool.false_eq_true, Nat.reduceAdd, Nat.reduceSub, Nat.reduceMul, Nat.reduceLT, or_self, or_false, false_or, or_true, true_or, and_self, and_true, true_and, and_false, false_and, not_true_eq_false, not_false_eq_true, hT, h6, hw]
  obtain ⟨s', e1, e2⟩ := key τ.1 0 (Nat.zero_add _) _ (fr_refl _ _)
  refine ⟨s', ?_, fr_trans (fr_mono (by decide) f1) (fr_mono (by decide) e2)⟩
  simp (config := {maxSteps := 1000000}) (disch := first | omega | assumption | (simp only [qm_wid_n, qm_wid_I, qm_wid_L, qm_wid_P] <;> omega)) only [e_L_hasBeetle, b_L_hasBeetle_0, qy0, qy1, qy2, qy3, qe, qcn, qin, ↓reduceIte, Nat.reduceEqDiff, Nat.reduceLeDiff, Bool.false_eq_true, Nat.reduceAdd, Nat.reduceSub, Nat.reduceMul, Nat.reduceLT, or_self, or_false, false_or, or_true, true_or, and_self, and_true, true_and, and_false, false_and, not_true_eq_false, not_false_eq_true, hlk]
  exact e1
theorem r_beet (d : Nat) {s : qm_Hp} {b w c z : Nat} {y : VW} {τ : TX} (hP : PM s b w y) (ok : OKP w y) (hb : zI s 9 0 2 = nI b) (hb2 : b ≤ 2940) (hL : LM s τ) (okt : OKT τ) (hc : c < w) (hz : z < cn y c) : ∃ s', qm_evM (d + 3) jM_isBeetle [qP 9 0, qI (nI c), qI (nI z)] s = some (some (qI (beet τ y w c z)), s') ∧ fr [65, 66, 67] s s' := by
  have h20 := okt.1
  have f1 := mn_fr s b w c z
  have hlk := r_name d hP ok hb hb2 hc hz
  have key : ∀ m k, k + m = τ.1 → ∀ x, fr [66, 67] (hp_name s b w c z) x → ∃ s', qm_evB (d + 3) jM_isBeetle 1 [qP 9 0, qI (nI c), qI (nI z), qI (nI k)] [] x = some (some (qI (btf τ (ev y w W0 c z) m k)), s') ∧ fr [66, 67] (hp_name s b w c z) s' := by
    intro m
    induction m with
    | zero =>
      intro k hk x hx
      have hcl := r_clauses (d + 2) (LM_fr (K := [66, 67]) (by decide) hx (LM_fr (K := [65]) (by decide) f1 hL)) okt
      refine ⟨x, ?_, hx⟩
      refine (b_M_isBeetle_1 ..).trans ?_
      simp (config := {maxSteps := 1000000}) (disch := first | omega | assumption | (simp only [qm_wid_n, qm_wid_I, qm_wid_L, qm_wid_P] <;> omega)) only [b_M_isBeetle_4, qy0, qy1, qy2, qy3, qe, qcn, qin, ↓reduceIte, Nat.reduceEqDiff, Nat.reduceLeDiff, Bool.false_eq_true, Nat.reduceAdd, Nat.reduceSub, Nat.reduceMul, Nat.reduceLT, or_self, or_false, false_or, or_true, true_or, and_self, and_true, true_and, and_false, false_and, not_true_eq_false, not_false_eq_true, hcl, btf]
    | succ m ih =>
      intro k hk x hx
      have hLx := LM_fr (K := [66, 67]) (by decide) hx (LM_fr (K := [65]) (by decide) f1 hL)
      have hcl := r_clauses (d + 2) hLx okt
      rcases id hLx with ⟨q1, q2⟩ | ⟨t, ht4, ht, hT⟩
      · omega
      · have hw := (hT.2 k (by omega)).1
        have hs6 := sort_le okt (k := k) (by omega)
        unfold btf
        by_cases h5 : (τ.2 k).1 = 5
        · obtain ⟨x', g1, g2, _, g3⟩ := r_work d hLx okt (k := k) (by omega) (by omega) (ev y w W0 c z) (fun v hv => by
            have hv' : v < 8 ∨ v = 12 := by unfold nmok at hv; omega
            rw [hx.1 65 0 v (by decide)]
            exact ⟨mn_ev W0 hP ok hc hz v hv', ev_bdL W0 ok hc hz W0_rg (by omega)⟩)
          obtain ⟨g4, _⟩ := g3 h5
          by_cases hv : cv (ev y w W0 c z) (τ.2 k).2 = nI 0
          · obtain ⟨s', e1, e2⟩ := ih (k + 1) (by omega) x' (fr_trans hx g2)
            refine ⟨s', ?_, e2⟩
            rw [if_neg (fun g => g.2 hv), ← e1]
            refine (b_M_isBeetle_1 ..).trans ?_
            simp (config := {maxSteps := 1000000}) (disch := first | omega | assumption | (simp only [qm_wid_n, qm_wid_I, qm_wid_L, qm_wid_P] <;> omega)) only [b_M_isBeetle_2, b_M_isBeetle_3, qy0, qy1, qy2, qy3, qe, qcn, qin, ↓reduceIte, Nat.reduceEqDiff, Nat.reduceLeDiff, Bool.false_eq_true, Nat.reduceAdd, Nat.reduceSub, Nat.reduceMul, Nat.reduceLT, or_self, or_false, false_or, or_true, true_or, and_self, and_true, true_and, and_false, false_and, not_true_eq_false, not_false_eq_true, hcl, ht, hw, g1, g4, hv]
          · refine ⟨x', ?_, fr_trans hx g2⟩
            rw [if_pos ⟨h5, hv⟩]
            refine (b_M_isBeetle_1 ..).trans ?_
            simp (config := {maxSteps := 1000000}) (disch := first | omega | assumption | (simp only [qm_wid_n, qm_wid_I, qm_wid_L, qm_wid_P] <;> omega)) only [b_M_isBeetle_2, qy0, qy1, qy2, qy3, qe, qcn, qin, ↓reduceIte, Nat.reduceEqDiff, Nat.reduceLeDiff, Bool.false_eq_true, Nat.reduceAdd, Nat.reduceSub, Nat.reduceMul, Nat.reduceLT, or_self, or_false, false_or, or_true, true_or, and_self, and_true, true_and, and_false, false_and, not_true_eq_false, not_false_eq_true, hcl, ht, hw, g1, g4, hv]
        · obtain ⟨s', e1, e2⟩ := ih (k + 1) (by omega) x hx
          refine ⟨s', ?_, e2⟩
          rw [if_neg (fun g => h5 g.1), ← e1]
          refine (b_M_isBeetle_1 ..).trans ?_
          simp (config := {maxSteps := 1000000}) (disch := first | omega | assumption | (simp only [qm_wid_n, qm_wid_I, qm_wid_L, qm_wid_P] <;> omega)) only [b_M_isBeetle_3, qy0, qy1, qy2, qy3, qe, qcn, qin, ↓reduceIte, Nat.reduceEqDiff, Nat.reduceLeDiff, Bool.false_eq_true, Nat.reduceAdd, Nat.reduceSub, Nat.reduceMul, Nat.reduceLT, or_self, or_false, false_or, or_true, true_or, and_self, and_true, true_and, and_false, false_and, not_true_eq_false, not_false_eq_true, hcl, ht, hw]
  obtain ⟨s', e1, e2⟩ := key τ.1 0 (Nat.zero_add _) _ (fr_refl _ _)
  refine ⟨s', ?_, fr_trans (fr_mono (by decide) f1) (fr_mono (by decide) e2)⟩
  simp (config := {maxSteps := 1000000}) (disch := first | omega | assumption | (simp only [qm_wid_n, qm_wid_I, qm_wid_L, qm_wid_P] <;> omega)) only [e_M_isBeetle, b_M_isBeetle_0, qy0, qy1, qy2, qy3, qe, qcn, qin, ↓reduceIte, Nat.reduceEqDiff, Nat.reduceLeDiff, Bool.false_eq_true, Nat.reduceAdd, Nat.reduceSub, Nat.reduceMul, Nat.reduceLT, or_self, or_false, false_or, or_true, true_or, and_self, and_true, true_and, and_false, false_and, not_true_eq_false, not_false_eq_true, hlk]
  exact e1
theorem c_beetles (d : Nat) {s : qm_Hp} {p w : Nat} {y : VW} {τ : TX} (hP : PC s p w y) (ok : OKP w y) (hL : LC s τ) (okt : OKT τ) : ∃ s', qm_evM (d + 4) jL_beetlesIn [qP 5 0, qP 3 p] s = some (some (qI (cnt (beet τ y w) y w)), s') ∧ fr [41, 42] s s' := by
  have hw6 := ok.1.2
  obtain ⟨s', x', e, hf⟩ := q_l3 w (cn y) (fun _ a => a) (fun c z a => a + beet τ y w c z) (fun _ a => a) (fun _ _ s' => fr [41, 42] s s') (fun _ _ _ s' => fr [41, 42] s s') (fun c a s' (x : qm_AV) => qm_evB (d + 4) jL_beetlesIn 1 [qP 5 0, qP 3 p, qI a, qI (nI c), x] [] s') (fun c z a s' (_ : Unit) => qm_evB (d + 4) jL_beetlesIn 2 [qP 5 0, qP 3 p, qI a, qI (nI c), qI (nI z)] [] s') (fun c a s' x hc hs => by
      have hww := (PC_fr (K := [41, 42]) (by decide) hs hP).1
      refine ⟨⟨(), ?_⟩, hs⟩
      refine (b_L_beetlesIn_1 ..).trans ?_
      simp (config := {maxSteps := 1000000}) (disch := first | omega | assumption | (simp only [qm_wid_n, qm_wid_I, qm_wid_L, qm_wid_P] <;> omega)) only [qy0, qy1, qy2, qy3, qe, qcn, qin, ↓reduceIte, Nat.reduceEqDiff, Nat.reduceLeDiff, Bool.false_eq_true, Nat.reduceAdd, Nat.reduceSub, Nat.reduceMul, Nat.reduceLT, or_self, or_false, false_or, or_true, true_or, and_self, and_true, true_and, and_false, false_and, not_true_eq_false, not_false_eq_true, hww]) (fun c z a s' x hc hz hs => by
      have h8 := OK_n ok hc
      have hPx := PC_fr (K := [41, 42]) (by decide) hs hP
      have hcn := PC_c hPx hc
      obtain ⟨s2, g1, g2⟩ := c_beet d hPx ok (LC_fr (K := [41, 42]) (by decide) hs hL) okt hc hz
      refine ⟨s2, (), ?_, fr_trans hs g2⟩
      refine (b_L_beetlesIn_2 ..).trans ?_
      rcases btf01 τ (ev y w W0 c z) τ.1 0 with q | q
      · have q : beet τ y w c z = nI 0 := q
        simp (config := {maxSteps := 1000000}) (disch := first | omega | assumption | (simp only [qm_wid_n, qm_wid_I, qm_wid_L, qm_wid_P] <;> omega)) only [b_L_beetlesIn_3, b_L_beetlesIn_4, qy0, qy1, qy2, qy3, qe, qcn, qin, ↓reduceIte, Nat.reduceEqDiff, Nat.reduceLeDiff, Bool.false_eq_true, Nat.reduceAdd, Nat.reduceSub, Nat.reduceMul, Nat.reduceLT, or_self, or_false, false_or, or_true, true_or, and_self, and_true, true_and, and_false, false_and, not_true_eq_false, not_false_eq_true, hcn, g1, q]
      · have q : beet τ y w c z = nI 1 := q
        simp (config := {maxSteps := 1000000}) (disch := first | omega | assumption | (simp only [qm_wid_n, qm_wid_I, qm_wid_L, qm_wid_P] <;> omega)) only [b_L_beetlesIn_3, b_L_beetlesIn_4, qy0, qy1, qy2, qy3, qe, qcn, qin, ↓reduceIte, Nat.reduceEqDiff, Nat.reduceLeDiff, Bool.false_eq_true, Nat.reduceAdd, Nat.reduceSub, Nat.reduceMul, Nat.reduceLT, or_self, or_false, false_or, or_true, true_or, and_self, and_true, true_and, and_false, false_and, not_true_eq_false, not_false_eq_true, hcn, g1, q]) (fun c a s' x hc hs => by
      have h8 := OK_n ok hc
      have hcn := PC_c (PC_fr (K := [41, 42]) (by decide) hs hP) hc
      refine ⟨s', qI (nI (cn y c)), ?_, hs⟩
      refine (b_L_beetlesIn_2 ..).trans ?_
      simp (config := {maxSteps := 1000000}) (disch := first | omega | assumption | (simp only [qm_wid_n, qm_wid_I, qm_wid_L, qm_wid_P] <;> omega)) only [b_L_beetlesIn_5, qy0, qy1, qy2, qy3, qe, qcn, qin, ↓reduceIte, Nat.reduceEqDiff, Nat.reduceLeDiff, Bool.false_eq_true, Nat.reduceAdd, Nat.reduceSub, Nat.reduceMul, Nat.reduceLT, or_self, or_false, false_or, or_true, true_or, and_self, and_true, true_and, and_false, false_and, not_true_eq_false, not_false_eq_true, hcn]) (nI 0) s qU (fr_refl _ _)
  have hww := (PC_fr (K := [41, 42]) (by decide) hf hP).1
  refine ⟨s', ?_, hf⟩
  simp (config := {maxSteps := 1000000}) (disch := first | omega | assumption | (simp only [qm_wid_n, qm_wid_I, qm_wid_L, qm_wid_P] <;> omega)) only [e_L_beetlesIn, b_L_beetlesIn_0, qy0, qy1, qy2, qy3, qe, qcn, qin, ↓reduceIte, Nat.reduceEqDiff, Nat.reduceLeDiff, Bool.false_eq_true, Nat.reduceAdd, Nat.reduceSub, Nat.reduceMul, Nat.reduceLT, or_self, or_false, false_or, or_true, true_or, and_self, and_true, true_and, and_false, false_and, not_true_eq_false, not_false_eq_true]
  refine e.trans ?_
  simp (config := {maxSteps := 1000000}) (disch := first | omega | assumption | (simp only [qm_wid_n, qm_wid_I, qm_wid_L, qm_wid_P] <;> omega)) only [b_L_beetlesIn_1, b_L_beetlesIn_6, qy0, qy1, qy2, qy3, qe, qcn, qin, ↓reduceIte, Nat.reduceEqDiff, Nat.reduceLeDiff, Bool.false_eq_true, Nat.reduceAdd, Nat.reduceSub, Nat.reduceMul, Nat.reduceLT, or_self, or_false, false_or, or_true, true_or, and_self, and_true, true_and, and_false, false_and, not_true_eq_false, not_false_eq_true, hww, cnt]
theorem r_beetles (d : Nat) {s : qm_Hp} {b w : Nat} {y : VW} {τ : TX} (hP : PM s b w y) (ok : OKP w y) (hb : zI s 9 0 2 = nI b) (hb2 : b ≤ 2940) (hL : LM s τ) (okt : OKT τ) : ∃ s', qm_evM (d + 4) jM_beetles [qP 9 0] s = some (some (qI (cnt (beet τ y w) y w)), s') ∧ fr [65, 66, 67] s s' := by
  have hw6 := ok.1.2
  obtain ⟨s', x', e, hf⟩ := q_l3 w (cn y) (fun _ a => a) (fun c z a => a + beet τ y w c z) (fun _ a => a) (fun _ _ s' => fr [65, 66, 67] s s') (fun _ _ _ s' => fr [65, 66, 67] s s') (fun c a s' (x : qm_AV) => qm_evB (d + 4) jM_beetles 1 [qP 9 0, qI a, qI (nI c), x] [] s') (fun c z a s' (_ : Unit) => qm_evB (d + 4) jM_beetles 2 [qP 9 0, qI a, qI (nI c), qI (nI z)] [] s') (fun c a s' x hc hs => by
      have hww := (PM_scr hs hP).1
      refine ⟨⟨(), ?_⟩, hs⟩
      refine (b_M_beetles_1 ..).trans ?_
      simp (config := {maxSteps := 1000000}) (disch := first | omega | assumption | (simp only [qm_wid_n, qm_wid_I, qm_wid_L, qm_wid_P] <;> omega)) only [qy0, qy1, qy2, qy3, qe, qcn, qin, ↓reduceIte, Nat.reduceEqDiff, Nat.reduceLeDiff, Bool.false_eq_true, Nat.reduceAdd, Nat.reduceSub, Nat.reduceMul, Nat.reduceLT, or_self, or_false, false_or, or_true, true_or, and_self, and_true, true_and, and_false, false_and, not_true_eq_false, not_false_eq_true, hww]) (fun c z a s' x hc hz hs => by
      have h8 := OK_n ok hc
      have hPx := PM_scr hs hP
      have hbx : zI s' 9 0 2 = nI b := (hs.1 9 0 2 (by decide)).trans hb
      have hct := r_count (d + 3) hPx ok hbx hb2 hc
      obtain ⟨s2, g1, g2⟩ := r_beet d hPx ok hbx hb2 (LM_scr hs hL) okt hc hz
      refine ⟨s2, (), ?_, fr_trans hs g2⟩
      refine (b_M_beetles_2 ..).trans ?_
      rcases btf01 τ (ev y w W0 c z) τ.1 0 with q | q
      · have q : beet τ y w c z = nI 0 := q
        simp (config := {maxSteps := 1000000}) (disch := first | omega | assumption | (simp only [qm_wid_n, qm_wid_I, qm_wid_L, qm_wid_P] <;> omega)) only [b_M_beetles_3, b_M_beetles_4, qy0, qy1, qy2, qy3, qe, qcn, qin, ↓reduceIte, Nat.reduceEqDiff, Nat.reduceLeDiff, Bool.false_eq_true, Nat.reduceAdd, Nat.reduceSub, Nat.reduceMul, Nat.reduceLT, or_self, or_false, false_or, or_true, true_or, and_self, and_true, true_and, and_false, false_and, not_true_eq_false, not_false_eq_true, hct, g1, q]
      · have q : beet τ y w c z = nI 1 := q
        simp (config := {maxSteps := 1000000}) (disch := first | omega | assumption | (simp only [qm_wid_n, qm_wid_I, qm_wid_L, qm_wid_P] <;> omega)) only [b_M_beetles_3, b_M_beetles_4, qy0, qy1, qy2, qy3, qe, qcn, qin, ↓reduceIte, Nat.reduceEqDiff, Nat.reduceLeDiff, Bool.false_eq_true, Nat.reduceAdd, Nat.reduceSub, Nat.reduceMul, Nat.reduceLT, or_self, or_false, false_or, or_true, true_or, and_self, and_true, true_and, and_false, false_and, not_true_eq_false, not_false_eq_true, hct, g1, q]) (fun c a s' x hc hs => by
      have h8 := OK_n ok hc
      have hct := r_count (d + 3) (PM_scr hs hP) ok ((hs.1 9 0 2 (by decide)).trans hb) hb2 hc
      refine ⟨s', qI (nI (cn y c)), ?_, hs⟩
      refine (b_M_beetles_2 ..).trans ?_
      simp (config := {maxSteps := 1000000}) (disch := first | omega | assumption | (simp only [qm_wid_n, qm_wid_I, qm_wid_L, qm_wid_P] <;> omega)) only [b_M_beetles_5, qy0, qy1, qy2, qy3, qe, qcn, qin, ↓reduceIte, Nat.reduceEqDiff, Nat.reduceLeDiff, Bool.false_eq_true, Nat.reduceAdd, Nat.reduceSub, Nat.reduceMul, Nat.reduceLT, or_self, or_false, false_or, or_true, true_or, and_self, and_true, true_and, and_false, false_and, not_true_eq_false, not_false_eq_true, hct]) (nI 0) s qU (fr_refl _ _)
  have hww := (PM_scr hf hP).1
  refine ⟨s', ?_, hf⟩
  simp (config := {maxSteps := 1000000}) (disch := first | omega | assumption | (simp only [qm_wid_n, qm_wid_I, qm_wid_L, qm_wid_P] <;> omega)) only [e_M_beetles, b_M_beetles_0, qy0, qy1, qy2, qy3, qe, qcn, qin, ↓reduceIte, Nat.reduceEqDiff, Nat.reduceLeDiff, Bool.false_eq_true, Nat.reduceAdd, Nat.reduceSub, Nat.reduceMul, Nat.reduceLT, or_self, or_false, false_or, or_true, true_or, and_self, and_true, true_and, and_false, false_and, not_true_eq_false, not_false_eq_true]
  refine e.trans ?_
  simp (config := {maxSteps := 1000000}) (disch := first | omega | assumption | (simp only [qm_wid_n, qm_wid_I, qm_wid_L, qm_wid_P] <;> omega)) only [b_M_beetles_1, b_M_beetles_6, qy0, qy1, qy2, qy3, qe, qcn, qin, ↓reduceIte, Nat.reduceEqDiff, Nat.reduceLeDiff, Bool.false_eq_true, Nat.reduceAdd, Nat.reduceSub, Nat.reduceMul, Nat.reduceLT, or_self, or_false, false_or, or_true, true_or, and_self, and_true, true_and, and_false, false_and, not_true_eq_false, not_false_eq_true, hww, cnt]
