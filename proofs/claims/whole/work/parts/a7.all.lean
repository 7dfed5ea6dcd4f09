/-! the class's reader: all clauses -/
def pAll (Tk Vl : Nat → Nat) : Nat → TX → Nat → Nat × Nat × TX
  | 0, τ, i => (9, i, τ)
  | n + 1, τ, i => if Tk i = 41 then (0, i, τ) else if (pClause Tk Vl τ i).1 = 0 then pAll Tk Vl n (tad τ (Tk i - 17) (pClause Tk Vl τ i).2.2) (pClause Tk Vl τ i).2.1 else ((pClause Tk Vl τ i).1, (pClause Tk Vl τ i).2.1, τ)
theorem rz_end (D : Nat) {x : qm_Hp} {t c : Nat} {y1 y2 : Nat} {k : Nat} (hc : c ≤ 20) (hf : zI x 6 0 4 = nI 0) (tk : qm_evM D jR_token [qP 6 0] x = some (some (qI (nI 41)), x)) : qm_evB (D + 1) jR_readAll 1 [qP 6 0, qP y1 y2, qI (nI k), qP 4 t, qI (nI c)] [] x = some (none, x) := by
  simp (config := {maxSteps := 1000000}) (disch := first | omega | assumption | (simp only [qm_wid_n, qm_wid_I, qm_wid_L, qm_wid_P]; omega) | (simp only [qm_wid_n, qm_wid_I, qm_wid_L, qm_wid_P]; done) | fail) only [b_R_readAll_1, b_R_readAll_2, qy0, qy1, qy2, qy3, qe, qcn, qin, ↓reduceIte, Nat.reduceEqDiff, Nat.reduceLeDiff, Bool.false_eq_true, Nat.reduceAdd, Nat.reduceSub, Nat.reduceMul, Nat.reduceLT, or_self, or_false, false_or, or_true, true_or, and_self, and_true, true_and, and_false, false_and, not_true_eq_false, not_false_eq_true, hf, tk]
theorem rz_f (D : Nat) {x : qm_Hp} {t c f : Nat} {y1 y2 : Nat} {k : Nat} (hc : c ≤ 21) (hf : zI x 6 0 4 = nI f) (h1 : 1 ≤ f ∧ f ≤ 9) : qm_evB D jR_readAll 1 [qP 6 0, qP y1 y2, qI (nI k), qP 4 t, qI (nI c)] [] x = some (none, x) := by
  rcases (by omega : 20 < c ∨ c ≤ 20) with q | q
  · simp (config := {maxSteps := 1000000}) (disch := first | omega | assumption | (simp only [qm_wid_n, qm_wid_I, qm_wid_L, qm_wid_P]; omega) | (simp only [qm_wid_n, qm_wid_I, qm_wid_L, qm_wid_P]; done) | fail) only [b_R_readAll_1, b_R_readAll_2, qy0, qy1, qy2, qy3, qe, qcn, qin, ↓reduceIte, Nat.reduceEqDiff, Nat.reduceLeDiff, Bool.false_eq_true, Nat.reduceAdd, Nat.reduceSub, Nat.reduceMul, Nat.reduceLT, or_self, or_false, false_or, or_true, true_or, and_self, and_true, true_and, and_false, false_and, not_true_eq_false, not_false_eq_true, hf]
  · simp (config := {maxSteps := 1000000}) (disch := first | omega | assumption | (simp only [qm_wid_n, qm_wid_I, qm_wid_L, qm_wid_P]; omega) | (simp only [qm_wid_n, qm_wid_I, qm_wid_L, qm_wid_P]; done) | fail) only [b_R_readAll_1, b_R_readAll_2, qy0, qy1, qy2, qy3, qe, qcn, qin, ↓reduceIte, Nat.reduceEqDiff, Nat.reduceLeDiff, Bool.false_eq_true, Nat.reduceAdd, Nat.reduceSub, Nat.reduceMul, Nat.reduceLT, or_self, or_false, false_or, or_true, true_or, and_self, and_true, true_and, and_false, false_and, not_true_eq_false, not_false_eq_true, hf]
theorem rz_step (D : Nat) {x x1 : qm_Hp} {t c v : Nat} {y1 y2 : Nat} {k : Nat} (hc : c ≤ 20) (hf : zI x 6 0 4 = nI 0) (hv : v < 100) (hn : v ≠ 41) (tk : qm_evM D jR_token [qP 6 0] x = some (some (qI (nI v)), x)) (rc : qm_evM D jR_readClause [qP 6 0, qI (nI c)] x = some (none, x1)) : qm_evB (D + 1) jR_readAll 1 [qP 6 0, qP y1 y2, qI (nI k), qP 4 t, qI (nI c)] [] x = qm_evB (D + 1) jR_readAll 1 [qP 6 0, qP y1 y2, qI (nI k), qP 4 t, qI (nI (c + 1))] [] x1 := by
  refine (b_R_readAll_1 ..).trans ?_
  simp (config := {maxSteps := 1000000}) (disch := first | omega | assumption | (simp only [qm_wid_n, qm_wid_I, qm_wid_L, qm_wid_P]; omega) | (simp only [qm_wid_n, qm_wid_I, qm_wid_L, qm_wid_P]; done) | fail) only [qy0, qy1, qy2, qy3, qe, qcn, qin, ↓reduceIte, Nat.reduceEqDiff, Nat.reduceLeDiff, Bool.false_eq_true, Nat.reduceAdd, Nat.reduceSub, Nat.reduceMul, Nat.reduceLT, or_self, or_false, false_or, or_true, true_or, and_self, and_true, true_and, and_false, false_and, not_true_eq_false, not_false_eq_true, hf, tk, rc]
theorem c_allL {Tk Vl Pc : Nat → Nat} {E t : Nat} (hE : Tk E = 41) (hE3 : E ≤ 300) (hT : ∀ i, i ≤ E → Tk i < 100 ∧ Vl i ≤ 10000) (d y1 y2 k : Nat) : ∀ n τ i u x, τ.1 + n = 21 → CSI Tk Vl Pc E t x τ i u → ∃ x', qm_evB (d + 122) jR_readAll 1 [qP 6 0, qP y1 y2, qI (nI k), qP 4 t, qI (nI τ.1)] [] x = some (none, x') ∧ XF t x x' ∧ ((pAll Tk Vl n τ i).1 = 0 → ∃ u', CSI Tk Vl Pc E t x' (pAll Tk Vl n τ i).2.2 (pAll Tk Vl n τ i).2.1 u') ∧ ((pAll Tk Vl n τ i).1 ≠ 0 → FA Pc x' (pAll Tk Vl n τ i).1 (pAll Tk Vl n τ i).2.1 ∧ (pAll Tk Vl n τ i).2.1 ≤ E) := by
  intro n
  induction n with
  | zero =>
    intro τ i u x hn h
    have := h.2.2.2.2.2.2.2.2.1
    omega
  | succ n ih =>
    intro τ i u x hn h
    obtain ⟨hK, hP, h2, h4, h5, hTU, hu, hi, ht, _⟩ := id h
    have tk := c_tokenA (d + 120) hE3 hK h2 hi
    have hv := (hT i hi).1
    unfold pAll
    by_cases q : Tk i = 41
    · rw [if_pos q]
      rw [q] at tk
      exact ⟨x, rz_end _ ht h4 tk, XF_refl _ _, fun _ => ⟨u, h⟩, fun g => absurd rfl g⟩
    · rw [if_neg q]
      obtain ⟨x1, e1, X1, a1, b1⟩ := c_clause hE hE3 hT h d
      have es := rz_step (d + 121) (t := t) (y1 := y1) (y2 := y2) (k := k) ht h4 hv q tk e1
      by_cases g : (pClause Tk Vl τ i).1 = 0
      · rw [if_pos g]
        obtain ⟨x2, e2, X2, a2, b2⟩ := ih _ _ _ x1 (by show τ.1 + 1 + n = 21; omega) (a1 g)
        exact ⟨x2, es.trans e2, XF_tr X1 X2, a2, b2⟩
      · rw [if_neg g]
        have f1 := (b1 g).1
        exact ⟨x1, es.trans (rz_f _ (by omega) f1.2.1 f1.2.2.2), X1, fun k => absurd k g, fun _ => b1 g⟩
/-! the clauses read are good -/
theorem sq_0 {r : PR} {g : Nat → PR} (h : (sq r g).1 = 0) : r.1 = 0 ∧ (g r.2.1).1 = 0 ∧ sq r g = (0, (g r.2.1).2.1, r.2.2 ++ (g r.2.1).2.2) := by
  unfold sq at h ⊢
  by_cases q : r.1 = 0
  · rw [bnd_0 q] at h ⊢
    by_cases qq : (g r.2.1).1 = 0
    · rw [bnd_0 qq]; exact ⟨q, qq, rfl⟩
    · rw [bnd_n qq] at h; exact absurd h qq
  · rw [bnd_n q] at h; exact absurd h q
theorem want_0 {Tk : Nat → Nat} {c i : Nat} (h : (want Tk c i).1 = 0) : Tk i = c ∧ want Tk c i = (0, i + 1, []) := by
  unfold want at h ⊢
  by_cases q : Tk i = c
  · rw [if_pos q]; exact ⟨q, rfl⟩
  · rw [if_neg q] at h; exact absurd h (show ¬ (1 : Nat) = 0 by decide)
theorem told_0 {Tk Vl : Nat → Nat} {lo hi i : Nat} (h : (told Tk Vl lo hi i).1 = 0) : (lo ≤ Vl i ∧ Vl i ≤ hi) ∧ told Tk Vl lo hi i = (0, i + 1, [(0, Vl i)]) := by
  unfold told at h ⊢
  by_cases q : Tk i = 40
  · rw [if_pos q] at h ⊢
    by_cases v : lo ≤ Vl i ∧ Vl i ≤ hi
    · rw [if_pos v]; exact ⟨v, rfl⟩
    · rw [if_neg v] at h; exact absurd h (show ¬ (2 : Nat) = 0 by decide)
  · rw [if_neg q] at h; exact absurd h (show ¬ (1 : Nat) = 0 by decide)
theorem sqw {Tk : Nat → Nat} {r : PR} {c : Nat} (h : (sq r (want Tk c)).1 = 0) : r.1 = 0 ∧ sq r (want Tk c) = (0, r.2.1 + 1, r.2.2) := by
  obtain ⟨h1, h2, h3⟩ := sq_0 h
  have e := (want_0 h2).2
  rw [e] at h3
  rw [List.append_nil] at h3
  exact ⟨h1, h3⟩
theorem sqt {Tk Vl : Nat → Nat} {r : PR} {lo hi : Nat} (h : (sq r (told Tk Vl lo hi)).1 = 0) : r.1 = 0 ∧ ∃ v, (lo ≤ v ∧ v ≤ hi) ∧ sq r (told Tk Vl lo hi) = (0, r.2.1 + 1, r.2.2 ++ [(0, v)]) := by
  obtain ⟨h1, h2, h3⟩ := sq_0 h
  obtain ⟨hb, e⟩ := told_0 h2
  rw [e] at h3
  exact ⟨h1, _, hb, h3⟩
theorem pLay_0 {Tk Vl : Nat → Nat} {i : Nat} (h : (pLay Tk Vl i).1 = 0) : ∃ a b c e, a ≤ 3 ∧ (1 ≤ b ∧ b ≤ 20) ∧ c ≤ 2000 ∧ e ≤ 5 ∧ pLay Tk Vl i = (0, i + 7, [(0, a), (0, b), (0, c), (0, e)]) := by
  unfold pLay at h ⊢
  obtain ⟨h7, e, b7, e7⟩ := sqt h
  obtain ⟨h6, e6⟩ := sqw h7
  obtain ⟨h5, c, b5, e5⟩ := sqt h6
  obtain ⟨h4, e4⟩ := sqw h5
  obtain ⟨h3, b, b3, e3⟩ := sqt h4
  obtain ⟨h2, e2⟩ := sqw h3
  obtain ⟨b1, e1⟩ := told_0 h2
  refine ⟨Vl i, b, c, e, b1.2, b3, b5.2, b7.2, ?_⟩
  rw [e7, e6, e5, e4, e3, e2, e1]
  rfl
theorem pBody_ok {Tk Vl : Nat → Nat} {E a i : Nat} (hE : Tk E = 41) (hi : i ≤ E) (ha : a ≤ 6) (h : (pBody Tk Vl a i).1 = 0) : OKc (a, (pBody Tk Vl a i).2.2) := by
  unfold pBody at h ⊢
  by_cases q6 : a = 6
  · rw [if_pos q6] at h ⊢
    obtain ⟨a', b, c, e, h1, h2, h3, h4, h5⟩ := pLay_0 h
    rw [h5]
    refine ⟨ha, fun k => absurd k (by show ¬ a < 5; omega), fun k => absurd k (by show ¬ a = 5; omega), fun k => absurd k (by show ¬ a < 6; omega), fun _ => ⟨rfl, ?_, h1, h2.1, h2.2, h3, h4⟩⟩
    intro j hj
    rcases (by omega : j = 0 ∨ j = 1 ∨ j = 2 ∨ j = 3) with k | k | k | k <;> subst k <;> rfl
  · rw [if_neg q6] at h ⊢
    by_cases q5 : a = 5
    · rw [if_pos q5] at h ⊢
      have g := (pp_good (Vl := Vl) (a := a) hE 3020 0 0 0 i hi (by decide) (by decide) (Or.inl rfl)).2 h
      refine ⟨ha, fun k => absurd k (by show ¬ a < 5; omega), fun _ => ?_, fun _ c hc h1 => ?_, fun k => absurd k q6⟩
      · have := g.2.2.2.2 0 0 (fun _ => rfl) (by decide)
        rw [if_pos rfl] at this
        exact this
      · have hb := g.2.2.2.1 c hc h1
        unfold nmb at hb
        have hb2 : c.2 = 12 ∨ (a = 2 ∧ 13 ≤ c.2 ∧ c.2 < 17) ∨ (a ≠ 2 ∧ c.2 < 8) ∨ (a = 0 ∧ c.2 < 12) := of_decide_eq_true hb
        exact hb2
    · rw [if_neg q5] at h ⊢
      have g := (pp_good (Vl := Vl) (a := a) hE 3020 0 3 0 i hi (by decide) (by decide) (Or.inl rfl)).2 h
      refine ⟨ha, fun _ => ?_, fun k => absurd k q5, fun _ c hc h1 => ?_, fun k => absurd k q6⟩
      · have := g.2.2.2.2 0 0 (fun _ => rfl) (by decide)
        rw [if_pos rfl] at this
        exact this
      · have hb := g.2.2.2.1 c hc h1
        unfold nmb at hb
        have hb2 : c.2 = 12 ∨ (a = 2 ∧ 13 ≤ c.2 ∧ c.2 < 17) ∨ (a ≠ 2 ∧ c.2 < 8) ∨ (a = 0 ∧ c.2 < 12) := of_decide_eq_true hb
        exact hb2
theorem pClause_ok {Tk Vl : Nat → Nat} {E i : Nat} {τ : TX} (hE : Tk E = 41) (hE3 : E ≤ 300) (hi : i ≤ E) (h : (pClause Tk Vl τ i).1 = 0) (hO : OKT τ) : OKT (tad τ (Tk i - 17) (pClause Tk Vl τ i).2.2) ∧ i < (pClause Tk Vl τ i).2.1 := by
  unfold pClause at h ⊢
  by_cases q : 17 ≤ Tk i ∧ Tk i ≤ 23
  · rw [if_pos q] at h ⊢
    by_cases q4 : Tk i - 17 < 5 ∧ fnd τ (Tk i - 17) < τ.1
    · rw [if_pos q4] at h; exact absurd h (show ¬ (4 : Nat) = 0 by decide)
    · rw [if_neg q4] at h ⊢
      by_cases q6 : 20 ≤ τ.1
      · rw [if_pos q6] at h; exact absurd h (show ¬ (6 : Nat) = 0 by decide)
      · rw [if_neg q6] at h ⊢
        have hi1 : i + 1 ≤ E := by
          by_cases k : i = E
          · rw [k, hE] at q; omega
          · omega
        obtain ⟨h1, e⟩ := sqw h
        have ok := pBody_ok (Vl := Vl) hE hi1 (by omega : Tk i - 17 ≤ 6) h1
        have hj : i + 1 < (pBody Tk Vl (Tk i - 17) (i + 1)).2.1 := by
          unfold pBody at h1 ⊢
          by_cases k6 : Tk i - 17 = 6
          · rw [if_pos k6] at h1 ⊢
            obtain ⟨a', b, c, e, _, _, _, _, h5⟩ := pLay_0 h1
            rw [h5]
            show i + 1 < i + 1 + 7
            omega
          · rw [if_neg k6] at h1 ⊢
            by_cases k5 : Tk i - 17 = 5
            · rw [if_pos k5] at h1 ⊢
              exact ((pp_good (Vl := Vl) hE 3020 0 0 0 (i + 1) hi1 (by decide) (by decide) (Or.inl rfl)).2 h1).1.2 rfl
            · rw [if_neg k5] at h1 ⊢
              exact ((pp_good (Vl := Vl) hE 3020 0 3 0 (i + 1) hi1 (by decide) (by decide) (Or.inl rfl)).2 h1).1.2 rfl
        rw [e]
        refine ⟨⟨by show τ.1 + 1 ≤ 20; omega, fun k hk => ?_⟩, by show i < (pBody Tk Vl (Tk i - 17) (i + 1)).2.1 + 1; omega⟩
        have hk' : k < τ.1 + 1 := hk
        show OKc (if k = τ.1 then (Tk i - 17, (pBody Tk Vl (Tk i - 17) (i + 1)).2.2) else τ.2 k)
        by_cases kq : k = τ.1
        · rw [if_pos kq]; exact ok
        · rw [if_neg kq]; exact hO.2 k (by omega)
  · rw [if_neg q] at h; exact absurd h (show ¬ (1 : Nat) = 0 by decide)
