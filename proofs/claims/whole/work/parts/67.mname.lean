/-! the reference: names, clauses, sums -/
theorem fl_iff {w : Nat} {y : VW} (ok : OKP w y) : y 0 1 < 0 ↔ y 0 1 = N1 := by
  rcases ok.2.1.2.1 with h | ⟨k, _, hk, h⟩
  · rw [h]; exact ⟨fun _ => rfl, fun _ => by decide⟩
  · rw [h]
    constructor
    · intro q; exact absurd q (nI_pos (by omega))
    · intro q
      have := i_m1 (a := k) (by omega)
      rw [this] at q
      exact q.elim
theorem mn_bs {s : qm_Hp} {b w c z : Nat} {y : VW} (hP : PM s b w y) (ok : OKP w y) (hc : c < w) (hz : z < cn y c) : mb_bs s b w c z = nI (nbs y w c z) := by
  have h8 := OK_n ok hc
  have hw6 := ok.1.2
  unfold mb_bs nbs
  rw [bs_same, ← nI_add, ← nI_add, ← nI_add, PM_c hP hc, nI_1, nI_1]
  congr 1
  · congr 1
    · congr 1
      · exact ite_nI (by rw [show (0 : Int32) = nI 0 from rfl, nI_leI (by omega) (by omega)]; omega)
      · exact ite_nI (by rw [nI_leI (by omega) (by omega)]; omega)
    · by_cases h0 : 0 < c
      · rw [PM_c hP (c := c - 1) (by omega)]
        have := OK_n ok (c := c - 1) (by omega)
        exact ite_nI (by rw [show (0 : Int32) = nI 0 from rfl, nI_leI (by omega) (by omega), nI_leI (by omega) (by omega)]; omega)
      · exact ite_nI (by rw [show (0 : Int32) = nI 0 from rfl, nI_leI (by omega) (by omega)]; constructor <;> intro h <;> first | omega | exact Or.inl (by omega))
  · by_cases h0 : c + 1 < w
    · rw [PM_c hP h0]
      have := OK_n ok h0
      exact ite_nI (by rw [nI_leI (by omega) (by omega), nI_leI (by omega) (by omega)]; omega)
    · exact ite_nI (by rw [nI_leI (by omega) (by omega)]; constructor <;> intro h <;> first | omega | exact Or.inl (by omega))
theorem mn_fr (s : qm_Hp) (b w c z : Nat) : fr [65] s (hp_name s b w c z) := by
  unfold hp_name
  repeat' (first | exact fr_refl _ _ | refine fr_uI (by decide) ?_ _ _ _)
theorem mn_no (s : qm_Hp) (b w c z v : Nat) (hv : 8 ≤ v ∧ v ≠ 12) : zI (hp_name s b w c z) 65 0 v = zI s 65 0 v := by
  unfold hp_name
  simp (disch := omega) only [zI_uI, n_eqF, and_false, ↓reduceIte]
theorem mn_ev {s : qm_Hp} {b w c z : Nat} {y : VW} (W : Nat → Int32) (hP : PM s b w y) (ok : OKP w y) (hc : c < w) (hz : z < cn y c) (v : Nat) (hv : v < 8 ∨ v = 12) : zI (hp_name s b w c z) 65 0 v = ev y w W c z v := by
  have hw6 := ok.1
  have h8 := OK_n ok hc
  have hv : v = 0 ∨ v = 1 ∨ v = 2 ∨ v = 3 ∨ v = 4 ∨ v = 5 ∨ v = 6 ∨ v = 7 ∨ v = 12 := by omega
  have h7 := hP.2.1.2.1
  unfold hp_name
  rcases hv with h | h | h | h | h | h | h | h | h <;> subst h <;> simp only [zI_uI, Nat.reduceEqDiff, and_false, and_true, and_self, ↓reduceIte]
  · exact PM_s hP hc hz 2 (by decide)
  · exact PM_s hP hc hz 1 (by decide)
  · exact PM_s hP hc hz 0 (by decide)
  · exact PM_s hP hc hz 3 (by decide)
  · unfold mm_hi
    rw [h7]
    exact ite_bi (fl_iff ok) _ _
  · unfold mm_tp
    rw [h7, PM_c hP hc, nI_1]
    show _ = if y 0 1 = N1 ∧ z + 1 < cn y c then nI 0 else nI 1
    by_cases q : y 0 1 = N1
    · rw [if_pos ((fl_iff ok).mpr q)]
      by_cases q2 : z + 1 < cn y c
      · rw [if_neg (fun g => by have := (nI_eq (by omega) (by omega)).mp g; omega), if_pos ⟨q, q2⟩]; rfl
      · rw [if_pos (by congr 1; omega), if_neg (fun g => q2 g.2)]; rfl
    · rw [if_neg (fun g => q ((fl_iff ok).mp g)), if_neg (fun g => q g.1)]; rfl
  · unfold mm_bs
    rw [h7, mn_bs hP ok hc hz]
    exact ite_bi (fl_iff ok) _ _
  · unfold mm_su
    rw [hP.2.1.2.2.2.2]
    show _ = if c = (if y 0 4 = nI 0 then 0 else w - 1) then nI 1 else nI 0
    by_cases h0 : y 0 4 = nI 0
    · rw [if_pos h0, if_pos (show y 0 4 = 0 from h0)]
      exact ite_bi (by rw [show (0 : Int32) = nI 0 from rfl, nI_eq (by omega) (by omega)]) _ _
    · rw [if_neg h0, if_neg (show ¬ y 0 4 = 0 from h0)]
      have e : nI w - 1 = nI (w - 1) := by
        obtain ⟨v, rfl⟩ : ∃ v, w = v + 1 := ⟨w - 1, by omega⟩
        exact nI_pred v
      rw [e]
      exact ite_bi (by rw [nI_eq (by omega) (by omega)]) _ _
  · exact hP.2.1.1
/-- the reference goes by τ -/
def LM (s : qm_Hp) (τ : TX) : Prop := (zI s 61 0 3 = N1 ∧ τ.1 = 0) ∨ ∃ t, t < 4 ∧ zI s 61 0 3 = nI t ∧ TM s t τ
theorem LM_eq {s s' : qm_Hp} {τ : TX} (e1 : zI s' 61 0 3 = zI s 61 0 3) (e2 : ∀ j, zI s' 62 0 j = zI s 62 0 j) (h : LM s τ) : LM s' τ := by
  rcases h with ⟨h1, h2⟩ | ⟨t, h1, h2, h3⟩
  · exact Or.inl ⟨e1.trans h1, h2⟩
  · exact Or.inr ⟨t, h1, e1.trans h2, TM_eq e2 h3⟩
theorem LM_fr {K : List Nat} {s s' : qm_Hp} {τ : TX} (hK : ∀ k, k ∈ [61, 62] → k ∉ K) (hf : fr K s s') (h : LM s τ) : LM s' τ :=
  LM_eq (hf.1 61 0 3 (hK 61 (by decide))) (fun j => hf.1 62 0 j (hK 62 (by decide))) h
theorem r_clauses (d : Nat) {s : qm_Hp} {τ : TX} (hL : LM s τ) (okt : OKT τ) : qm_evM d jM_clauses [qP 9 0] s = some (some (qI (nI τ.1)), s) := by
  rcases hL with ⟨h1, h2⟩ | ⟨t, h1, h2, h3⟩
  · have : N1 < nI 0 := by decide
    have h' : ¬ nI 0 ≤ N1 := by decide
    simp (config := {maxSteps := 1000000}) (disch := first | omega | assumption | (simp only [qm_wid_n, qm_wid_I, qm_wid_L, qm_wid_P] <;> omega)) only [e_M_clauses, b_M_clauses_0, b_M_clauses_1, b_M_clauses_2, qy0, qy1, qy2, qy3, qe, qcn, qin, ↓reduceIte, Nat.reduceEqDiff, Nat.reduceLeDiff, Bool.false_eq_true, Nat.reduceAdd, Nat.reduceSub, Nat.reduceMul, Nat.reduceLT, or_self, or_false, false_or, or_true, true_or, and_self, and_true, true_and, and_false, false_and, not_true_eq_false, not_false_eq_true, h1, h2, h']
  · have h4 := h3.1
    simp (config := {maxSteps := 1000000}) (disch := first | omega | assumption | (simp only [qm_wid_n, qm_wid_I, qm_wid_L, qm_wid_P] <;> omega)) only [e_M_clauses, b_M_clauses_0, b_M_clauses_1, b_M_clauses_2, qy0, qy1, qy2, qy3, qe, qcn, qin, ↓reduceIte, Nat.reduceEqDiff, Nat.reduceLeDiff, Bool.false_eq_true, Nat.reduceAdd, Nat.reduceSub, Nat.reduceMul, Nat.reduceLT, or_self, or_false, false_or, or_true, true_or, and_self, and_true, true_and, and_false, false_and, not_true_eq_false, not_false_eq_true, h2, h4]
theorem r_clauseOf (d a : Nat) {s : qm_Hp} {τ : TX} (hL : LM s τ) (okt : OKT τ) (ha : a < 7) : qm_evM (d + 1) jM_clauseOf [qP 9 0, qI (nI a)] s = some (some (qI (if fnd τ a < τ.1 then nI (fnd τ a) else N1)), s) := by
  have h20 := okt.1
  have hcl := r_clauses d hL okt
  have key : ∀ m k, k + m = τ.1 → qm_evB (d + 1) jM_clauseOf 1 [qP 9 0, qI (nI a), qI (nI k)] [] s = some (some (qI (if fg (fun j => (τ.2 j).1) a m k < τ.1 then nI (fg (fun j => (τ.2 j).1) a m k) else N1)), s) := by
    intro m
    induction m with
    | zero =>
      intro k hk
      unfold fg
      rw [if_neg (by omega)]
      simp (config := {maxSteps := 1000000}) (disch := first | omega | assumption | (simp only [qm_wid_n, qm_wid_I, qm_wid_L, qm_wid_P] <;> omega)) only [b_M_clauseOf_1, b_M_clauseOf_3, qy0, qy1, qy2, qy3, qe, qcn, qin, ↓reduceIte, Nat.reduceEqDiff, Nat.reduceLeDiff, Bool.false_eq_true, Nat.reduceAdd, Nat.reduceSub, Nat.reduceMul, Nat.reduceLT, or_self, or_false, false_or, or_true, true_or, and_self, and_true, true_and, and_false, false_and, not_true_eq_false, not_false_eq_true, hcl]
    | succ m ih =>
      intro k hk
      rcases hL with ⟨h1, h2⟩ | ⟨t, h1, h2, h3⟩
      · omega
      · have hs := (h3.2 k (by omega)).1
        have o1 := (okt.2 k (by omega)).1
        unfold fg
        by_cases q : (τ.2 k).1 = a
        · rw [if_pos q, if_pos (by omega)]
          rw [q] at hs
          simp (config := {maxSteps := 1000000}) (disch := first | omega | assumption | (simp only [qm_wid_n, qm_wid_I, qm_wid_L, qm_wid_P] <;> omega)) only [b_M_clauseOf_1, qy0, qy1, qy2, qy3, qe, qcn, qin, ↓reduceIte, Nat.reduceEqDiff, Nat.reduceLeDiff, Bool.false_eq_true, Nat.reduceAdd, Nat.reduceSub, Nat.reduceMul, Nat.reduceLT, or_self, or_false, false_or, or_true, true_or, and_self, and_true, true_and, and_false, false_and, not_true_eq_false, not_false_eq_true, hcl, h2, hs]
        · rw [if_neg q]
          refine Eq.trans ?_ (ih (k + 1) (by omega))
          refine (b_M_clauseOf_1 ..).trans ?_
          simp (config := {maxSteps := 1000000}) (disch := first | omega | assumption | (simp only [qm_wid_n, qm_wid_I, qm_wid_L, qm_wid_P] <;> omega)) only [b_M_clauseOf_2, qy0, qy1, qy2, qy3, qe, qcn, qin, ↓reduceIte, Nat.reduceEqDiff, Nat.reduceLeDiff, Bool.false_eq_true, Nat.reduceAdd, Nat.reduceSub, Nat.reduceMul, Nat.reduceLT, or_self, or_false, false_or, or_true, true_or, and_self, and_true, true_and, and_false, false_and, not_true_eq_false, not_false_eq_true, hcl, h2, hs]
  simp (config := {maxSteps := 1000000}) (disch := first | omega | assumption | (simp only [qm_wid_n, qm_wid_I, qm_wid_L, qm_wid_P] <;> omega)) only [e_M_clauseOf, b_M_clauseOf_0, qy0, qy1, qy2, qy3, qe, qcn, qin, ↓reduceIte, Nat.reduceEqDiff, Nat.reduceLeDiff, Bool.false_eq_true, Nat.reduceAdd, Nat.reduceSub, Nat.reduceMul, Nat.reduceLT, or_self, or_false, false_or, or_true, true_or, and_self, and_true, true_and, and_false, false_and, not_true_eq_false, not_false_eq_true]
  exact key τ.1 0 (by omega)
theorem r_work (d : Nat) {s : qm_Hp} {τ : TX} (hL : LM s τ) (okt : OKT τ) {k : Nat} (hk : k < τ.1) (h6 : (τ.2 k).1 < 6) (env : Nat → Int32) (he : ∀ v, nmok (τ.2 k).1 v → zI s 65 0 v = env v ∧ bd (env v)) : ∃ s', qm_evM (d + 2) jM_work [qP 9 0, qI (nI k)] s = some (none, s') ∧ fr [66, 67] s s' ∧ ((τ.2 k).1 < 5 → zL s' 66 0 0 = (cv env (τ.2 k).2).toInt64 ∧ bd (cv env (τ.2 k).2)) ∧ ((τ.2 k).1 = 5 → zI s' 67 0 0 = cv env (τ.2 k).2 ∧ (cv env (τ.2 k).2 = 0 ∨ cv env (τ.2 k).2 = 1)) := by
  have h20 := okt.1
  rcases hL with ⟨h1, h2⟩ | ⟨t, ht4, ht, hT⟩
  · omega
  · obtain ⟨q1, q2, q3⟩ := hT.2 k hk
    obtain ⟨fm, a1, a2, a3, a4⟩ := q3 h6
    obtain ⟨o1, o2, o3, o4, o5⟩ := okt.2 k hk
    generalize hC : (τ.2 k).2 = C at *
    have run : ∀ T' N', wt C 0 0 T' N' → ∃ s', qm_evM (d + 2) jM_work [qP 9 0, qI (nI k)] s = some (none, s') ∧ stk (fun j => zI s' 67 0 j) (rn env C ([], [])).1 ∧ stk (fun j => zL s' 66 0 j) ((rn env C ([], [])).2.map Int32.toInt64) ∧ (∀ x, x ∈ (rn env C ([], [])).2 → bd x) ∧ (∀ x, x ∈ (rn env C ([], [])).1 → x = 0 ∨ x = 1) ∧ (rn env C ([], [])).1.length = T' ∧ (rn env C ([], [])).2.length = N' ∧ fr [66, 67] s s' := by
      intro T' N' hw
      obtain ⟨s', b7, b8, e, r1, r2, r3, r4, r5, r6, r7⟩ := k_run d k (720 * t + 1 + 5 * k) (720 * t + 110) (fm + C.length) T' N' env (by omega) (by omega) a3 C fm ([], []) qU qU s a2 rfl a4 hw (fun c hc hc1 => he _ (o4 h6 c hc hc1)) trivial trivial (fun x hx => by cases hx) (fun x hx => by cases hx) (by simp)
      refine ⟨s', ?_, r1, r2, r3, r4, r5, r6, r7⟩
      have e' : qm_evB (d + 2) jM_work 1 [qP 9 0, qI (nI k), qI (nI (720 * t + 1 + 5 * k)), qI (nI (720 * t + 110)), qI (nI 0), qI (nI 0), qI (nI fm), qU, qU] [] s = _ := e
      have g2 : zI s' 62 0 (720 * t + 1 + 5 * k + 2) = nI (fm + C.length) := by rw [r7.1 62 0 _ (by decide)]; exact a2
      simp (config := {maxSteps := 1000000}) (disch := first | omega | assumption | (simp only [qm_wid_n, qm_wid_I, qm_wid_L, qm_wid_P] <;> omega)) only [e_M_work, b_M_work_0, qy0, qy1, qy2, qy3, qe, qcn, qin, ↓reduceIte, Nat.reduceEqDiff, Nat.reduceLeDiff, Bool.false_eq_true, Nat.reduceAdd, Nat.reduceSub, Nat.reduceMul, Nat.reduceLT, or_self, or_false, false_or, or_true, true_or, and_self, and_true, true_and, and_false, false_and, not_true_eq_false, not_false_eq_true, ht, a1]
      refine e'.trans ?_
      simp (config := {maxSteps := 1000000}) (disch := first | omega | assumption | (simp only [qm_wid_n, qm_wid_I, qm_wid_L, qm_wid_P] <;> omega)) only [b_M_work_1, b_M_work_17, qy0, qy1, qy2, qy3, qe, qcn, qin, ↓reduceIte, Nat.reduceEqDiff, Nat.reduceLeDiff, Bool.false_eq_true, Nat.reduceAdd, Nat.reduceSub, Nat.reduceMul, Nat.reduceLT, or_self, or_false, false_or, or_true, true_or, and_self, and_true, true_and, and_false, false_and, not_true_eq_false, not_false_eq_true, g2]
    by_cases h5 : (τ.2 k).1 < 5
    · obtain ⟨s', e, r1, r2, r3, r4, r5, r6, r7⟩ := run 0 1 (o2 h5)
      refine ⟨s', e, r7, fun _ => ?_, fun h => by omega⟩
      match hq : rn env C ([], []), r5, r6, r2, r3 with
      | ([], [x]), _, _, r2, r3 =>
        have hcv : cv env C = x := by unfold cv sk; rw [hq]; rfl
        rw [hcv]
        exact ⟨r2.1, r3 x (List.mem_cons_self ..)⟩
    · obtain ⟨s', e, r1, r2, r3, r4, r5, r6, r7⟩ := run 1 0 (o3 (by omega))
      refine ⟨s', e, r7, fun h => by omega, fun _ => ?_⟩
      match hq : rn env C ([], []), r5, r6, r1, r4 with
      | ([x], []), _, _, r1, r4 =>
        have hcv : cv env C = x := by unfold cv sk; rw [hq]; rfl
        rw [hcv]
        exact ⟨r1.1, r4 x (List.mem_cons_self ..)⟩
theorem wide_32 (x : Int32) : x.toInt64.toInt32 = x := by
  rw [fa_eq, Int64.toInt_toInt32, Int32.toInt_toInt64]
  have := fb_rng x
  exact fb_bmod this.1 this.2
theorem held_ck (x a b : Int32) (hab : a ≤ b) : (if x.toInt64 < a.toInt64 then a else if b.toInt64 < x.toInt64 then b else x.toInt64.toInt32) = ck x a b := by
  unfold ck
  rw [wide_32]
  simp only [fa_wide_lt, fa_lt]
  rw [fa_le] at hab
  by_cases h1 : x.toInt < a.toInt
  · have h2 : x.toInt < b.toInt := by omega
    rw [if_pos h1, if_pos h2, if_neg (by omega)]
  · rw [if_neg h1]
    by_cases h2 : x.toInt < b.toInt
    · rw [if_pos h2, if_neg (by omega)]
      by_cases h3 : a.toInt < x.toInt
      · rw [if_pos h3]
      · rw [if_neg h3, fa_eq]; omega
    · rw [if_neg h2]
      by_cases h3 : b.toInt < x.toInt
      · rw [if_pos h3]
        by_cases h4 : a.toInt < b.toInt
        · rw [if_pos h4]
        · rw [if_neg h4, fa_eq]; omega
      · rw [if_neg h3]
        by_cases h4 : a.toInt < b.toInt
        · rw [if_pos h4, fa_eq]; omega
        · rw [if_neg h4, fa_eq]; omega
theorem r_held (d : Nat) (s : qm_Hp) (x a b : Int32) (hab : a ≤ b) : qm_evM d jM_held [qL x.toInt64, qI a, qI b] s = some (some (qI (ck x a b)), s) := by
  rw [m_held, held_ck x a b hab]
theorem r_sumOf (d a : Nat) {s : qm_Hp} {τ : TX} (env : Nat → Int32) (lo hi : Nat) (dft : Int32) (hlh : lo ≤ hi) (hh : hi < 2147483648) (hL : LM s τ) (okt : OKT τ) (ha : a < 5) (he : ∀ v, nmok a v → zI s 65 0 v = env v ∧ bd (env v)) : ∃ s', qm_evM (d + 3) jM_sumOf [qP 9 0, qI (nI a), qI (nI lo), qI (nI hi), qI dft] s = some (some (qI (sm τ a env (nI lo) (nI hi) dft)), s') ∧ fr [66, 67] s s' := by
  have h20 := okt.1
  have hcl := r_clauseOf (d + 1) a hL okt (by omega)
  by_cases hf : fnd τ a < τ.1
  · have hs := fnd_is hf
    rw [if_pos hf] at hcl
    obtain ⟨s', q1, q2, q3, q4⟩ := r_work d hL okt hf (by omega) env (fun v hv => he v (by rw [hs] at hv; exact hv))
    obtain ⟨q5, q6⟩ := q3 (by omega)
    refine ⟨s', ?_, q2⟩
    have hd := r_held (d + 2) s' (cv env (τ.2 (fnd τ a)).2) (nI lo) (nI hi) (nI_le hlh hh)
    rw [sm_yes hf]
    simp (config := {maxSteps := 1000000}) (disch := first | omega | assumption | (simp only [qm_wid_n, qm_wid_I, qm_wid_L, qm_wid_P] <;> omega)) only [e_M_sumOf, b_M_sumOf_0, b_M_sumOf_1, qy0, qy1, qy2, qy3, qe, qcn, qin, ↓reduceIte, Nat.reduceEqDiff, Nat.reduceLeDiff, Bool.false_eq_true, Nat.reduceAdd, Nat.reduceSub, Nat.reduceMul, Nat.reduceLT, or_self, or_false, false_or, or_true, true_or, and_self, and_true, true_and, and_false, false_and, not_true_eq_false, not_false_eq_true, hcl, q1, q5, hd]
  · rw [if_neg hf] at hcl
    refine ⟨s, ?_, fr_refl _ _⟩
    have h' : ¬ nI 0 ≤ N1 := by decide
    rw [sm_no hf]
    simp (config := {maxSteps := 1000000}) (disch := first | omega | assumption | (simp only [qm_wid_n, qm_wid_I, qm_wid_L, qm_wid_P] <;> omega)) only [e_M_sumOf, b_M_sumOf_0, b_M_sumOf_1, qy0, qy1, qy2, qy3, qe, qcn, qin, ↓reduceIte, Nat.reduceEqDiff, Nat.reduceLeDiff, Bool.false_eq_true, Nat.reduceAdd, Nat.reduceSub, Nat.reduceMul, Nat.reduceLT, or_self, or_false, false_or, or_true, true_or, and_self, and_true, true_and, and_false, false_and, not_true_eq_false, not_false_eq_true, hcl, h']
