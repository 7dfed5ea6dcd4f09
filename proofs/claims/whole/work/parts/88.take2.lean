/-! the call take -/
theorem l3_inv {A B : Type} (w : Nat) (n : Nat → Nat) (ini : Nat → A → B) (g : Nat → Nat → B → B) (fin : Nat → B → A) (I : Nat → A → Prop) (J : Nat → Nat → B → Prop) (h1 : ∀ c a, c < w → I c a → J c 0 (ini c a)) (h2 : ∀ c z b, c < w → z < n c → J c z b → J c (z + 1) (g c z b)) (h3 : ∀ c b, c < w → J c (n c) b → I (c + 1) (fin c b)) (a : A) (h0 : I 0 a) : I w (l3 n ini g fin w a) := by
  obtain ⟨_, _, _, h⟩ := q_l3 (R := Unit) w n ini g fin (fun c a (_ : Unit) => I c a) (fun c z b (_ : Unit) => J c z b) (fun _ _ _ (_ : Unit) => ()) (fun _ _ _ _ (_ : Unit) => ()) (fun c a _ _ hc hi => ⟨⟨(), rfl⟩, h1 c a hc hi⟩) (fun c z b _ _ hc hz hj => ⟨(), (), rfl, h2 c z b hc hz hj⟩) (fun c b _ _ hc hj => ⟨(), (), rfl, h3 c b hc hj⟩) a () () h0
  exact h
/-- the lowest that may be taken -/
def tlo (y : VW) (c : Nat) : Nat := if y 0 1 = N1 then cn y c - 1 else 0
theorem tlo_le (y : VW) (c : Nat) : tlo y c ≤ cn y c := by
  unfold tlo
  by_cases h : y 0 1 = N1
  · rw [if_pos h]; omega
  · rw [if_neg h]; omega
theorem tlo_lt {y : VW} {c : Nat} (h : cn y c - tlo y c = 0) : cn y c = 0 := by
  unfold tlo at h
  by_cases q : y 0 1 = N1
  · rw [if_pos q] at h; omega
  · rw [if_neg q] at h; omega
abbrev tkO : Type := Option (Nat × Nat × Int32)
def tkg (τ : TX) (y : VW) (w : Nat) : Nat → Nat → tkO → tkO := fun c k b => match b with
  | none => some (c, tlo y c + k, worth τ y w c (tlo y c + k))
  | some q => if q.2.2 < worth τ y w c (tlo y c + k) then some (c, tlo y c + k, worth τ y w c (tlo y c + k)) else some q
def tkid : Nat → tkO → tkO := fun _ a => a
def tko (τ : TX) (y : VW) (w : Nat) : tkO := l3 (fun c => cn y c - tlo y c) tkid (tkg τ y w) tkid w none
def tkI (y : VW) (w c : Nat) (b : tkO) : Prop := (b = none → ∀ c', c' < c → cn y c' = 0) ∧ ∀ q, b = some q → q.1 < w ∧ q.2.1 < cn y q.1
def tkJ (y : VW) (w c k : Nat) (b : tkO) : Prop := (b = none → k = 0 ∧ ∀ c', c' < c → cn y c' = 0) ∧ ∀ q, b = some q → q.1 < w ∧ q.2.1 < cn y q.1
theorem tk1 {y : VW} {w c : Nat} {b : tkO} (h : tkI y w c b) : tkJ y w c 0 (tkid c b) := ⟨fun e => ⟨rfl, h.1 e⟩, h.2⟩
theorem tk2 {τ : TX} {y : VW} {w c k : Nat} {b : tkO} (hc : c < w) (hk : k < cn y c - tlo y c) (h : tkJ y w c k b) : tkJ y w c (k + 1) (tkg τ y w c k b) := by
  cases b with
  | none =>
    refine ⟨(fun e => by cases e), fun q e => ?_⟩
    cases e
    exact ⟨hc, by show tlo y c + k < cn y c; omega⟩
  | some q0 =>
    unfold tkg
    dsimp only
    by_cases h2 : q0.2.2 < worth τ y w c (tlo y c + k)
    · rw [if_pos h2]
      refine ⟨(fun e => by cases e), fun q e => ?_⟩
      cases e
      exact ⟨hc, by show tlo y c + k < cn y c; omega⟩
    · rw [if_neg h2]
      exact ⟨(fun e => by cases e), h.2⟩
theorem tk3 {y : VW} {w c : Nat} {b : tkO} (h : tkJ y w c (cn y c - tlo y c) b) : tkI y w (c + 1) (tkid c b) := by
  refine ⟨fun e c' hc' => ?_, h.2⟩
  obtain ⟨h1, h2⟩ := h.1 e
  by_cases q : c' = c
  · rw [q]; exact tlo_lt h1
  · exact h2 c' (by omega)
theorem tko_I (τ : TX) (y : VW) (w : Nat) : tkI y w w (tko τ y w) := l3_inv w _ tkid (tkg τ y w) tkid (tkI y w) (tkJ y w) (fun c a _ h => tk1 h) (fun c z b hc hz h => tk2 hc hz h) (fun c b _ h => tk3 h) none ⟨fun _ c' hc' => by omega, fun q e => by cases e⟩
theorem spl_0 {y : VW} : ∀ n, (∀ c, c < n → cn y c = 0) → spl y n = 0
  | 0, _ => rfl
  | n + 1, h => by
    show spl y n + cn y n = 0
    rw [spl_0 n (fun c hc => h c (by omega)), h n (by omega)]
theorem tko_s {τ : TX} {y : VW} {w : Nat} (h : 0 < spl y w) : ∃ c z v, tko τ y w = some (c, z, v) ∧ c < w ∧ z < cn y c := by
  have hi := tko_I τ y w
  cases e : tko τ y w with
  | none =>
    rw [e] at hi
    rw [spl_0 w (hi.1 rfl)] at h
    exact absurd h (Nat.lt_irrefl _)
  | some q =>
    rw [e] at hi
    obtain ⟨c, z, v⟩ := q
    exact ⟨c, z, v, rfl, (hi.2 _ rfl).1, (hi.2 _ rfl).2⟩
def kc : tkO → Int32
  | none => N1
  | some q => nI q.1
def kz : tkO → Int32
  | none => N1
  | some q => nI q.2.1
def kv : tkO → Int32
  | none => nI 0
  | some q => q.2.2
def kh : tkO → Int32
  | none => nI 0
  | some q => nI q.2.1
theorem c_takeOne (d : Nat) {s : qm_Hp} {w c z : Nat} {v : Int32} {y : VW} {τ : TX} (hP : PC s 0 w y) (ok : OKP w y) (hL : LC s τ) (okt : OKT τ) (hk : tko τ y w = some (c, z, v)) : ∃ s', qm_evM (d + 5) jC_takeOne [qP 1 0] s = some (some (qI (heat τ y w c z)), s') ∧ PC s' 0 w (vrm y c z) ∧ fp (PP 0) s s' := by
  have hw6 := ok.1.2
  have hcz := (tko_I τ y w).2 _ hk
  dsimp only at hcz
  obtain ⟨s', ⟨x6, x7, x8⟩, e, hI, hf⟩ := q_l3 w (fun c => cn y c - tlo y c) tkid (tkg τ y w) tkid (fun c b s' => tkI y w c b ∧ fr [41, 42] s s') (fun c k b s' => tkJ y w c k b ∧ fr [41, 42] s s') (fun c b s' (x : qm_AV × qm_AV × qm_AV) => qm_evB (d + 5) jC_takeOne 1 [qP 1 0, qP 3 0, qI (kc b), qI (kz b), qI (kv b), qI (nI c), x.1, x.2.1, x.2.2] [] s') (fun c k b s' (x : qm_AV) => qm_evB (d + 5) jC_takeOne 4 [qP 1 0, qP 3 0, qI (kc b), qI (kz b), qI (kv b), qI (nI c), qI (nI (tlo y c)), qI (nI (tlo y c + k)), x] [] s') (fun c b s' x hc hs => by
      have hPx := PC_fr (K := [41, 42]) (by decide) hs.2 hP
      have hww := hPx.1
      have hfl : zI s' 3 0 9 = y 0 1 := hPx.2.1.2.1
      have h8 := OK_n ok hc
      have hcn := PC_c hPx hc
      refine ⟨?_, tk1 hs.1, hs.2⟩
      unfold tlo tkid
      by_cases hf : y 0 1 = N1
      · rw [hf] at hfl
        by_cases h0 : cn y c = 0
        · have hn : ¬ (nI 0 < nI 0 - nI 1) := by decide
          rw [h0] at hcn
          refine ⟨x.2.2, (b_C_takeOne_1 ..).trans ?_⟩
          simp (config := {maxSteps := 1000000}) (disch := first | omega | assumption | (simp only [qm_wid_n, qm_wid_I, qm_wid_L, qm_wid_P] <;> omega)) only [b_C_takeOne_2, b_C_takeOne_3, qy0, qy1, qy2, qy3, qe, qcn, qin, ↓reduceIte, Nat.reduceEqDiff, Nat.reduceLeDiff, Bool.false_eq_true, Nat.reduceAdd, Nat.reduceSub, Nat.reduceMul, Nat.reduceLT, or_self, or_false, false_or, or_true, true_or, and_self, and_true, true_and, and_false, false_and, not_true_eq_false, not_false_eq_true, hww, t_isFallen, hfl, hf, hcn, h0, hn]
        · have em := imax (a := 0) (b := cn y c - 1) (by decide) (by omega)
          rw [Nat.zero_max] at em
          refine ⟨x.2.2, (b_C_takeOne_1 ..).trans ?_⟩
          simp (config := {maxSteps := 1000000}) (disch := first | omega | assumption | (simp only [qm_wid_n, qm_wid_I, qm_wid_L, qm_wid_P] <;> omega)) only [b_C_takeOne_2, b_C_takeOne_3, qy0, qy1, qy2, qy3, qe, qcn, qin, ↓reduceIte, Nat.reduceEqDiff, Nat.reduceLeDiff, Bool.false_eq_true, Nat.reduceAdd, Nat.reduceSub, Nat.reduceMul, Nat.reduceLT, or_self, or_false, false_or, or_true, true_or, and_self, and_true, true_and, and_false, false_and, not_true_eq_false, not_false_eq_true, hww, t_isFallen, hfl, hf, hcn, em, Nat.add_zero]
      · refine ⟨x.2.2, (b_C_takeOne_1 ..).trans ?_⟩
        simp (config := {maxSteps := 1000000}) (disch := first | omega | assumption | (simp only [qm_wid_n, qm_wid_I, qm_wid_L, qm_wid_P] <;> omega)) only [b_C_takeOne_3, qy0, qy1, qy2, qy3, qe, qcn, qin, ↓reduceIte, Nat.reduceEqDiff, Nat.reduceLeDiff, Bool.false_eq_true, Nat.reduceAdd, Nat.reduceSub, Nat.reduceMul, Nat.reduceLT, or_self, or_false, false_or, or_true, true_or, and_self, and_true, true_and, and_false, false_and, not_true_eq_false, not_false_eq_true, hww, t_isFallen, hfl, hf]) (fun c k b s' x hc hk hs => by
      have hPx := PC_fr (K := [41, 42]) (by decide) hs.2 hP
      have h8 := OK_n ok hc
      have hcn := PC_c hPx hc
      obtain ⟨s2, g1, g2⟩ := c_worth d hPx ok (LC_fr (K := [41, 42]) (by decide) hs.2 hL) okt hc (z := tlo y c + k) (by omega)
      have hJ := tk2 (τ := τ) hc hk hs.1
      refine ⟨s2, qI (worth τ y w c (tlo y c + k)), ?_, hJ, fr_trans hs.2 g2⟩
      refine (b_C_takeOne_4 ..).trans ?_
      cases b with
      | none => simp (config := {maxSteps := 1000000}) (disch := first | omega | assumption | (simp only [qm_wid_n, qm_wid_I, qm_wid_L, qm_wid_P] <;> omega)) only [b_C_takeOne_5, b_C_takeOne_6, qy0, qy1, qy2, qy3, qe, qcn, qin, ↓reduceIte, Nat.reduceEqDiff, Nat.reduceLeDiff, Bool.false_eq_true, Nat.reduceAdd, Nat.reduceSub, Nat.reduceMul, Nat.reduceLT, or_self, or_false, false_or, or_true, true_or, and_self, and_true, true_and, and_false, false_and, not_true_eq_false, not_false_eq_true, hcn, g1, kc, kz, kv, tkg, Nat.add_assoc]
      | some q =>
        have hq := hs.1.2 q rfl
        unfold tkg
        dsimp only
        by_cases h2 : q.2.2 < worth τ y w c (tlo y c + k)
        · have h2' := Int32.not_le.mpr h2
          rw [if_pos h2]
          simp (config := {maxSteps := 1000000}) (disch := first | omega | assumption | (simp only [qm_wid_n, qm_wid_I, qm_wid_L, qm_wid_P] <;> omega)) only [b_C_takeOne_5, b_C_takeOne_6, qy0, qy1, qy2, qy3, qe, qcn, qin, ↓reduceIte, Nat.reduceEqDiff, Nat.reduceLeDiff, Bool.false_eq_true, Nat.reduceAdd, Nat.reduceSub, Nat.reduceMul, Nat.reduceLT, or_self, or_false, false_or, or_true, true_or, and_self, and_true, true_and, and_false, false_and, not_true_eq_false, not_false_eq_true, hcn, g1, kc, kz, kv, h2', Nat.add_assoc]
        · have h2' := Int32.not_lt.mp h2
          rw [if_neg h2]
          simp (config := {maxSteps := 1000000}) (disch := first | omega | assumption | (simp only [qm_wid_n, qm_wid_I, qm_wid_L, qm_wid_P] <;> omega)) only [b_C_takeOne_6, qy0, qy1, qy2, qy3, qe, qcn, qin, ↓reduceIte, Nat.reduceEqDiff, Nat.reduceLeDiff, Bool.false_eq_true, Nat.reduceAdd, Nat.reduceSub, Nat.reduceMul, Nat.reduceLT, or_self, or_false, false_or, or_true, true_or, and_self, and_true, true_and, and_false, false_and, not_true_eq_false, not_false_eq_true, hcn, g1, kc, kz, kv, h2', Nat.add_assoc]) (fun c b s' x hc hs => by
      have hPx := PC_fr (K := [41, 42]) (by decide) hs.2 hP
      have h8 := OK_n ok hc
      have hcn := PC_c hPx hc
      have ht := tlo_le y c
      have e1 : tlo y c + (cn y c - tlo y c) = cn y c := by omega
      refine ⟨s', (qI (nI (tlo y c)), qI (nI (cn y c)), x), ?_, tk3 hs.1, hs.2⟩
      refine (b_C_takeOne_4 ..).trans ?_
      simp (config := {maxSteps := 1000000}) (disch := first | omega | assumption | (simp only [qm_wid_n, qm_wid_I, qm_wid_L, qm_wid_P] <;> omega)) only [b_C_takeOne_7, qy0, qy1, qy2, qy3, qe, qcn, qin, ↓reduceIte, Nat.reduceEqDiff, Nat.reduceLeDiff, Bool.false_eq_true, Nat.reduceAdd, Nat.reduceSub, Nat.reduceMul, Nat.reduceLT, or_self, or_false, false_or, or_true, true_or, and_self, and_true, true_and, and_false, false_and, not_true_eq_false, not_false_eq_true, hcn, e1, tkid]) none s (qU, qU, qU) ⟨⟨fun _ c' hc' => by omega, fun q e => by cases e⟩, fr_refl _ _⟩
  have hN : l3 (fun c => cn y c - tlo y c) tkid (tkg τ y w) tkid w none = some (c, z, v) := hk
  rw [hN] at e
  have hPx := PC_fr (K := [41, 42]) (by decide) hf hP
  have hww := hPx.1
  have hh := t_holds_y (d + 4) hPx ok hcz.1 hcz.2
  obtain ⟨s2, g1, g2⟩ := c_heat d hPx ok (LC_fr (K := [41, 42]) (by decide) hf hL) okt hcz.1 hcz.2
  obtain ⟨s3, r1, r2, r3⟩ := c_remove (d + 3) (PC_fr (K := [41, 42]) (by decide) g2 hPx) ok hcz.1 hcz.2
  refine ⟨s3, ?_, r2, fp_trans (PP_sc (fr_trans hf g2)) r3⟩
  simp (config := {maxSteps := 1000000}) (disch := first | omega | assumption | (simp only [qm_wid_n, qm_wid_I, qm_wid_L, qm_wid_P] <;> omega)) only [e_C_takeOne, b_C_takeOne_0, qy0, qy1, qy2, qy3, qe, qcn, qin, ↓reduceIte, Nat.reduceEqDiff, Nat.reduceLeDiff, Bool.false_eq_true, Nat.reduceAdd, Nat.reduceSub, Nat.reduceMul, Nat.reduceLT, or_self, or_false, false_or, or_true, true_or, and_self, and_true, true_and, and_false, false_and, not_true_eq_false, not_false_eq_true]
  refine e.trans ?_
  simp (config := {maxSteps := 1000000}) (disch := first | omega | assumption | (simp only [qm_wid_n, qm_wid_I, qm_wid_L, qm_wid_P] <;> omega)) only [b_C_takeOne_1, b_C_takeOne_8, b_C_takeOne_9, qy0, qy1, qy2, qy3, qe, qcn, qin, ↓reduceIte, Nat.reduceEqDiff, Nat.reduceLeDiff, Bool.false_eq_true, Nat.reduceAdd, Nat.reduceSub, Nat.reduceMul, Nat.reduceLT, or_self, or_false, false_or, or_true, true_or, and_self, and_true, true_and, and_false, false_and, not_true_eq_false, not_false_eq_true, hww, kc, kz, kv, hh, g1, r1]
theorem r_takeOne (d : Nat) {s : qm_Hp} {w c z : Nat} {v : Int32} {y : VW} {τ : TX} (hP : PM s 0 w y) (ok : OKP w y) (hb : zI s 9 0 2 = nI 0) (hL : LM s τ) (okt : OKT τ) (hk : tko τ y w = some (c, z, v)) : ∃ s', qm_evM (d + 5) jM_takeOne [qP 9 0] s = some (some (qI (heat τ y w c z)), s') ∧ PM s' 0 w (vrm y c z) ∧ fc 0 s s' := by
  have hw6 := ok.1.2
  have h20 := okt.1
  have hcz := (tko_I τ y w).2 _ hk
  dsimp only at hcz
  have e0 : Int64.ofInt 0 = (nI 0).toInt64 := by decide
  have hm1 : (nI 0 - nI 1 < nI 0) = True := eq_true (by decide)
  obtain ⟨s', ⟨x6, x7, x8, x9⟩, e, hI, hf⟩ := q_l3 w (fun c => cn y c - tlo y c) tkid (tkg τ y w) tkid (fun c b s' => tkI y w c b ∧ fr [65, 66, 67] s s') (fun c k b s' => tkJ y w c k b ∧ fr [65, 66, 67] s s') (fun c b s' (x : qm_AV × qm_AV × qm_AV × qm_AV) => qm_evB (d + 5) jM_takeOne 1 [qP 9 0, qI (kc b), qI (kh b), qL (kv b).toInt64, qU, qI (nI c), x.1, x.2.1, x.2.2.1, x.2.2.2] [] s') (fun c k b s' (x : qm_AV × qm_AV × qm_AV) => qm_evB (d + 5) jM_takeOne 4 [qP 9 0, qI (kc b), qI (kh b), qL (kv b).toInt64, qU, qI (nI c), qI (if y 0 1 = N1 ∧ cn y c = 0 then nI 0 - nI 1 else nI (tlo y c + k)), x.1, x.2.1, x.2.2] [] s') (fun c b s' x hc hs => by
      have hPx := PM_scr hs.2 hP
      have hww := hPx.1
      have hfl : zI s' 61 0 7 = y 0 1 := hPx.2.1.2.1
      have hbx : zI s' 9 0 2 = nI 0 := (hs.2.1 9 0 2 (by decide)).trans hb
      have h8 := OK_n ok hc
      have hct := r_count (d + 4) hPx ok hbx (by decide) hc
      refine ⟨⟨(x.2.1, x.2.2.1, x.2.2.2), (b_M_takeOne_1 ..).trans ?_⟩, tk1 hs.1, hs.2⟩
      unfold tlo tkid
      by_cases hf : y 0 1 = N1
      · rw [hf] at hfl
        by_cases h0 : cn y c = 0
        · rw [h0] at hct
          simp (config := {maxSteps := 1000000}) (disch := first | omega | assumption | (simp only [qm_wid_n, qm_wid_I, qm_wid_L, qm_wid_P] <;> omega)) only [b_M_takeOne_2, b_M_takeOne_3, qy0, qy1, qy2, qy3, qe, qcn, qin, ↓reduceIte, Nat.reduceEqDiff, Nat.reduceLeDiff, Bool.false_eq_true, Nat.reduceAdd, Nat.reduceSub, Nat.reduceMul, Nat.reduceLT, or_self, or_false, false_or, or_true, true_or, and_self, and_true, true_and, and_false, false_and, not_true_eq_false, not_false_eq_true, hww, hbx, hfl, hf, hct, h0]
        · simp (config := {maxSteps := 1000000}) (disch := first | omega | assumption | (simp only [qm_wid_n, qm_wid_I, qm_wid_L, qm_wid_P] <;> omega)) only [b_M_takeOne_2, b_M_takeOne_3, qy0, qy1, qy2, qy3, qe, qcn, qin, ↓reduceIte, Nat.reduceEqDiff, Nat.reduceLeDiff, Bool.false_eq_true, Nat.reduceAdd, Nat.reduceSub, Nat.reduceMul, Nat.reduceLT, or_self, or_false, false_or, or_true, true_or, and_self, and_true, true_and, and_false, false_and, not_true_eq_false, not_false_eq_true, hww, hbx, hfl, hf, hct, h0, Nat.add_zero]
      · have hf2 : ¬ y 0 1 < nI 0 := fun g => hf ((fl_iff ok).mp g)
        simp (config := {maxSteps := 1000000}) (disch := first | omega | assumption | (simp only [qm_wid_n, qm_wid_I, qm_wid_L, qm_wid_P] <;> omega)) only [b_M_takeOne_3, qy0, qy1, qy2, qy3, qe, qcn, qin, ↓reduceIte, Nat.reduceEqDiff, Nat.reduceLeDiff, Bool.false_eq_true, Nat.reduceAdd, Nat.reduceSub, Nat.reduceMul, Nat.reduceLT, or_self, or_false, false_or, or_true, true_or, and_self, and_true, true_and, and_false, false_and, not_true_eq_false, not_false_eq_true, hww, hbx, hfl, hf, hf2]) (fun c k b s' x hc hk hs => by
      have hPx := PM_scr hs.2 hP
      have hbx : zI s' 9 0 2 = nI 0 := (hs.2.1 9 0 2 (by decide)).trans hb
      have h8 := OK_n ok hc
      have hct := r_count (d + 4) hPx ok hbx (by decide) hc
      have hzc : tlo y c + k < cn y c := by omega
      have hLx := LM_scr hs.2 hL
      have hnm := r_name (d + 2) hPx ok hbx (by decide) hc hzc
      have f1 := mn_fr s' 0 w c (tlo y c + k)
      have hLn := LM_fr (K := [65]) (by decide) f1 hLx
      have hcl := r_clauseOf (d + 3) 3 hLn okt (by decide)
      have hn0 : zI (hp_name s' 0 w c (tlo y c + k)) 65 0 0 = y 4 (8 * c + (tlo y c + k)) := mn_ev W0 hPx ok hc hzc 0 (by decide)
      have hne : ¬ (y 0 1 = N1 ∧ cn y c = 0) := fun g => by omega
      have hst : ∃ s2 x9, qm_evB (d + 5) jM_takeOne 4 [qP 9 0, qI (kc b), qI (kh b), qL (kv b).toInt64, qU, qI (nI c), qI (nI (tlo y c + k)), x.1, x.2.1, x.2.2] [] s' = qm_evB (d + 5) jM_takeOne 5 [qP 9 0, qI (kc b), qI (kh b), qL (kv b).toInt64, qU, qI (nI c), qI (nI (tlo y c + k)), qL (worth τ y w c (tlo y c + k)).toInt64, qU, x9] [] s2 ∧ fr [65, 66, 67] s' s2 := by
        unfold worth
        by_cases hfd : fnd τ 3 < τ.1
        · have hs3 := fnd_is hfd
          obtain ⟨s2, g1, g2, g3, _⟩ := r_work (d + 2) hLn okt hfd (by omega) (ev y w W0 c (tlo y c + k)) (fun v hv => by
            have hv' : v < 8 ∨ v = 12 := by unfold nmok at hv; omega
            exact ⟨mn_ev W0 hPx ok hc hzc v hv', ev_bdL W0 ok hc hzc W0_rg (by omega)⟩)
          have g4 := (g3 (by omega)).1
          rw [if_pos hfd] at hcl ⊢
          refine ⟨s2, qI (nI (fnd τ 3)), (b_M_takeOne_4 ..).trans ?_, fr_trans (fr_mono (by decide) f1) (fr_mono (by decide) g2)⟩
          simp (config := {maxSteps := 1000000}) (disch := first | omega | assumption | (simp only [qm_wid_n, qm_wid_I, qm_wid_L, qm_wid_P] <;> omega)) only [qy0, qy1, qy2, qy3, qe, qcn, qin, ↓reduceIte, Nat.reduceEqDiff, Nat.reduceLeDiff, Bool.false_eq_true, Nat.reduceAdd, Nat.reduceSub, Nat.reduceMul, Nat.reduceLT, or_self, or_false, false_or, or_true, true_or, and_self, and_true, true_and, and_false, false_and, not_true_eq_false, not_false_eq_true, hct, hnm, hn0, hcl, g1, g4]
        · rw [if_neg hfd] at hcl ⊢
          refine ⟨_, qI N1, (b_M_takeOne_4 ..).trans ?_, fr_mono (by decide) f1⟩
          simp (config := {maxSteps := 1000000}) (disch := first | omega | assumption | (simp only [qm_wid_n, qm_wid_I, qm_wid_L, qm_wid_P] <;> omega)) only [qy0, qy1, qy2, qy3, qe, qcn, qin, ↓reduceIte, Nat.reduceEqDiff, Nat.reduceLeDiff, Bool.false_eq_true, Nat.reduceAdd, Nat.reduceSub, Nat.reduceMul, Nat.reduceLT, or_self, or_false, false_or, or_true, true_or, and_self, and_true, true_and, and_false, false_and, not_true_eq_false, not_false_eq_true, hct, hnm, hn0, hcl]
      obtain ⟨s2, x9, e1, e2⟩ := hst
      have hJ := tk2 (τ := τ) hc hk hs.1
      refine ⟨s2, (qL (worth τ y w c (tlo y c + k)).toInt64, qU, x9), ?_, hJ, fr_trans hs.2 e2⟩
      rw [if_neg hne, if_neg hne]
      refine e1.trans ?_
      refine (b_M_takeOne_5 ..).trans ?_
      cases b with
      | none => simp (config := {maxSteps := 1000000}) (disch := first | omega | assumption | (simp only [qm_wid_n, qm_wid_I, qm_wid_L, qm_wid_P] <;> omega)) only [b_M_takeOne_6, b_M_takeOne_7, qy0, qy1, qy2, qy3, qe, qcn, qin, ↓reduceIte, Nat.reduceEqDiff, Nat.reduceLeDiff, Bool.false_eq_true, Nat.reduceAdd, Nat.reduceSub, Nat.reduceMul, Nat.reduceLT, or_self, or_false, false_or, or_true, true_or, and_self, and_true, true_and, and_false, false_and, not_true_eq_false, not_false_eq_true, kc, kh, kv, tkg, Nat.add_assoc]
      | some q =>
        have hq := hs.1.2 q rfl
        unfold tkg
        dsimp only
        by_cases h2 : q.2.2 < worth τ y w c (tlo y c + k)
        · have h2' : (kv (some q)).toInt64 < (worth τ y w c (tlo y c + k)).toInt64 := (fa_wide_lt _ _).mpr h2
          unfold kv at h2'
          rw [if_pos h2]
          simp (config := {maxSteps := 1000000}) (disch := first | omega | assumption | (simp only [qm_wid_n, qm_wid_I, qm_wid_L, qm_wid_P] <;> omega)) only [b_M_takeOne_6, b_M_takeOne_7, qy0, qy1, qy2, qy3, qe, qcn, qin, ↓reduceIte, Nat.reduceEqDiff, Nat.reduceLeDiff, Bool.false_eq_true, Nat.reduceAdd, Nat.reduceSub, Nat.reduceMul, Nat.reduceLT, or_self, or_false, false_or, or_true, true_or, and_self, and_true, true_and, and_false, false_and, not_true_eq_false, not_false_eq_true, kc, kh, kv, cmpgt, h2', Nat.add_assoc]
        · have h2' : ¬ (kv (some q)).toInt64 < (worth τ y w c (tlo y c + k)).toInt64 := fun g => h2 ((fa_wide_lt _ _).mp g)
          unfold kv at h2'
          rw [if_neg h2]
          simp (config := {maxSteps := 1000000}) (disch := first | omega | assumption | (simp only [qm_wid_n, qm_wid_I, qm_wid_L, qm_wid_P] <;> omega)) only [b_M_takeOne_7, qy0, qy1, qy2, qy3, qe, qcn, qin, ↓reduceIte, Nat.reduceEqDiff, Nat.reduceLeDiff, Bool.false_eq_true, Nat.reduceAdd, Nat.reduceSub, Nat.reduceMul, Nat.reduceLT, or_self, or_false, false_or, or_true, true_or, and_self, and_true, true_and, and_false, false_and, not_true_eq_false, not_false_eq_true, kc, kh, kv, cmpgt, h2', Nat.add_assoc]) (fun c b s' x hc hs => by
      have hPx := PM_scr hs.2 hP
      have hbx : zI s' 9 0 2 = nI 0 := (hs.2.1 9 0 2 (by decide)).trans hb
      have h8 := OK_n ok hc
      have hct := r_count (d + 4) hPx ok hbx (by decide) hc
      have ht := tlo_le y c
      have e1 : tlo y c + (cn y c - tlo y c) = cn y c := by omega
      refine ⟨s', (qI (if y 0 1 = N1 ∧ cn y c = 0 then nI 0 - nI 1 else nI (cn y c)), x.1, x.2.1, x.2.2), ?_, tk3 hs.1, hs.2⟩
      refine (b_M_takeOne_4 ..).trans ?_
      by_cases hq : y 0 1 = N1 ∧ cn y c = 0
      · rw [if_pos hq, if_pos hq]
        simp (config := {maxSteps := 1000000}) (disch := first | omega | assumption | (simp only [qm_wid_n, qm_wid_I, qm_wid_L, qm_wid_P] <;> omega)) only [b_M_takeOne_8, qy0, qy1, qy2, qy3, qe, qcn, qin, ↓reduceIte, Nat.reduceEqDiff, Nat.reduceLeDiff, Bool.false_eq_true, Nat.reduceAdd, Nat.reduceSub, Nat.reduceMul, Nat.reduceLT, or_self, or_false, false_or, or_true, true_or, and_self, and_true, true_and, and_false, false_and, not_true_eq_false, not_false_eq_true, hm1, tkid]
      · rw [if_neg hq, if_neg hq]
        simp (config := {maxSteps := 1000000}) (disch := first | omega | assumption | (simp only [qm_wid_n, qm_wid_I, qm_wid_L, qm_wid_P] <;> omega)) only [b_M_takeOne_8, qy0, qy1, qy2, qy3, qe, qcn, qin, ↓reduceIte, Nat.reduceEqDiff, Nat.reduceLeDiff, Bool.false_eq_true, Nat.reduceAdd, Nat.reduceSub, Nat.reduceMul, Nat.reduceLT, or_self, or_false, false_or, or_true, true_or, and_self, and_true, true_and, and_false, false_and, not_true_eq_false, not_false_eq_true, hct, e1, tkid]) none s (qU, qU, qU, qU) ⟨⟨fun _ c' hc' => by omega, fun q e => by cases e⟩, fr_refl _ _⟩
  have hN : l3 (fun c => cn y c - tlo y c) tkid (tkg τ y w) tkid w none = some (c, z, v) := hk
  rw [hN] at e
  have hPx := PM_scr hf hP
  have hww := hPx.1
  have hbx : zI s' 9 0 2 = nI 0 := (hf.1 9 0 2 (by decide)).trans hb
  obtain ⟨s2, g1, g2⟩ := r_heat d hPx ok hbx (by decide) (LM_scr hf hL) okt hcz.1 hcz.2
  have hb2 : zI s2 9 0 2 = nI 0 := (g2.1 9 0 2 (by decide)).trans hbx
  obtain ⟨s3, r1, r2, r3⟩ := r_takeOff (d + 3) (PM_scr g2 hPx) ok hb2 (by decide) hcz.1 hcz.2
  refine ⟨s3, ?_, r2, fr_trans (fr_mono (by decide) (fr_trans hf g2)) r3.1, fun j j1 j2 j3 => (r3.2 j j1 j2 j3).trans ((fr_trans hf g2).1 61 0 j (by decide))⟩
  simp (config := {maxSteps := 1000000}) (disch := first | omega | assumption | (simp only [qm_wid_n, qm_wid_I, qm_wid_L, qm_wid_P] <;> omega)) only [e_M_takeOne, b_M_takeOne_0, qy0, qy1, qy2, qy3, qe, qcn, qin, ↓reduceIte, Nat.reduceEqDiff, Nat.reduceLeDiff, Bool.false_eq_true, Nat.reduceAdd, Nat.reduceSub, Nat.reduceMul, Nat.reduceLT, or_self, or_false, false_or, or_true, true_or, and_self, and_true, true_and, and_false, false_and, not_true_eq_false, not_false_eq_true, e0]
  refine e.trans ?_
  simp (config := {maxSteps := 1000000}) (disch := first | omega | assumption | (simp only [qm_wid_n, qm_wid_I, qm_wid_L, qm_wid_P] <;> omega)) only [b_M_takeOne_1, b_M_takeOne_9, qy0, qy1, qy2, qy3, qe, qcn, qin, ↓reduceIte, Nat.reduceEqDiff, Nat.reduceLeDiff, Bool.false_eq_true, Nat.reduceAdd, Nat.reduceSub, Nat.reduceMul, Nat.reduceLT, or_self, or_false, false_or, or_true, true_or, and_self, and_true, true_and, and_false, false_and, not_true_eq_false, not_false_eq_true, hww, kc, kh, kv, g1, r1]
/-- n taken: their heat, what is left -/
def tkN (τ : TX) (w : Nat) : Nat → VW → Int32 × VW
  | 0, y => (nI 0, y)
  | n + 1, y => match tko τ (tkN τ w n y).2 w with
    | some q => ((tkN τ w n y).1 + heat τ (tkN τ w n y).2 w q.1 q.2.1, vrm (tkN τ w n y).2 q.1 q.2.1)
    | none => tkN τ w n y
theorem tkN_s {τ : TX} {w n c z : Nat} {v : Int32} {y : VW} (h : tko τ (tkN τ w n y).2 w = some (c, z, v)) : tkN τ w (n + 1) y = ((tkN τ w n y).1 + heat τ (tkN τ w n y).2 w c z, vrm (tkN τ w n y).2 c z) := by
  show (match tko τ (tkN τ w n y).2 w with
    | some q => ((tkN τ w n y).1 + heat τ (tkN τ w n y).2 w q.1 q.2.1, vrm (tkN τ w n y).2 q.1 q.2.1)
    | none => tkN τ w n y) = _
  rw [h]
theorem tkN_ok {τ : TX} {w : Nat} {y : VW} (ok : OKP w y) : ∀ n, n ≤ spl y w → OKP w (tkN τ w n y).2 ∧ spl (tkN τ w n y).2 w + n = spl y w ∧ vp y (tkN τ w n y).2
  | 0, _ => ⟨ok, rfl, vp_refl y⟩
  | n + 1, h => by
    obtain ⟨h1, h2, h3⟩ := tkN_ok (τ := τ) ok n (by omega)
    obtain ⟨c, z, v, e, hc, hz⟩ := tko_s (τ := τ) (y := (tkN τ w n y).2) (w := w) (by omega)
    rw [tkN_s e]
    have := spl_rm (OK_n h1 hc) hz w hc
    exact ⟨OKP_rm h1 hc hz, by show spl (vrm (tkN τ w n y).2 c z) w + (n + 1) = _; omega, vp_trans h3 vp_rm⟩
theorem RM_fc {s s' : qm_Hp} {w : Nat} {y y' k : VW} {tp : Nat → Int32} {fd : Nat} {fa pl : Int32} {T : Nat → TX} (hw : w ≤ 6) (hf : fc 0 s s') (hP : PM s' 0 w y') (hv : vp y y') (h : RM s w y k tp fd fa pl T) : RM s' w y' k tp fd fa pl T :=
  RM_pile hw (fun j _ => hf.1.1 9 0 j (by decide)) (fun j hj => hf.2 j (by omega) (by omega) (by omega)) (fun j => hf.1.1 62 0 j (by decide)) (fun j => hf.1.1 63 0 j (by decide)) hP hv h
theorem fc_MP {b : Nat} {s s' : qm_Hp} (h : fc b s s') : fp MP s s' := fp_fr (fun k i hk => by
  simp only [List.mem_cons, List.not_mem_nil, or_false] at hk
  unfold MP
  omega) h.1
theorem fc_trans {b : Nat} {s1 s2 s3 : qm_Hp} (h1 : fc b s1 s2) (h2 : fc b s2 s3) : fc b s1 s3 := ⟨fr_trans h1.1 h2.1, fun j a c e => (h2.2 j a c e).trans (h1.2 j a c e)⟩
theorem fc_refl (b : Nat) (s : qm_Hp) : fc b s s := ⟨fr_refl _ _, fun _ _ _ _ => rfl⟩
theorem LM_fc {s s' : qm_Hp} {τ : TX} (h : fc 0 s s') (hL : LM s τ) : LM s' τ := LM_eq (h.2 3 (by decide) (by decide) (by decide)) (fun j => h.1.1 62 0 j (by decide)) hL
theorem st_take (d : Nat) (a : Int32) : STP (d + 40) jC_take jM_take [qI a] := by
  refine stp_rw fun s w y k tp fd fa pl T hC hM ok => ?_
  have okp := ok.1.1
  have hw := okp.1
  have hPC := hC.1.1
  have okt := ok_rul ok
  have hLC := RC_LC hC ok
  have hsp := c_splits (d + 39) hPC okp
  have hle := spl_le okp w (Nat.le_refl _)
  have msp : ∀ s1, RM s1 w y k tp fd fa pl T → _ := fun s1 g1 => r_splits (d + 38) (s := s1) g1.2.1.1 okp g1.1.1 (by decide)
  by_cases hr : nI 1 ≤ a ∧ a ≤ nI 48
  · obtain ⟨n, hn1, hn2, rfl⟩ := inr_rg (by decide) hr.1 hr.2 (by decide)
    by_cases hn : n ≤ spl y w
    · obtain ⟨o1, o2, o3⟩ := tkN_ok (τ := rul T y) okp n hn
      obtain ⟨x, e, q1, q2⟩ := q_lp n (fun i (x : qm_Hp) => qm_evB (d + 40) jC_take 3 [qP 1 0, qI (nI n), qI (tkN (rul T y) w i y).1, qI (nI i)] [] x) (fun i x => PC x 0 w (tkN (rul T y) w i y).2 ∧ fp (PP 0) s x) (fun i x hi hx => by
        obtain ⟨p1, p2, p3⟩ := tkN_ok (τ := rul T y) okp i (by omega)
        obtain ⟨c, z, v, e1, hc, hz⟩ := tko_s (τ := rul T y) (y := (tkN (rul T y) w i y).2) (w := w) (by omega)
        obtain ⟨x', g1, g2, g3⟩ := c_takeOne (d + 34) hx.1 p1 (LC_PP hx.2 hLC) okt e1
        rw [tkN_s e1]
        refine ⟨x', ?_, g2, fp_trans hx.2 g3⟩
        refine (b_C_take_3 ..).trans ?_
        simp (config := {maxSteps := 1000000}) (disch := first | omega | assumption | (simp only [qm_wid_n, qm_wid_I, qm_wid_L, qm_wid_P] <;> omega)) only [qy0, qy1, qy2, qy3, qe, qcn, qin, ↓reduceIte, Nat.reduceEqDiff, Nat.reduceLeDiff, Bool.false_eq_true, Nat.reduceAdd, Nat.reduceSub, Nat.reduceMul, Nat.reduceLT, or_self, or_false, false_or, or_true, true_or, and_self, and_true, true_and, and_false, false_and, not_true_eq_false, not_false_eq_true, g1]) 0 s (Nat.zero_le _) ⟨hPC, fp_refl _ _⟩
      refine ⟨(tkN (rul T y) w n y).1, (tkN (rul T y) w n y).2, k, tp, fd, fa, pl, T, OKG_pile o1 o3 ok, ⟨x, ?_, PP_CP q2, RC_pile q2 q1 o3 hC⟩, fun s1 g1 => ?_⟩
      · simp (config := {maxSteps := 1000000}) (disch := first | omega | assumption | (simp only [qm_wid_n, qm_wid_I, qm_wid_L, qm_wid_P] <;> omega)) only [e_C_take, b_C_take_0, b_C_take_2, qy0, qy1, qy2, qy3, qe, qcn, qin, ↓reduceIte, Nat.reduceEqDiff, Nat.reduceLeDiff, Bool.false_eq_true, Nat.reduceAdd, Nat.reduceSub, Nat.reduceMul, Nat.reduceLT, or_self, or_false, false_or, or_true, true_or, and_self, and_true, true_and, and_false, false_and, not_true_eq_false, not_false_eq_true, t_within, hsp]
        refine e.trans ?_
        simp (config := {maxSteps := 1000000}) (disch := first | omega | assumption | (simp only [qm_wid_n, qm_wid_I, qm_wid_L, qm_wid_P] <;> omega)) only [b_C_take_3, b_C_take_4, qy0, qy1, qy2, qy3, qe, qcn, qin, ↓reduceIte, Nat.reduceEqDiff, Nat.reduceLeDiff, Bool.false_eq_true, Nat.reduceAdd, Nat.reduceSub, Nat.reduceMul, Nat.reduceLT, or_self, or_false, false_or, or_true, true_or, and_self, and_true, true_and, and_false, false_and, not_true_eq_false, not_false_eq_true]
      · have hLM := RM_LM g1 ok
        obtain ⟨x, e, q1, q2⟩ := q_lp n (fun i (x : qm_Hp) => qm_evB (d + 40) jM_take 3 [qP 9 0, qI (nI n), qI (tkN (rul T y) w i y).1, qI (nI i)] [] x) (fun i x => PM x 0 w (tkN (rul T y) w i y).2 ∧ fc 0 s1 x) (fun i x hi hx => by
          obtain ⟨p1, p2, p3⟩ := tkN_ok (τ := rul T y) okp i (by omega)
          obtain ⟨c, z, v, e1, hc, hz⟩ := tko_s (τ := rul T y) (y := (tkN (rul T y) w i y).2) (w := w) (by omega)
          obtain ⟨x', g2, g3, g4⟩ := r_takeOne (d + 34) hx.1 p1 ((hx.2.1.1 9 0 2 (by decide)).trans g1.1.1) (LM_fc hx.2 hLM) okt e1
          rw [tkN_s e1]
          refine ⟨x', ?_, g3, fc_trans hx.2 g4⟩
          refine (b_M_take_3 ..).trans ?_
          simp (config := {maxSteps := 1000000}) (disch := first | omega | assumption | (simp only [qm_wid_n, qm_wid_I, qm_wid_L, qm_wid_P] <;> omega)) only [qy0, qy1, qy2, qy3, qe, qcn, qin, ↓reduceIte, Nat.reduceEqDiff, Nat.reduceLeDiff, Bool.false_eq_true, Nat.reduceAdd, Nat.reduceSub, Nat.reduceMul, Nat.reduceLT, or_self, or_false, false_or, or_true, true_or, and_self, and_true, true_and, and_false, false_and, not_true_eq_false, not_false_eq_true, g2]) 0 s1 (Nat.zero_le _) ⟨g1.2.1.1, fc_refl _ _⟩
        refine ⟨x, ?_, fc_MP q2, RM_fc hw.2 q2 q1 o3 g1⟩
        have m1 := msp s1 g1
        simp (config := {maxSteps := 1000000}) (disch := first | omega | assumption | (simp only [qm_wid_n, qm_wid_I, qm_wid_L, qm_wid_P] <;> omega)) only [e_M_take, b_M_take_0, b_M_take_2, qy0, qy1, qy2, qy3, qe, qcn, qin, ↓reduceIte, Nat.reduceEqDiff, Nat.reduceLeDiff, Bool.false_eq_true, Nat.reduceAdd, Nat.reduceSub, Nat.reduceMul, Nat.reduceLT, or_self, or_false, false_or, or_true, true_or, and_self, and_true, true_and, and_false, false_and, not_true_eq_false, not_false_eq_true, t_isIn, m1]
        refine e.trans ?_
        simp (config := {maxSteps := 1000000}) (disch := first | omega | assumption | (simp only [qm_wid_n, qm_wid_I, qm_wid_L, qm_wid_P] <;> omega)) only [b_M_take_3, b_M_take_4, qy0, qy1, qy2, qy3, qe, qcn, qin, ↓reduceIte, Nat.reduceEqDiff, Nat.reduceLeDiff, Bool.false_eq_true, Nat.reduceAdd, Nat.reduceSub, Nat.reduceMul, Nat.reduceLT, or_self, or_false, false_or, or_true, true_or, and_self, and_true, true_and, and_false, false_and, not_true_eq_false, not_false_eq_true]
    · refine nochg ok hC N1 ?_ (fun s1 g1 => ?_)
      · simp (config := {maxSteps := 1000000}) (disch := first | omega | assumption | (simp only [qm_wid_n, qm_wid_I, qm_wid_L, qm_wid_P] <;> omega)) only [e_C_take, b_C_take_0, b_C_take_1, qy0, qy1, qy2, qy3, qe, qcn, qin, ↓reduceIte, Nat.reduceEqDiff, Nat.reduceLeDiff, Bool.false_eq_true, Nat.reduceAdd, Nat.reduceSub, Nat.reduceMul, Nat.reduceLT, or_self, or_false, false_or, or_true, true_or, and_self, and_true, true_and, and_false, false_and, not_true_eq_false, not_false_eq_true, t_within, hsp]
      · have m1 := msp s1 g1
        simp (config := {maxSteps := 1000000}) (disch := first | omega | assumption | (simp only [qm_wid_n, qm_wid_I, qm_wid_L, qm_wid_P] <;> omega)) only [e_M_take, b_M_take_0, b_M_take_1, qy0, qy1, qy2, qy3, qe, qcn, qin, ↓reduceIte, Nat.reduceEqDiff, Nat.reduceLeDiff, Bool.false_eq_true, Nat.reduceAdd, Nat.reduceSub, Nat.reduceMul, Nat.reduceLT, or_self, or_false, false_or, or_true, true_or, and_self, and_true, true_and, and_false, false_and, not_true_eq_false, not_false_eq_true, t_isIn, m1]
  · refine nochg ok hC N1 ?_ (fun s1 g1 => ?_)
    · simp (config := {maxSteps := 1000000}) (disch := first | omega | assumption | (simp only [qm_wid_n, qm_wid_I, qm_wid_L, qm_wid_P] <;> omega)) only [e_C_take, b_C_take_0, b_C_take_1, qy0, qy1, qy2, qy3, qe, qcn, qin, ↓reduceIte, Nat.reduceEqDiff, Nat.reduceLeDiff, Bool.false_eq_true, Nat.reduceAdd, Nat.reduceSub, Nat.reduceMul, Nat.reduceLT, or_self, or_false, false_or, or_true, true_or, and_self, and_true, true_and, and_false, false_and, not_true_eq_false, not_false_eq_true, t_within, hr]
    · simp (config := {maxSteps := 1000000}) (disch := first | omega | assumption | (simp only [qm_wid_n, qm_wid_I, qm_wid_L, qm_wid_P] <;> omega)) only [e_M_take, b_M_take_0, b_M_take_1, qy0, qy1, qy2, qy3, qe, qcn, qin, ↓reduceIte, Nat.reduceEqDiff, Nat.reduceLeDiff, Bool.false_eq_true, Nat.reduceAdd, Nat.reduceSub, Nat.reduceMul, Nat.reduceLT, or_self, or_false, false_or, or_true, true_or, and_self, and_true, true_and, and_false, false_and, not_true_eq_false, not_false_eq_true, t_isIn, hr]
