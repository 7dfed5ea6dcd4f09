/-! spans of water: the class -/
def vup (y : VW) (g : Nat → Int32) (m : Nat) : VW := fun a j => if a = 4 ∧ j < m then g j else y a j
theorem vup_ne {y : VW} {g : Nat → Int32} {m a j : Nat} (h : a ≠ 4 ∨ m ≤ j) : vup y g m a j = y a j := if_neg (fun z => by omega)
theorem cn_up (y : VW) (g : Nat → Int32) (m c : Nat) : cn (vup y g m) c = cn y c := by unfold cn; rw [vup_ne (Or.inl (by decide))]
theorem vup_s (y : VW) (g : Nat → Int32) (m : Nat) : vset (vup y g m) 4 m (g m) = vup y g (m + 1) := by
  funext a j
  unfold vset vup
  by_cases h : a = 4 ∧ j = m
  · rw [if_pos h, if_pos (by omega), h.2]
  · rw [if_neg h]
    by_cases h2 : a = 4 ∧ j < m
    · rw [if_pos h2, if_pos (by omega)]
    · rw [if_neg h2, if_neg (by omega)]
theorem vup_0 (y : VW) (g : Nat → Int32) : vup y g 0 = y := by
  funext a j
  exact vup_ne (Or.inr (Nat.zero_le _))
theorem vup_ok {w : Nat} {y : VW} {g : Nat → Int32} (ok : OKP w y) (hg : ∀ c z, c < w → z < cn y c → rg (g (8 * c + z)) 0 2000) (m : Nat) : OKP w (vup y g m) := by
  have e : ∀ a j, a ≠ 4 → vup y g m a j = y a j := fun a j h => vup_ne (Or.inl h)
  refine ⟨ok.1, ?_, fun c hc => ?_, fun c z hc hz => ?_⟩
  · simp only [e 0 _ (by decide : (0 : Nat) ≠ 4)]; exact ok.2.1
  · rw [cn_up, e 1 c (by decide)]; exact ok.2.2.1 c hc
  · rw [cn_up] at hz
    have q := ok.2.2.2 c z hc hz
    unfold OKs at *
    rw [e 2 _ (by decide), e 3 _ (by decide), e 5 _ (by decide), e 6 _ (by decide), e 7 _ (by decide)]
    refine ⟨q.1, q.2.1, ?_, q.2.2.2.1, q.2.2.2.2⟩
    unfold vup
    by_cases h : (4 : Nat) = 4 ∧ 8 * c + z < m
    · rw [if_pos h]; exact hg c z hc hz
    · rw [if_neg h]; exact q.2.2.1
theorem vup_col {w : Nat} {y : VW} {g : Nat → Int32} (ok : OKP w y) (c : Nat) (hc : c < w) : vlike w (vup y g (8 * c + cn y c)) (vup y g (8 * (c + 1))) := by
  refine ⟨fun i hi => by rw [vup_ne (Or.inl (by omega)), vup_ne (Or.inl (by omega))], fun c' hc' => by rw [vup_ne (Or.inl (by omega)), vup_ne (Or.inl (by omega))], fun f c' z' hf hc' hz' => ?_⟩
  rw [cn_up] at hz'
  have h8 := OK_n ok hc'
  have h8c := OK_n ok hc
  unfold vup
  by_cases q : 2 + f = 4 ∧ 8 * c' + z' < 8 * c + cn y c
  · rw [if_pos q, if_pos (by omega)]
  · rw [if_neg q]
    by_cases q2 : 2 + f = 4 ∧ 8 * c' + z' < 8 * (c + 1)
    · refine absurd q2 (fun g => q ⟨g.1, ?_⟩)
      by_cases e : c' = c
      · subst e; omega
      · omega
    · rw [if_neg q2]
/-- the water at an end of a split's span -/
def spw (y : VW) (e j : Nat) : Int32 := if y 6 j = N1 then y (13 + e) (y 2 j).toNatClampNeg else y (6 + e) j
theorem spw_r {w e : Nat} {y : VW} (ok : OKP w y) (oky : OKY w y) (he : e ≤ 1) : ∀ c z, c < w → z < cn y c → rg (spw y e (8 * c + z)) 0 2000 := fun c z hc hz => by
  obtain ⟨q1, q2, q3, q4, q5⟩ := ok.2.2.2 c z hc hz
  obtain ⟨kd, _, hk, ek⟩ := q1
  unfold spw
  by_cases h : y 6 (8 * c + z) = N1
  · rw [if_pos h, ek, nI_clamp (by omega)]
    obtain ⟨a1, a2⟩ := oky.2.2.2.2.2.2.1 kd (by omega)
    have : e = 0 ∨ e = 1 := by omega
    rcases this with rfl | rfl
    · exact a1
    · exact a2
  · rw [if_neg h]
    rcases q5 with ⟨g, _⟩ | ⟨g1, g2⟩
    · exact absurd g h
    · have : e = 0 ∨ e = 1 := by omega
      rcases this with rfl | rfl
      · exact g1
      · exact g2
def vsp (w : Nat) (y : VW) (e : Nat) : VW := vup y (spw y e) (8 * w)
theorem pass_1 {τ : TX} {w : Nat} {W : Nat → Int32} {v : VW} {a j : Nat} (h : a ≠ 0) (h4 : a ≠ 4) : passv τ w W v a j = v a j := by
  unfold passv
  by_cases q : dryv τ w W v 0 1 = N1 ∧ stand τ (dryv τ w W v) w < absI (lean τ (dryv τ w W v) w)
  · rw [fall_yes q, vset_ne (by omega)]
    unfold dryv
    rw [if_neg h4, if_neg (by omega)]
  · rw [fall_no q]
    unfold dryv
    rw [if_neg h4, if_neg (by omega)]
theorem psq_1 {τ : TX} {w : Nat} {y v : VW} {a j : Nat} (h : a ≠ 0) (h4 : a ≠ 4) : ∀ k, psq τ w y k v a j = v a j
  | 0 => rfl
  | k + 1 => (pass_1 h h4).trans (psq_1 h h4 k)
theorem cn_psq {τ : TX} {w : Nat} {y v : VW} (k c : Nat) : cn (psq τ w y k v) c = cn v c := by unfold cn; rw [psq_1 (by decide) (by decide)]
/-- the water behind n weeks, at an end of the spans -/
def spq (τ : TX) (w : Nat) (y : VW) (n e j : Nat) : Int32 := psq τ w y n (vsp w y e) 4 j
def P23 : Nat → Nat → Prop := fun k i => k = 41 ∨ k = 42 ∨ ((i = 2 ∨ i = 3) ∧ (k = 3 ∨ (11 ≤ k ∧ k ≤ 17)))
theorem P23_CP {s s' : qm_Hp} (h : fp P23 s s') : fp CP s s' := fp_mono (fun k i hk => by unfold P23 at hk; unfold CP; omega) h
theorem RC_23 {s s' : qm_Hp} {w : Nat} {y k : VW} {tp : Nat → Int32} {fd : Nat} {fa pl : Int32} {T : Nat → TX} (hf : fp P23 s s') (h2 : zI s' 3 2 0 = nI w) (h3 : zI s' 3 3 0 = nI w) (h : RC s w y k tp fd fa pl T) : RC s' w y k tp fd fa pl T :=
  RC_SP (fp_mono (fun k i hk => by unfold P23 at hk; unfold SP; omega) hf) (fun q hq => by
    by_cases e : q = 2
    · rw [e]; exact h2
    · by_cases e3 : q = 3
      · rw [e3]; exact h3
      · exact (hf.1 3 q 0 (by unfold P23; omega)).trans (h.2.2.1 q hq)) h
theorem c_trySpans (d : Nat) {x : qm_Hp} {w n i : Nat} {y k : VW} {tp : Nat → Int32} {fd : Nat} {fa pl : Int32} {T : Nat → TX} (ok : OKG w y k tp fd T) (hR : RC x w y k tp fd fa pl T) (hi : y 0 0 = nI i) (h9 : i + n ≤ 399) (hn : n ≤ 40) : ∃ x', qm_evM (d + 7) jC_trySpans [qP 1 0, qI (nI n)] x = some (none, x') ∧ RC x' w y k tp fd fa pl T ∧ fp P23 x x' ∧ (∀ c z, c < w → z < cn y c → zI x' 13 2 (8 * c + z) = spq (rul T y) w y n 0 (8 * c + z) ∧ zI x' 13 3 (8 * c + z) = spq (rul T y) w y n 1 (8 * c + z)) := by
  have okp := ok.1.1
  have oky := ok.1.2
  have hw6 := okp.1.2
  have g0 := spw_r okp oky (e := 0) (by decide)
  have g1 := spw_r okp oky (e := 1) (by decide)
  have hb2 := s_become (d + 6) x 2 0
  have hb3 := s_become (d + 6) (hp_bec x 2 0) 3 0
  have hP2 := PC_bec hR.1.1 okp (p := 2) (by decide) (hR.2.2.1 2 (by decide))
  have f2 := bec_fp x 2 0
  have hP0 : PC (hp_bec x 2 0) 0 w y := PC_fp (fun k hk => by unfold PP; omega) f2 hR.1.1
  have hP3 := PC_bec hP0 okp (p := 3) (by decide) ((f2.1 3 3 0 (by unfold PP; omega)).trans (hR.2.2.1 3 (by decide)))
  have f3 := bec_fp (hp_bec x 2 0) 3 0
  have hP2' : PC (hp_bec (hp_bec x 2 0) 3 0) 2 w y := PC_fp (fun k hk => by unfold PP; omega) f3 hP2
  have f23 : fp P23 x (hp_bec (hp_bec x 2 0) 3 0) := fp_trans (fp_mono (fun k i hk => by unfold PP at hk; unfold P23; omega) f2) (fp_mono (fun k i hk => by unfold PP at hk; unfold P23; omega) f3)
  have hR0 : RC (hp_bec (hp_bec x 2 0) 3 0) w y k tp fd fa pl T := RC_23 f23 hP2'.1 hP3.1 hR
  generalize hX : hp_bec (hp_bec x 2 0) 3 0 = X at hb3 hP3 hP2' f23 hR0
  obtain ⟨X1, ⟨a3, a4, a5, a6⟩, e1, j1, j2, j3, j4⟩ := q_l3 w (cn y) (fun _ (a : Unit) => a) (fun _ _ a => a) (fun _ a => a) (fun c _ x' => RC x' w y k tp fd fa pl T ∧ PC x' 2 w (vup y (spw y 0) (8 * c)) ∧ PC x' 3 w (vup y (spw y 1) (8 * c)) ∧ fp P23 x x') (fun c z _ x' => RC x' w y k tp fd fa pl T ∧ PC x' 2 w (vup y (spw y 0) (8 * c + z)) ∧ PC x' 3 w (vup y (spw y 1) (8 * c + z)) ∧ fp P23 x x') (fun c _ x' (a : qm_AV × qm_AV × qm_AV × qm_AV) => qm_evB (d + 7) jC_trySpans 1 [qP 1 0, qI (nI n), qI (nI c), a.1, a.2.1, a.2.2.1, a.2.2.2] [] x') (fun c z _ x' (a : qm_AV × qm_AV × qm_AV) => qm_evB (d + 7) jC_trySpans 2 [qP 1 0, qI (nI n), qI (nI c), qI (nI z), a.1, a.2.1, a.2.2] [] x') (fun c _ x' a hc hs => by
      have hww := hs.1.1.1.1
      refine ⟨⟨(a.2.1, a.2.2.1, a.2.2.2), ?_⟩, hs⟩
      refine (b_C_trySpans_1 ..).trans ?_
      simp (config := {maxSteps := 1000000}) (disch := first | omega | assumption | (simp only [qm_wid_n, qm_wid_I, qm_wid_L, qm_wid_P] <;> omega)) only [qy0, qy1, qy2, qy3, qe, qcn, qin, ↓reduceIte, Nat.reduceEqDiff, Nat.reduceLeDiff, Bool.false_eq_true, Nat.reduceAdd, Nat.reduceSub, Nat.reduceMul, Nat.reduceLT, or_self, or_false, false_or, or_true, true_or, and_self, and_true, true_and, and_false, false_and, not_true_eq_false, not_false_eq_true, hww]) (fun c z _ x' a hc hz hs => by
      obtain ⟨k1, k2, k3, k4⟩ := hs
      have h8 := OK_n okp hc
      have hcn := PC_c k1.1.1 hc
      have hz2 : z < cn (vup y (spw y 0) (8 * c + z)) c := by rw [cn_up]; exact hz
      have hkd := PC_kd k2 hc hz2
      have hlo := PC_lo k2 hc hz2
      have hhi := PC_hi k2 hc hz2
      rw [vup_ne (Or.inl (by decide))] at hkd hlo hhi
      obtain ⟨q1, q2, q3, q4, q5⟩ := okp.2.2.2 c z hc hz
      obtain ⟨kd, _, hk, ek⟩ := q1
      rw [ek] at hkd
      have h26 := (k1.1.2.2.2.2.1 kd (by omega)).1
      have h27 := (k1.1.2.2.2.2.1 kd (by omega)).2
      have s0 : spw y 0 (8 * c + z) = if y 6 (8 * c + z) = N1 then y 13 kd else y 6 (8 * c + z) := by unfold spw; rw [ek, nI_clamp (by omega)]
      have s1 : spw y 1 (8 * c + z) = if y 6 (8 * c + z) = N1 then y 14 kd else y 7 (8 * c + z) := by unfold spw; rw [ek, nI_clamp (by omega)]
      have p2 := PC_put k2 2 (8 * c + z) (by decide) (spw y 0 (8 * c + z))
      rw [show 2 + 2 = 4 from rfl, vup_s] at p2
      have fA : fp (PP 2) x' (uI x' (11 + 2) 2 (8 * c + z) (spw y 0 (8 * c + z))) := fp_u1 _ _ (by omega)
      have fB : fp (PP 3) (uI x' (11 + 2) 2 (8 * c + z) (spw y 0 (8 * c + z))) (uI (uI x' (11 + 2) 2 (8 * c + z) (spw y 0 (8 * c + z))) (11 + 2) 3 (8 * c + z) (spw y 1 (8 * c + z))) := fp_u1 _ _ (by omega)
      have p3 := PC_put (PC_fp (fun k hk => by unfold PP; omega) fA k3) 2 (8 * c + z) (by decide) (spw y 1 (8 * c + z))
      rw [show 2 + 2 = 4 from rfl, vup_s] at p3
      have p2' := PC_fp (fun k hk => by unfold PP; omega) fB p2
      have f' := fp_trans (fp_mono (fun k i hk => by unfold PP at hk; unfold P23; omega) fA) (fp_mono (Q := P23) (fun k i hk => by unfold PP at hk; unfold P23; omega) fB)
      refine ⟨uI (uI x' (11 + 2) 2 (8 * c + z) (spw y 0 (8 * c + z))) (11 + 2) 3 (8 * c + z) (spw y 1 (8 * c + z)), (qI (nI (8 * c + z)), qI (nI kd), qI (if y 6 (8 * c + z) = N1 then nI 0 else nI 1)), ?_, RC_23 f' p2'.1 p3.1 k1, p2', p3, fp_trans k4 f'⟩
      refine (b_C_trySpans_2 ..).trans ?_
      rw [s0, s1]
      by_cases hN : y 6 (8 * c + z) = N1
      · rw [hN] at hlo
        rw [if_pos hN, if_pos hN, if_pos hN]
        simp (config := {maxSteps := 1000000}) (disch := first | omega | assumption | (simp only [qm_wid_n, qm_wid_I, qm_wid_L, qm_wid_P] <;> omega)) only [b_C_trySpans_3, b_C_trySpans_4, b_C_trySpans_5, b_C_trySpans_6, b_C_trySpans_7, b_C_trySpans_8, qy0, qy1, qy2, qy3, qe, qcn, qin, ↓reduceIte, Nat.reduceEqDiff, Nat.reduceLeDiff, Bool.false_eq_true, Nat.reduceAdd, Nat.reduceSub, Nat.reduceMul, Nat.reduceLT, or_self, or_false, false_or, or_true, true_or, and_self, and_true, true_and, and_false, false_and, not_true_eq_false, not_false_eq_true, hcn, t_place, hkd, hlo, hhi, h26, h27, zI_uI]
      · rw [if_neg hN, if_neg hN, if_neg hN]
        simp (config := {maxSteps := 1000000}) (disch := first | omega | assumption | (simp only [qm_wid_n, qm_wid_I, qm_wid_L, qm_wid_P] <;> omega)) only [b_C_trySpans_3, b_C_trySpans_4, b_C_trySpans_5, b_C_trySpans_6, b_C_trySpans_7, b_C_trySpans_8, qy0, qy1, qy2, qy3, qe, qcn, qin, ↓reduceIte, Nat.reduceEqDiff, Nat.reduceLeDiff, Bool.false_eq_true, Nat.reduceAdd, Nat.reduceSub, Nat.reduceMul, Nat.reduceLT, or_self, or_false, false_or, or_true, true_or, and_self, and_true, true_and, and_false, false_and, not_true_eq_false, not_false_eq_true, hcn, t_place, hkd, hlo, hhi, hN, zI_uI]) (fun c _ x' a hc hs => by
      obtain ⟨k1, k2, k3, k4⟩ := hs
      have h8 := OK_n okp hc
      have hcn := PC_c k1.1.1 hc
      refine ⟨x', (qI (nI (cn y c)), a.1, a.2.1, a.2.2), ?_, k1, PC_like (vup_col okp c hc) k2, PC_like (vup_col okp c hc) k3, k4⟩
      refine (b_C_trySpans_2 ..).trans ?_
      simp (config := {maxSteps := 1000000}) (disch := first | omega | assumption | (simp only [qm_wid_n, qm_wid_I, qm_wid_L, qm_wid_P] <;> omega)) only [b_C_trySpans_9, qy0, qy1, qy2, qy3, qe, qcn, qin, ↓reduceIte, Nat.reduceEqDiff, Nat.reduceLeDiff, Bool.false_eq_true, Nat.reduceAdd, Nat.reduceSub, Nat.reduceMul, Nat.reduceLT, or_self, or_false, false_or, or_true, true_or, and_self, and_true, true_and, and_false, false_and, not_true_eq_false, not_false_eq_true, hcn]) () X (qU, qU, qU, qU) ⟨hR0, by rw [Nat.mul_zero, vup_0]; exact hP2', by rw [Nat.mul_zero, vup_0]; exact hP3, f23⟩
  have okv0 : OKP w (vsp w y 0) := vup_ok okp g0 (8 * w)
  have okv1 : OKP w (vsp w y 1) := vup_ok okp g1 (8 * w)
  have i0 : vsp w y 0 0 0 = nI i := (vup_ne (Or.inl (by decide))).trans hi
  have i1 : vsp w y 1 0 0 = nI i := (vup_ne (Or.inl (by decide))).trans hi
  obtain ⟨X2, e2, k1, k2, k3, k4⟩ := q_lp n (fun j (x : qm_Hp) => qm_evB (d + 7) jC_trySpans 11 [qP 1 0, qI (nI n), qI (nI j), a3, a4, a5, a6] [] x) (fun j x' => RC x' w y k tp fd fa pl T ∧ PC x' 2 w (psq (rul T y) w y j (vsp w y 0)) ∧ PC x' 3 w (psq (rul T y) w y j (vsp w y 1)) ∧ fp P23 x x') (fun j x' hj hx => by
    obtain ⟨k1, k2, k3, k4⟩ := hx
    obtain ⟨o1, o2⟩ := psq_ok (τ := rul T y) (y := y) okv0 i0 h9 j (by omega)
    obtain ⟨o3, o4⟩ := psq_ok (τ := rul T y) (y := y) okv1 i1 h9 j (by omega)
    obtain ⟨ep, hp⟩ := pln_e oky (k := j) (by omega)
    have hpl : zI x' 25 0 j = nI (pln y j) := (k1.1.2.2.2.1 j (by omega)).trans ep
    obtain ⟨x2, g1, g2, g3, g4⟩ := c_passT d ok k1 (by decide) k2 o1 o2 (by omega) hp
    have k3' := PC_fp (fun k hk => by unfold PP; omega) g4 k3
    have hpl2 : zI x2 25 0 j = nI (pln y j) := (g2.1.2.2.2.1 j (by omega)).trans ep
    obtain ⟨x3, q1, q2, q3, q4⟩ := c_passT d ok g2 (p := 3) (by decide) k3' o3 o4 (by omega) hp
    have g3' := PC_fp (fun k hk => by unfold PP; omega) q4 g3
    refine ⟨x3, (b_C_trySpans_11 ..).trans ?_, q2, g3', q3, fp_trans k4 (fp_trans (fp_mono (fun k i hk => by unfold PP at hk; unfold P23; omega) g4) (fp_mono (fun k i hk => by unfold PP at hk; unfold P23; omega) q4))⟩
    simp (config := {maxSteps := 1000000}) (disch := first | omega | assumption | (simp only [qm_wid_n, qm_wid_I, qm_wid_L, qm_wid_P] <;> omega)) only [qy0, qy1, qy2, qy3, qe, qcn, qin, ↓reduceIte, Nat.reduceEqDiff, Nat.reduceLeDiff, Bool.false_eq_true, Nat.reduceAdd, Nat.reduceSub, Nat.reduceMul, Nat.reduceLT, or_self, or_false, false_or, or_true, true_or, and_self, and_true, true_and, and_false, false_and, not_true_eq_false, not_false_eq_true, hpl, g1, hpl2, q1]) 0 X1 (Nat.zero_le _) ⟨j1, j2, j3, j4⟩
  refine ⟨X2, ?_, k1, k4, fun c z hc hz => ?_⟩
  · have hww := j1.1.1.1
    simp (config := {maxSteps := 1000000}) (disch := first | omega | assumption | (simp only [qm_wid_n, qm_wid_I, qm_wid_L, qm_wid_P] <;> omega)) only [e_C_trySpans, b_C_trySpans_0, qy0, qy1, qy2, qy3, qe, qcn, qin, ↓reduceIte, Nat.reduceEqDiff, Nat.reduceLeDiff, Bool.false_eq_true, Nat.reduceAdd, Nat.reduceSub, Nat.reduceMul, Nat.reduceLT, or_self, or_false, false_or, or_true, true_or, and_self, and_true, true_and, and_false, false_and, not_true_eq_false, not_false_eq_true, hb2, hb3]
    refine e1.trans ?_
    refine (b_C_trySpans_1 ..).trans ?_
    simp (config := {maxSteps := 1000000}) (disch := first | omega | assumption | (simp only [qm_wid_n, qm_wid_I, qm_wid_L, qm_wid_P] <;> omega)) only [b_C_trySpans_10, qy0, qy1, qy2, qy3, qe, qcn, qin, ↓reduceIte, Nat.reduceEqDiff, Nat.reduceLeDiff, Bool.false_eq_true, Nat.reduceAdd, Nat.reduceSub, Nat.reduceMul, Nat.reduceLT, or_self, or_false, false_or, or_true, true_or, and_self, and_true, true_and, and_false, false_and, not_true_eq_false, not_false_eq_true, hww]
    refine e2.trans ?_
    simp (config := {maxSteps := 1000000}) (disch := first | omega | assumption | (simp only [qm_wid_n, qm_wid_I, qm_wid_L, qm_wid_P] <;> omega)) only [b_C_trySpans_11, b_C_trySpans_12, qy0, qy1, qy2, qy3, qe, qcn, qin, ↓reduceIte, Nat.reduceEqDiff, Nat.reduceLeDiff, Bool.false_eq_true, Nat.reduceAdd, Nat.reduceSub, Nat.reduceMul, Nat.reduceLT, or_self, or_false, false_or, or_true, true_or, and_self, and_true, true_and, and_false, false_and, not_true_eq_false, not_false_eq_true]
  · exact ⟨PC_wt k2 hc (by rw [cn_psq]; unfold vsp; rw [cn_up]; exact hz), PC_wt k3 hc (by rw [cn_psq]; unfold vsp; rw [cn_up]; exact hz)⟩
