/-! the call order: the search, the class -/
abbrev RR : Type := Int32 × Nat × (Nat → Int32)
def nte (k : Nat) (ht : Int32) (ch : Nat → Int32) (R : RR) : RR := if R.1 < ht then (ht, k, ch) else R
def fcol (F : Nat → RR → RR) (v : VW) : Nat → RR → RR
  | 0, R => R
  | c + 1, R => if cn v c = 0 then fcol F v c R else F c (fcol F v c R)
def srch (τ : TX) (w : Nat) (y : VW) : Nat → Nat → Int32 → VW → (Nat → Int32) → RR → RR
  | 0, k, ht, _, ch, R => nte k ht ch R
  | j + 1, k, ht, v, ch, R => fcol (fun c R => srch τ w y j (k + 1) (ht + heat τ v w c (cn v c - 1)) (passv τ w (Wy y (pln y k)) (vrm v c (cn v c - 1))) (fun i => if i = k then nI c else ch i) R) v w R
/-- the next pile of the search -/
def nxp (τ : TX) (w : Nat) (y : VW) (k : Nat) (v : VW) (c : Nat) : VW := passv τ w (Wy y (pln y k)) (vrm v c (cn v c - 1))
theorem cn_pass {τ : TX} {w : Nat} {W : Nat → Int32} {v : VW} (c : Nat) : cn (passv τ w W v) c = cn v c := by unfold cn; rw [pass_1 (by decide) (by decide)]
theorem nxp_ok {τ : TX} {w k c i : Nat} {y v : VW} (ok : OKP w v) (hc : c < w) (hn : ¬ cn v c = 0) (hi : v 0 0 = nI i) (h : i < 399) : OKP w (nxp τ w y k v c) ∧ nxp τ w y k v c 0 0 = nI (i + 1) ∧ spl (nxp τ w y k v c) w + 1 = spl v w := by
  have o := OKP_rm ok hc (z := cn v c - 1) (by omega)
  obtain ⟨a1, a2⟩ := ok_pass (τ := τ) (W := Wy y (pln y k)) o (by rw [vrm_ne (by omega) (by omega)]; exact hi) h
  refine ⟨a1, a2, ?_⟩
  rw [← spl_rm (OK_n ok hc) (z := cn v c - 1) (by omega) w hc]
  unfold nxp
  rw [spl_cong w (fun c' _ => cn_pass c')]
theorem fcol_tk {F : Nat → RR → RR} {v : VW} {M : Nat} (hF : ∀ c R, R.2.1 ≤ M → (F c R).2.1 ≤ M) : ∀ n R, R.2.1 ≤ M → (fcol F v n R).2.1 ≤ M
  | 0, R, h => h
  | n + 1, R, h => by
    unfold fcol
    by_cases q : cn v n = 0
    · rw [if_pos q]; exact fcol_tk hF n R h
    · rw [if_neg q]; exact hF n _ (fcol_tk hF n R h)
theorem srch_tk {τ : TX} {w : Nat} {y : VW} {M : Nat} : ∀ j k ht v ch R, k + j ≤ M → R.2.1 ≤ M → (srch τ w y j k ht v ch R).2.1 ≤ M
  | 0, k, ht, v, ch, R, h, hR => by
    unfold srch nte
    by_cases q : R.1 < ht
    · rw [if_pos q]; exact h
    · rw [if_neg q]; exact hR
  | j + 1, k, ht, v, ch, R, h, hR => by
    unfold srch
    exact fcol_tk (fun c R hR => srch_tk j (k + 1) _ _ _ R (by omega) hR) w R hR
/-- the class's record -/
def SR (x : qm_Hp) (R : RR) : Prop := zI x 8 0 3 = R.1 ∧ zI x 8 0 4 = nI R.2.1 ∧ ∀ i, i < R.2.1 → i < 5 → zI x 48 0 i = R.2.2 i
/-- what the search may change from depth k on -/
def SQ (k : Nat) : Nat → Nat → Prop := fun q i => q = 8 ∨ q = 41 ∨ q = 42 ∨ q = 47 ∨ q = 48 ∨ (5 + k ≤ i ∧ (q = 3 ∨ (11 ≤ q ∧ q ≤ 17)))
theorem SQ_up {k : Nat} {s s' : qm_Hp} (h : fp (SQ (k + 1)) s s') : fp (SQ k) s s' := fp_mono (fun q i hq => by unfold SQ at *; omega) h
theorem SQ_PP {k : Nat} {s s' : qm_Hp} (h : fp (PP (5 + k)) s s') : fp (SQ k) s s' := fp_mono (fun q i hq => by unfold PP at hq; unfold SQ; omega) h
theorem SQ_CP {k : Nat} {s s' : qm_Hp} (h : fp (SQ k) s s') : fp CP s s' := fp_mono (fun q i hq => by unfold SQ at hq; unfold CP; omega) h
theorem RC_SQ {k : Nat} {s s' : qm_Hp} {w : Nat} {y kp : VW} {tp : Nat → Int32} {fd : Nat} {fa pl : Int32} {T : Nat → TX} (hf : fp (SQ k) s s') (hw : ∀ p, p < 9 → zI s' 3 p 0 = nI w) (h : RC s w y kp tp fd fa pl T) : RC s' w y kp tp fd fa pl T := RC_SP (fp_mono (fun q i hq => by unfold SQ at hq; unfold SP; omega) hf) hw h
theorem RC_u1 {x : qm_Hp} {q i j : Nat} {u : Int32} {w : Nat} {y kp : VW} {tp : Nat → Int32} {fd : Nat} {fa pl : Int32} {T : Nat → TX} (hq : q = 8 ∨ q = 47 ∨ q = 48) (h : RC x w y kp tp fd fa pl T) : RC (uI x q i j u) w y kp tp fd fa pl T :=
  RC_SP (fp_uI (by unfold SP; omega) (fp_refl _ _) _ _) (fun p hp => by rw [zI_uI, if_neg (by omega)]; exact h.2.2.1 p hp) h
theorem c_note (d : Nat) {x : qm_Hp} {k : Nat} {ht : Int32} {ch : Nat → Int32} {R : RR} {w : Nat} {y kp : VW} {tp : Nat → Int32} {fd : Nat} {fa pl : Int32} {T : Nat → TX} (hk : k ≤ 5) (hR : RC x w y kp tp fd fa pl T) (hch : ∀ i, i < k → zI x 47 0 i = ch i) (hS : SR x R) : ∃ x', qm_evM d jS_note [qP 8 0, qI (nI k), qI ht] x = some (none, x') ∧ RC x' w y kp tp fd fa pl T ∧ SR x' (nte k ht ch R) ∧ (∀ q i j, q ≠ 8 → q ≠ 48 → zI x' q i j = zI x q i j) ∧ fp (fun q i => q = 8 ∨ q = 48) x x' := by
  obtain ⟨s1, s2, s3⟩ := hS
  unfold nte
  by_cases h : R.1 < ht
  · rw [if_pos h]
    have h' := Int32.not_le.mpr h
    have hf : fp (fun q i => q = 8 ∨ q = 48) x (uC (uI (uI x 8 0 3 ht) 8 0 4 (nI k)) 47 0 0 48 0 0 5) := fp_uC (Or.inr rfl) (fp_uI (Or.inl rfl) (fp_uI (Or.inl rfl) (fp_refl _ _) _ _) _ _) _ _ _ _ _
    refine ⟨uC (uI (uI x 8 0 3 ht) 8 0 4 (nI k)) 47 0 0 48 0 0 5, ?_, RC_SP (fp_mono (fun q i hq => by unfold SP; omega) hf) (fun p hp => hR.2.2.1 p hp) hR, ⟨?_, ?_, fun i hi hi5 => ?_⟩, fun q i j h1 h2 => hf.1 q i j (by first | omega | (dsimp only; omega)), hf⟩
    · have h5 : (5 : Int32) = nI 5 := rfl
      simp only [e_S_note, b_S_note_0, b_S_note_1, qx, qe, qc, qil, reduceIte, Nat.reduceEqDiff, Nat.reduceLeDiff, Bool.false_eq_true, Nat.reduceAdd, Nat.reduceLT, List.length_cons, List.length_nil, or_self, or_false, false_or, or_true, true_or, and_self, and_true, true_and, and_false, false_and, not_true_eq_false, not_false_eq_true, Nat.zero_le, qz1, qz2, qz3, qz4, qz5, qz6, qz7, qz8, qz9, qz0, qz10, qz01, qtn, qn0, Nat.lt_irrefl, Nat.not_lt_zero, s1, h', nI_clamp]
    · rw [zI_uC, if_neg (by omega), zI_uI, if_neg (by omega), zI_uI, if_pos ⟨rfl, rfl, rfl⟩]
    · rw [zI_uC, if_neg (by omega), zI_uI, if_pos ⟨rfl, rfl, rfl⟩]
    · have hi : i < k := hi
      rw [zI_uC, if_pos ⟨rfl, rfl, Nat.zero_le _, by omega⟩, zI_uI, if_neg (by omega), zI_uI, if_neg (by omega), Nat.zero_add, Nat.sub_zero]
      exact hch i hi
  · rw [if_neg h]
    have h' := Int32.not_lt.mp h
    refine ⟨x, ?_, hR, ⟨s1, s2, s3⟩, fun _ _ _ _ _ => rfl, fp_refl _ _⟩
    simp only [e_S_note, b_S_note_0, b_S_note_1, qx, qe, qc, qil, reduceIte, Nat.reduceEqDiff, Nat.reduceLeDiff, Bool.false_eq_true, Nat.reduceAdd, Nat.reduceLT, List.length_cons, List.length_nil, or_self, or_false, false_or, or_true, true_or, and_self, and_true, true_and, and_false, false_and, not_true_eq_false, not_false_eq_true, Nat.zero_le, qz1, qz2, qz3, qz4, qz5, qz6, qz7, qz8, qz9, qz0, qz10, qz01, s1, h']
theorem c_try (d : Nat) {w N wk : Nat} {y kp : VW} {tp : Nat → Int32} {fd : Nat} {fa pl : Int32} {T : Nat → TX} (ok : OKG w y kp tp fd T) (hN : N ≤ 5) (hwk : wk + N ≤ 399) : ∀ j k ht v ch R x, k + j = N → RC x w y kp tp fd fa pl T → (j = 0 ∨ PC x (4 + k) w v) → OKP w v → v 0 0 = nI (wk + k) → (∀ i, i < k → zI x 47 0 i = ch i) → SR x R → ∃ x', qm_evM (d + 7 + j) jS_tryFrom [qP 8 0, qI (nI k), qI ht, qI (nI N), qP 2 0, qP 5 0] x = some (none, x') ∧ RC x' w y kp tp fd fa pl T ∧ SR x' (srch (rul T y) w y j k ht v ch R) ∧ fp (SQ k) x x' ∧ (∀ i, i < k → zI x' 47 0 i = zI x 47 0 i) := by
  have hw6 := ok.1.1.1.2
  intro j
  induction j with
  | zero =>
    intro k ht v ch R x hk hR _ okv hv hch hS
    obtain ⟨x', e1, e2, e3, e4, e5⟩ := c_note (d + 6) (by omega) hR hch hS (ht := ht)
    refine ⟨x', ?_, e2, e3, fp_mono (fun q i hq => by unfold SQ; omega) e5, fun i hi => e4 47 0 i (by decide) (by decide)⟩
    simp (config := {maxSteps := 1000000}) (disch := first | omega | assumption | (simp only [qm_wid_n, qm_wid_I, qm_wid_L, qm_wid_P]; omega) | (simp only [qm_wid_n, qm_wid_I, qm_wid_L, qm_wid_P]; done) | fail) only [e_S_tryFrom, b_S_tryFrom_0, b_S_tryFrom_1, qy0, qy1, qy2, qy3, qe, qcn, qin, ↓reduceIte, Nat.reduceEqDiff, Nat.reduceLeDiff, Bool.false_eq_true, Nat.reduceAdd, Nat.reduceSub, Nat.reduceMul, Nat.reduceLT, or_self, or_false, false_or, or_true, true_or, and_self, and_true, true_and, and_false, false_and, not_true_eq_false, not_false_eq_true, e1]
  | succ j ih =>
    intro k ht v ch R x hk hR hP okv hv hch hS
    have hP := hP.resolve_left (Nat.succ_ne_zero j)
    have okt := ok_rul ok
    obtain ⟨⟨x', x8, x9⟩, e, q1, q2, q3, q4⟩ := q_lp w (fun c (x : qm_Hp × qm_AV × qm_AV) => qm_evB (d + 7 + j + 1) jS_tryFrom 3 [qP 8 0, qI (nI k), qI ht, qI (nI N), qP 2 0, qP 5 0, qP 3 (4 + k), qI (nI c), x.2.1, x.2.2] [] x.1) (fun c x' => RC x'.1 w y kp tp fd fa pl T ∧ SR x'.1 (fcol (fun c R => srch (rul T y) w y j (k + 1) (ht + heat (rul T y) v w c (cn v c - 1)) (nxp (rul T y) w y k v c) (fun i => if i = k then nI c else ch i) R) v c R) ∧ fp (SQ k) x x'.1 ∧ (∀ i, i < k → zI x'.1 47 0 i = zI x 47 0 i)) (fun c x' hc hx => by
      obtain ⟨x', y8, y9⟩ := x'
      obtain ⟨i1, i2, i3, i4⟩ := hx
      dsimp only at i1 i2 i3 i4
      have hPx : PC x' (4 + k) w v := PC_fp (fun q hq => by unfold SQ; omega) i3 hP
      have hww := hPx.1
      have hcn := PC_c hPx hc
      have h8 := OK_n okv hc
      unfold fcol
      by_cases h0 : cn v c = 0
      · rw [if_pos h0]
        rw [h0] at hcn
        have hm1 : (nI 0 - nI 1 < nI 0) = True := eq_true (by decide)
        refine ⟨(x', qI (nI 0 - nI 1), y9), (b_S_tryFrom_3 ..).trans ?_, i1, i2, i3, i4⟩
        simp (config := {maxSteps := 1000000}) (disch := first | omega | assumption | (simp only [qm_wid_n, qm_wid_I, qm_wid_L, qm_wid_P]; omega) | (simp only [qm_wid_n, qm_wid_I, qm_wid_L, qm_wid_P]; done) | fail) only [b_S_tryFrom_5, qy0, qy1, qy2, qy3, qe, qcn, qin, ↓reduceIte, Nat.reduceEqDiff, Nat.reduceLeDiff, Bool.false_eq_true, Nat.reduceAdd, Nat.reduceSub, Nat.reduceMul, Nat.reduceLT, or_self, or_false, false_or, or_true, true_or, and_self, and_true, true_and, and_false, false_and, not_true_eq_false, not_false_eq_true, hww, hcn, hm1]
      · rw [if_neg h0]
        have hR1 : RC (uI x' 47 0 k (nI c)) w y kp tp fd fa pl T := RC_u1 (by omega) i1
        have f1 : fp (SQ k) x' (uI x' 47 0 k (nI c)) := fp_uI (by unfold SQ; omega) (fp_refl _ _) _ _
        have hP1 : PC (uI x' 47 0 k (nI c)) (4 + k) w v := PC_fp (fun q hq => by unfold SQ; omega) f1 hPx
        obtain ⟨x2, g1, g2⟩ := c_heat (d + 3 + j) hP1 okv (RC_LC hR1 ok) okt hc (z := cn v c - 1) (by omega)
        have hd3 : d + 7 + j = d + 3 + j + 4 := by omega
        rw [← hd3] at g1
        have hR2 := RC_scr g2 hR1
        have hP2 := PC_fr (K := [41, 42]) (by decide) g2 hP1
        have f2 : fp (SQ k) x' x2 := fp_trans f1 (fp_fr (fun q i hq => by simp only [List.mem_cons, List.not_mem_nil, or_false] at hq; unfold SQ; omega) g2)
        have hch2 : ∀ i, i < k + 1 → zI x2 47 0 i = (fun i => if i = k then nI c else ch i) i := fun i hi => by
          rw [g2.1 47 0 i (by decide), zI_uI]
          show _ = if i = k then nI c else ch i
          by_cases g : i = k
          · rw [if_pos ⟨rfl, rfl, g⟩, if_pos g]
          · rw [if_neg (fun z => g z.2.2), if_neg g, i4 i (by omega)]; exact hch i (by omega)
        have hS2 : SR x2 (fcol (fun c R => srch (rul T y) w y j (k + 1) (ht + heat (rul T y) v w c (cn v c - 1)) (nxp (rul T y) w y k v c) (fun i => if i = k then nI c else ch i) R) v c R) := ⟨by rw [g2.1 8 0 3 (by decide), zI_uI, if_neg (by omega)]; exact i2.1, by rw [g2.1 8 0 4 (by decide), zI_uI, if_neg (by omega)]; exact i2.2.1, fun i h1 h2 => by rw [g2.1 48 0 i (by decide), zI_uI, if_neg (by omega)]; exact i2.2.2 i h1 h2⟩
        have h47 : ∀ i, i < k → zI x2 47 0 i = zI x' 47 0 i := fun i hi => by rw [g2.1 47 0 i (by decide), zI_uI, if_neg (by omega)]
        have hwk' : wk + k < 399 := by omega
        obtain ⟨n1, n2, n3⟩ := nxp_ok (τ := rul T y) (k := k) (y := y) okv hc h0 hv hwk'
        by_cases hj : j = 0
        · subst hj
          obtain ⟨x3, e1, e2, e3, e4, e5⟩ := ih (k + 1) (ht + heat (rul T y) v w c (cn v c - 1)) (nxp (rul T y) w y k v c) (fun i => if i = k then nI c else ch i) _ x2 (by omega) hR2 (Or.inl rfl) n1 (by rw [n2]; rfl) hch2 hS2
          refine ⟨(x3, qI (nI (cn v c - 1)), qI (heat (rul T y) v w c (cn v c - 1))), (b_S_tryFrom_3 ..).trans ?_, e2, e3, fp_trans i3 (fp_trans f2 (SQ_up e4)), fun i hi => (e5 i (by omega)).trans ((h47 i hi).trans (i4 i hi))⟩
          simp (config := {maxSteps := 1000000}) (disch := first | omega | assumption | (simp only [qm_wid_n, qm_wid_I, qm_wid_L, qm_wid_P]; omega) | (simp only [qm_wid_n, qm_wid_I, qm_wid_L, qm_wid_P]; done) | fail) only [b_S_tryFrom_4, b_S_tryFrom_5, qy0, qy1, qy2, qy3, qe, qcn, qin, ↓reduceIte, Nat.reduceEqDiff, Nat.reduceLeDiff, Bool.false_eq_true, Nat.reduceAdd, Nat.reduceSub, Nat.reduceMul, Nat.reduceLT, or_self, or_false, false_or, or_true, true_or, and_self, and_true, true_and, and_false, false_and, not_true_eq_false, not_false_eq_true, hww, hcn, g1, e1]
        · obtain ⟨ep, hp⟩ := pln_e ok.1.2 (k := k) (by omega)
          have hbe := s_become (d + 7 + j) x2 (4 + (k + 1)) (4 + k)
          have hP3 := PC_bec hP2 okv (p := 4 + (k + 1)) (by omega) (hR2.2.2.1 (4 + (k + 1)) (by omega))
          have fb := bec_fp x2 (4 + (k + 1)) (4 + k)
          obtain ⟨x4, r1, r2, r3⟩ := c_remove (d + 6 + j) hP3 okv hc (z := cn v c - 1) (by omega)
          have hR4 : RC x4 w y kp tp fd fa pl T := RC_PPp (by omega) (fp_trans fb r3) r2.1 hR2
          have okr := OKP_rm okv hc (z := cn v c - 1) (by omega)
          have hpl : zI x4 25 0 k = nI (pln y k) := (hR4.1.2.2.2.1 k (by omega)).trans ep
          obtain ⟨x5, p1, p2, p3, p4⟩ := c_passT (d + 1 + j) ok hR4 (by omega) r2 okr (by rw [vrm_ne (by omega) (by omega)]; exact hv) hwk' hp
          have fall : fp (PP (5 + k)) x2 x5 := by
            rw [show 5 + k = 4 + (k + 1) by omega]
            exact fp_trans (fp_trans fb r3) p4
          have hch5 : ∀ i, i < k + 1 → zI x5 47 0 i = (fun i => if i = k then nI c else ch i) i := fun i hi => (fall.1 47 0 i (by unfold PP; omega)).trans (hch2 i hi)
          have hS5 : SR x5 (fcol (fun c R => srch (rul T y) w y j (k + 1) (ht + heat (rul T y) v w c (cn v c - 1)) (nxp (rul T y) w y k v c) (fun i => if i = k then nI c else ch i) R) v c R) := ⟨(fall.1 8 0 3 (by unfold PP; omega)).trans hS2.1, (fall.1 8 0 4 (by unfold PP; omega)).trans hS2.2.1, fun i h1 h2 => (fall.1 48 0 i (by unfold PP; omega)).trans (hS2.2.2 i h1 h2)⟩
          obtain ⟨x3, e1, e2, e3, e4, e5⟩ := ih (k + 1) (ht + heat (rul T y) v w c (cn v c - 1)) (nxp (rul T y) w y k v c) (fun i => if i = k then nI c else ch i) _ x5 (by omega) p2 (Or.inr p3) n1 (by rw [n2]; rfl) hch5 hS5
          have hd1 : d + 7 + j = d + 6 + j + 1 := by omega
          have hd2 : d + 7 + j = d + 1 + j + 6 := by omega
          rw [← hd1] at r1
          rw [← hd2] at p1
          refine ⟨(x3, qI (nI (cn v c - 1)), qI (heat (rul T y) v w c (cn v c - 1))), (b_S_tryFrom_3 ..).trans ?_, e2, e3, fp_trans i3 (fp_trans f2 (fp_trans (SQ_PP fall) (SQ_up e4))), fun i hi => (e5 i (by omega)).trans ((fall.1 47 0 i (by unfold PP; omega)).trans ((h47 i hi).trans (i4 i hi)))⟩
          simp (config := {maxSteps := 1000000}) (disch := first | omega | assumption | (simp only [qm_wid_n, qm_wid_I, qm_wid_L, qm_wid_P]; omega) | (simp only [qm_wid_n, qm_wid_I, qm_wid_L, qm_wid_P]; done) | fail) only [b_S_tryFrom_4, b_S_tryFrom_5, qy0, qy1, qy2, qy3, qe, qcn, qin, ↓reduceIte, Nat.reduceEqDiff, Nat.reduceLeDiff, Bool.false_eq_true, Nat.reduceAdd, Nat.reduceSub, Nat.reduceMul, Nat.reduceLT, or_self, or_false, false_or, or_true, true_or, and_self, and_true, true_and, and_false, false_and, not_true_eq_false, not_false_eq_true, hww, hcn, g1, hbe, r1, hpl, p1, e1]) 0 (x, qU, qU) (Nat.zero_le _) ⟨hR, hS, fp_refl _ _, fun _ _ => rfl⟩
    dsimp only at q1 q2 q3 q4
    have hww := (PC_fp (fun q hq => by unfold SQ; omega) q3 hP).1
    refine ⟨x', ?_, q1, q2, q3, q4⟩
    show qm_evM (d + 7 + j + 1) jS_tryFrom [qP 8 0, qI (nI k), qI ht, qI (nI N), qP 2 0, qP 5 0] x = _
    simp (config := {maxSteps := 1000000}) (disch := first | omega | assumption | (simp only [qm_wid_n, qm_wid_I, qm_wid_L, qm_wid_P]; omega) | (simp only [qm_wid_n, qm_wid_I, qm_wid_L, qm_wid_P]; done) | fail) only [e_S_tryFrom, b_S_tryFrom_0, b_S_tryFrom_2, qy0, qy1, qy2, qy3, qe, qcn, qin, ↓reduceIte, Nat.reduceEqDiff, Nat.reduceLeDiff, Bool.false_eq_true, Nat.reduceAdd, Nat.reduceSub, Nat.reduceMul, Nat.reduceLT, or_self, or_false, false_or, or_true, true_or, and_self, and_true, true_and, and_false, false_and, not_true_eq_false, not_false_eq_true]
    refine e.trans ?_
    simp (config := {maxSteps := 1000000}) (disch := first | omega | assumption | (simp only [qm_wid_n, qm_wid_I, qm_wid_L, qm_wid_P]; omega) | (simp only [qm_wid_n, qm_wid_I, qm_wid_L, qm_wid_P]; done) | fail) only [b_S_tryFrom_3, b_S_tryFrom_6, qy0, qy1, qy2, qy3, qe, qcn, qin, ↓reduceIte, Nat.reduceEqDiff, Nat.reduceLeDiff, Bool.false_eq_true, Nat.reduceAdd, Nat.reduceSub, Nat.reduceMul, Nat.reduceLT, or_self, or_false, false_or, or_true, true_or, and_self, and_true, true_and, and_false, false_and, not_true_eq_false, not_false_eq_true, hww]
