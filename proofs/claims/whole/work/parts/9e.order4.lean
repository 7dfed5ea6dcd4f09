/-! the call order: the reference's search, whole -/
theorem MR_fr {x x' : qm_Hp} {R : RR} (h9 : zI x' 9 0 31 = zI x 9 0 31) (h71 : ∀ j, zI x' 71 0 j = zI x 71 0 j) (h : MR x R) : MR x' R := ⟨h9.trans h.1, h.2.elim Or.inl (fun g => Or.inr fun i hi => (h71 i).trans (g i hi))⟩
theorem spl_pos {v : VW} : ∀ n, 0 < spl v n → ∃ c, c < n ∧ ¬ cn v c = 0
  | 0, h => absurd h (Nat.lt_irrefl 0)
  | n + 1, h => by
    by_cases q : cn v n = 0
    · have h' : 0 < spl v n := by
        have : spl v (n + 1) = spl v n + cn v n := rfl
        omega
      obtain ⟨c, h1, h2⟩ := spl_pos n h'
      exact ⟨c, by omega, h2⟩
    · exact ⟨n, by omega, q⟩
theorem spl_z {v : VW} : ∀ n, spl v n = 0 → ∀ c, c < n → cn v c = 0
  | 0, _, c, h => absurd h (Nat.not_lt_zero _)
  | n + 1, h, c, hc => by
    have e : spl v (n + 1) = spl v n + cn v n := rfl
    by_cases q : c = n
    · rw [q]; omega
    · exact spl_z n (by omega) c (by omega)
theorem mQ_ch {x : qm_Hp} {k : Nat} (b u : Int32) (h : k ≤ 4) : mQ k x (uI (uI x 9 0 2 b) 69 0 k u) := ⟨fp_uI (by unfold MP; omega) (fp_uI (by unfold MP; omega) (fp_refl _ _) _ _) _ _, fun i hi => by rw [zI_uI, if_neg (by omega), zI_uI, if_neg (by omega)], fun i hi => rfl, fun i hi => rfl⟩
theorem mQ_fr {x x' : qm_Hp} {k : Nat} {K : List Nat} (hK : ∀ q, q ∈ K → q ∈ [9, 65, 66, 67, 71]) (h : fr K x x') : mQ k x x' := by
  have hk : ∀ q, q ∉ [9, 65, 66, 67, 71] → q ∉ K := fun q hq g => hq (hK q g)
  refine ⟨fp_fr (fun q i hq => ?_) h, fun i _ => h.1 69 0 i (hk 69 (by decide)), fun i _ => h.1 70 0 i (hk 70 (by decide)), fun i _ => h.1 61 0 i (hk 61 (by decide))⟩
  have := hK q hq
  simp only [List.mem_cons, List.not_mem_nil, or_false] at this
  unfold MP
  omega
theorem r_expl (d : Nat) {w n N S wk : Nat} {y kp : VW} {tp : Nat → Int32} {fd : Nat} {fa pl : Int32} {T : Nat → TX} (ok : OKG w y kp tp fd T) (hn : n ≤ 5) (hN : N ≤ n) (hNS : N = n ∨ N = S) (hS : N ≤ S) (hwk : wk + n ≤ 399) : ∀ j k h v ch R x b x3, k + j = N → k < n → RT x b w y kp tp fd fa pl T → PM x (420 * (2 + k)) w v → OKP w v → v 0 0 = nI (wk + k) → spl v w + k = S → zI x 69 0 k = N1 → zI x 70 0 k = nI h → h ≤ 9999 * k → (∀ i, i < k → zI x 69 0 i = ch i) → MR x R → ∃ x' x3' b', qm_evB (d + 9) jM_findOrder 1 [qP 9 0, qI (nI n), qI (nI k), x3] [] x = qm_evB (d + 9) jM_findOrder 1 [qP 9 0, qI (nI n), qI (nI k + N1), x3'] [] x' ∧ RT x' b' w y kp tp fd fa pl T ∧ MR x' (srch (rul T y) w y j k (nI h) v ch R) ∧ mQ k x x' := by
  have hw6 := ok.1.1.1.2
  have okt := ok_rul ok
  intro j
  induction j with
  | zero =>
    intro k h v ch R x b x3 hk hkn hR hP okv hv hs h69 h70 hh hch hM
    have hz : spl v w = 0 := by omega
    have hcz := spl_z w hz
    have hc := r_choose (d + 7) (by omega : k ≤ 4) hP okv (c := 0) (Nat.zero_le _) h69
    obtain ⟨p1, p2, p3, p4⟩ := nxc_p v (w - 0) 0
    have hnx : ¬ nxc v (w - 0) 0 < w := fun g => p3 (by omega) (hcz _ g)
    rw [if_neg hnx] at hc
    have hq := mQ_ch (x := x) (nI (420 * (2 + k))) (nI (nxc v (w - 0) 0)) (by omega : k ≤ 4)
    have hR1 : RT (uI (uI x 9 0 2 (nI (420 * (2 + k)))) 69 0 k (nI (nxc v (w - 0) 0))) (420 * (2 + k)) w y kp tp fd fa pl T := RT_e (x := x) ok _ (by rw [zI_uI, if_neg (by omega), zI_uI, if_pos ⟨rfl, rfl, rfl⟩]) (fun j hj => by rw [zI_uI, if_neg (by omega), zI_uI, if_neg (by omega)]) (fun _ _ => rfl) (fun _ => rfl) (fun _ => rfl) hR
    have hM1 : MR (uI (uI x 9 0 2 (nI (420 * (2 + k)))) 69 0 k (nI (nxc v (w - 0) 0))) R := MR_fr (by rw [zI_uI, if_neg (by omega), zI_uI, if_neg (by omega)]) (fun _ => rfl) hM
    have h70' := (hq.2.2.1 k (Nat.le_refl _)).trans h70
    have hch' : ∀ i, i < k → zI (uI (uI x 9 0 2 (nI (420 * (2 + k)))) 69 0 k (nI (nxc v (w - 0) 0))) 69 0 i = ch i := fun i hi => (hq.2.1 i hi).trans (hch i hi)
    generalize uI (uI x 9 0 2 (nI (420 * (2 + k)))) 69 0 k (nI (nxc v (w - 0) 0)) = X1 at hc hq hR1 hM1 h70' hch'
    obtain ⟨X2, e1, e2, e3, e4⟩ := r_keep (d + 8) (ht := nI h) (by omega) (nI_le (Nat.zero_le _) (by omega)) hch' hM1
    refine ⟨X2, qI (nI 1), 420 * (2 + k), foK d (by omega) h69 hc h70' e1, RT_e ok _ ((e4 2 (by decide)).trans hR1.1) (fun j hj => e4 j (by omega)) (fun j _ => e3.1 61 0 j (by decide)) (fun j => e3.1 62 0 j (by decide)) (fun j => e3.1 63 0 j (by decide)) hR1, e2, mQ_trans hq (mQ_fr (by decide) e3)⟩
  | succ j ih =>
    intro k h v ch R x0 b0 x30 hk hkn hR0 hP0 okv hv hs h690 h700 hh hch0 hM0
    have lp : ∀ m c x b x3, c + m = w → RT x b w y kp tp fd fa pl T → mQ k x0 x → zI x 69 0 k = cm c → MR x (fcol (fun c R => srch (rul T y) w y j (k + 1) (nI h + heat (rul T y) v w c (cn v c - 1)) (nxp (rul T y) w y k v c) (fun i => if i = k then nI c else ch i) R) v c R) → ∃ x' x3' b', qm_evB (d + 9) jM_findOrder 1 [qP 9 0, qI (nI n), qI (nI k), x3] [] x = qm_evB (d + 9) jM_findOrder 1 [qP 9 0, qI (nI n), qI (nI k + N1), x3'] [] x' ∧ RT x' b' w y kp tp fd fa pl T ∧ MR x' (fcol (fun c R => srch (rul T y) w y j (k + 1) (nI h + heat (rul T y) v w c (cn v c - 1)) (nxp (rul T y) w y k v c) (fun i => if i = k then nI c else ch i) R) v w R) ∧ mQ k x0 x' := by
      intro m
      induction m using Nat.strongRecOn with
      | _ m im =>
      intro c x b x3 hcm hR hQ h69 hM
      have hP : PM x (420 * (2 + k)) w v := PM_row okv (RT_w hR) hQ.2.2.2 hP0
      have hc := r_choose (d + 7) (by omega : k ≤ 4) hP okv (c := c) (by omega) h69
      have em : w - c = m := by omega
      rw [em] at hc
      obtain ⟨p1, p2, p3, p4⟩ := nxc_p v m c
      generalize nxc v m c = c1 at hc p1 p2 p3 p4
      have hq := mQ_ch (x := x) (nI (420 * (2 + k))) (nI c1) (by omega : k ≤ 4)
      have hR1 : RT (uI (uI x 9 0 2 (nI (420 * (2 + k)))) 69 0 k (nI c1)) (420 * (2 + k)) w y kp tp fd fa pl T := RT_e (x := x) ok _ (by rw [zI_uI, if_neg (by omega), zI_uI, if_pos ⟨rfl, rfl, rfl⟩]) (fun j hj => by rw [zI_uI, if_neg (by omega), zI_uI, if_neg (by omega)]) (fun _ _ => rfl) (fun _ => rfl) (fun _ => rfl) hR
      have hM1 : MR (uI (uI x 9 0 2 (nI (420 * (2 + k)))) 69 0 k (nI c1)) _ := MR_fr (x := x) (by rw [zI_uI, if_neg (by omega), zI_uI, if_neg (by omega)]) (fun _ => rfl) hM
      have h691 : zI (uI (uI x 9 0 2 (nI (420 * (2 + k)))) 69 0 k (nI c1)) 69 0 k = nI c1 := by rw [zI_uI, if_pos ⟨rfl, rfl, rfl⟩]
      have hQ1 := mQ_trans hQ hq
      have h701 := (hQ1.2.2.1 k (Nat.le_refl _)).trans h700
      rw [← fcol_sk (a := c) c1 p1 p4] at hM1
      generalize uI (uI x 9 0 2 (nI (420 * (2 + k)))) 69 0 k (nI c1) = X1 at hc hq hR1 hM1 h691 hQ1 h701
      by_cases hcw : c1 < w
      · rw [if_pos hcw] at hc
        have hcn := p3 (by omega)
        have h8 := OK_n okv hcw
        have hP1 : PM X1 (420 * (2 + k)) w v := PM_row okv (RT_w hR1) hQ1.2.2.2 hP0
        have hct := r_count (d + 8) hP1 okv hR1.1 (by omega) hcw
        obtain ⟨X2, g1, g2⟩ := r_heat (d + 4) hP1 okv hR1.1 (by omega) (RT_LM ok hR1) okt hcw (z := cn v c1 - 1) (by omega)
        obtain ⟨q, _, hq9, eq⟩ := heat_rg (τ := rul T y) okv hcw (z := cn v c1 - 1) (by omega)
        have hR2 : RT (uI X2 70 0 (k + 1) (nI h + heat (rul T y) v w c1 (cn v c1 - 1))) (420 * (2 + k)) w y kp tp fd fa pl T := RT_fr ok (K := [65, 66, 67, 70]) (by decide) (fr_uI (k := 70) (by decide) (fr_mono (by decide) g2) _ _ _) hR1
        have hM2 : MR (uI X2 70 0 (k + 1) (nI h + heat (rul T y) v w c1 (cn v c1 - 1))) _ := MR_fr (x := X1) (by rw [zI_uI, if_neg (by omega)]; exact g2.1 9 0 31 (by decide)) (fun j => by rw [zI_uI, if_neg (by omega)]; exact g2.1 71 0 j (by decide)) hM1
        have hQ2 : mQ k x0 (uI X2 70 0 (k + 1) (nI h + heat (rul T y) v w c1 (cn v c1 - 1))) := mQ_trans hQ1 (mQ_trans (mQ_fr (by decide) g2) ⟨fp_uI (by unfold MP; omega) (fp_refl _ _) _ _, fun i hi => rfl, fun i hi => by rw [zI_uI, if_neg (by omega)], fun i hi => rfl⟩)
        have h692 : ∀ i, zI (uI X2 70 0 (k + 1) (nI h + heat (rul T y) v w c1 (cn v c1 - 1))) 69 0 i = zI X1 69 0 i := fun i => by rw [zI_uI, if_neg (by omega)]; exact g2.1 69 0 i (by decide)
        have h702 : zI (uI X2 70 0 (k + 1) (nI h + heat (rul T y) v w c1 (cn v c1 - 1))) 70 0 (k + 1) = nI (h + q) := by rw [zI_uI, if_pos ⟨rfl, rfl, rfl⟩, eq, nI_add]
        have hch2 : ∀ i, i < k + 1 → zI (uI X2 70 0 (k + 1) (nI h + heat (rul T y) v w c1 (cn v c1 - 1))) 69 0 i = (fun i => if i = k then nI c1 else ch i) i := fun i hi => by
          rw [h692]
          show _ = if i = k then nI c1 else ch i
          by_cases g : i = k
          · rw [if_pos g, g]; exact h691
          · rw [if_neg g, hQ1.2.1 i (by omega)]; exact hch0 i (by omega)
        have e5 : fcol (fun c R => srch (rul T y) w y j (k + 1) (nI h + heat (rul T y) v w c (cn v c - 1)) (nxp (rul T y) w y k v c) (fun i => if i = k then nI c else ch i) R) v (c1 + 1) R = srch (rul T y) w y j (k + 1) (nI h + heat (rul T y) v w c1 (cn v c1 - 1)) (nxp (rul T y) w y k v c1) (fun i => if i = k then nI c1 else ch i) (fcol (fun c R => srch (rul T y) w y j (k + 1) (nI h + heat (rul T y) v w c (cn v c - 1)) (nxp (rul T y) w y k v c) (fun i => if i = k then nI c else ch i) R) v c1 R) := by
          show (if cn v c1 = 0 then _ else _) = _
          rw [if_neg hcn]
        have ecm : cm (c1 + 1) = nI c1 := by
          unfold cm
          rw [if_neg (Nat.succ_ne_zero c1)]; rfl
        by_cases hkn1 : k + 1 = n
        · have hj0 : j = 0 := by omega
          subst hj0
          obtain ⟨X3, k1, k2, k3, k4⟩ := r_keep (d + 8) (k := n) (ht := nI h + heat (rul T y) v w c1 (cn v c1 - 1)) (ch := fun i => if i = k then nI c1 else ch i) (by omega) (by rw [eq, nI_add]; exact nI_le (Nat.zero_le _) (by omega)) (fun i hi => hch2 i (by omega)) hM2
          have hst := foE d (n := n) (x3 := qI (if cm c = N1 then nI 1 else nI 0)) (by omega : k ≤ 4) (by omega) h691 h701 hct g1 hkn1 k1
          obtain ⟨x', x3', b', r1, r2, r3, r4⟩ := im (w - (c1 + 1)) (by omega) (c1 + 1) X3 (420 * (2 + k)) (qI (if cm c = N1 then nI 1 else nI 0)) (by omega) (RT_e ok _ ((k4 2 (by decide)).trans hR2.1) (fun j hj => k4 j (by omega)) (fun j _ => k3.1 61 0 j (by decide)) (fun j => k3.1 62 0 j (by decide)) (fun j => k3.1 63 0 j (by decide)) hR2) (mQ_trans hQ2 (mQ_fr (by decide) k3)) (by rw [k3.1 69 0 k (by decide), h692, h691, ecm]) (by
            rw [e5]
            show MR X3 (nte (k + 1) _ _ _)
            rw [← hkn1] at k2; exact k2)
          exact ⟨x', x3', b', ((foA d (by omega) h69 hc).trans hst).trans r1, r2, r3, r4⟩
        · obtain ⟨n1, n2, n3⟩ := nxp_ok (τ := rul T y) (k := k) (y := y) okv hcw hcn hv (by omega)
          have hst := foB d (n := n) (x3 := qI (if cm c = N1 then nI 1 else nI 0)) (by omega : k ≤ 4) (by omega) h691 h701 hct g1 hkn1 hn
          generalize uI X2 70 0 (k + 1) (nI h + heat (rul T y) v w c1 (cn v c1 - 1)) = X3 at hR2 hM2 hQ2 h692 h702 hch2 hst
          have hP3 : PM X3 (420 * (2 + k)) w v := PM_row okv (RT_w hR2) hQ2.2.2.2 hP0
          obtain ⟨ep, hp⟩ := pln_e ok.1.2 (k := k) (by omega)
          have hpl : zI X3 61 0 (70 + k) = nI (pln y k) := by
            have := (RT_YM hw6 hR2).2.2.1 k (by omega)
            rw [Nat.zero_add] at this
            exact this.trans ep
          have hR4 : RT (uI (uC X3 61 0 (420 * (2 + k)) 61 0 (420 * (2 + k + 1)) 420) 9 0 2 (nI (420 * (2 + k + 1)))) (420 * (2 + k + 1)) w y kp tp fd fa pl T := RT_copy ok (2 + k) (2 + k + 1) (by omega) (420 * (2 + k + 1)) hR2
          have hP4 : PM (uI (uC X3 61 0 (420 * (2 + k)) 61 0 (420 * (2 + k + 1)) 420) 9 0 2 (nI (420 * (2 + k + 1)))) (420 * (2 + k + 1)) w v := PM_copy okv (2 + k) (2 + k + 1) (420 * (2 + k + 1)) hP3
          have hP5 := PM_dec hP4 okv hcw hcn
          have hR5 := RT_u ok (420 * (2 + k + 1) + 120 + c1) (nI (cn v c1 - 1)) (by omega) hR4
          have okr := OKP_rm okv hcw (z := cn v c1 - 1) (by omega)
          obtain ⟨X6, t1, t2, t3, t4⟩ := r_passT (d + 1) ok hR5 (by omega) (by omega) hP5 okr (by rw [vrm_ne (by omega) (by omega)]; exact hv) (by omega : wk + k < 399) hp
          have hst2 := foC d (n := n) (x3 := qI (if cm c = N1 then nI 1 else nI 0)) (by omega : k ≤ 3) (by omega) (by omega) h8 ((h692 k).trans h691) (PM_c hP3 hcw) hpl t1
          have e9 : ∀ j, j ≠ 2 → zI X6 9 0 j = zI X3 9 0 j := fun j hj => by rw [fm_9 t4 j, zI_uI, if_neg (by omega), zI_uI, if_neg (by omega), zI_uC, if_neg (by omega)]
          have ek : ∀ q i, q ≠ 9 → q ≠ 61 → q ≠ 65 → q ≠ 66 → q ≠ 67 → q ≠ 68 → zI X6 q 0 i = zI X3 q 0 i := fun q i h1 h2 h3 h4 h5 h6 => by
            rw [t4.1.1 q 0 i (by simp only [List.mem_cons, List.not_mem_nil, or_false]; omega), zI_uI, if_neg (by omega), zI_uI, if_neg (by omega), zI_uC, if_neg (by omega)]
          have e61 : ∀ i, i < 420 * (2 + k) + 420 → zI X6 61 0 i = zI X3 61 0 i := fun i hi => by
            rw [t4.2 i (by omega) (by omega) (by omega), zI_uI, if_neg (by omega), zI_uI, if_neg (by omega), zI_uC, if_neg (by omega)]
          have f6 : fp MP X3 X6 := fp_trans (mp_uu (fp_uI (by unfold MP; omega) (mp_uC _ _ _ _) _ _) _ _) (fm_MP t4)
          have hQ6 : mQ k X3 (uI X6 69 0 (k + 1) N1) := ⟨fp_uI (by unfold MP; omega) f6 _ _, fun i hi => by rw [zI_uI, if_neg (by omega)]; exact ek 69 i (by decide) (by decide) (by decide) (by decide) (by decide) (by decide), fun i hi => by rw [zI_uI, if_neg (by omega)]; exact ek 70 i (by decide) (by decide) (by decide) (by decide) (by decide) (by decide), fun i hi => by rw [zI_uI, if_neg (by omega)]; exact e61 i hi⟩
          have hR7 : RT (uI X6 69 0 (k + 1) N1) (420 * (2 + k + 1)) w y kp tp fd fa pl T := RT_fr ok (K := [69]) (by decide) (fr_uI (k := 69) (by decide) (fr_refl _ _) _ _ _) t2
          have hM7 : MR (uI X6 69 0 (k + 1) N1) _ := MR_fr (x := X3) (by rw [zI_uI, if_neg (by omega)]; exact e9 31 (by decide)) (fun j => by rw [zI_uI, if_neg (by omega)]; exact ek 71 j (by decide) (by decide) (by decide) (by decide) (by decide) (by decide)) hM2
          have hP7 : PM (uI X6 69 0 (k + 1) N1) (420 * (2 + (k + 1))) w (nxp (rul T y) w y k v c1) := PM_fr (K := [69]) (s := X6) (by decide) rfl (fr_uI (k := 69) (by decide) (fr_refl _ _) _ _ _) t3
          obtain ⟨X8, x38, b8, u1, u2, u3, u4⟩ := ih (k + 1) (h + q) (nxp (rul T y) w y k v c1) (fun i => if i = k then nI c1 else ch i) _ (uI X6 69 0 (k + 1) N1) (420 * (2 + k + 1)) (qI (if cm c = N1 then nI 1 else nI 0)) (by omega) (by omega) hR7 hP7 n1 (by rw [n2]; rfl) (by omega) (by rw [zI_uI, if_pos ⟨rfl, rfl, rfl⟩]) (by rw [zI_uI, if_neg (by omega), ek 70 _ (by decide) (by decide) (by decide) (by decide) (by decide) (by decide)]; exact h702) (by omega) (fun i hi => by rw [zI_uI, if_neg (by omega), ek 69 _ (by decide) (by decide) (by decide) (by decide) (by decide) (by decide)]; exact hch2 i hi) hM7
          have ed : nI (k + 1) + N1 = nI k := i_dec (Nat.succ_pos k)
          rw [ed] at u1
          have hQ8 := mQ_trans hQ2 (mQ_trans hQ6 (mQ_up u4))
          obtain ⟨x', x3', b', r1, r2, r3, r4⟩ := im (w - (c1 + 1)) (by omega) (c1 + 1) X8 b8 x38 (by omega) u2 hQ8 (by
            rw [u4.2.1 k (by omega), zI_uI, if_neg (by omega), ek 69 _ (by decide) (by decide) (by decide) (by decide) (by decide) (by decide), h692, h691, ecm]) (by
            rw [e5, eq, nI_add]; exact u3)
          exact ⟨x', x3', b', (((foA d (by omega) h69 hc).trans hst).trans (hst2.trans u1)).trans r1, r2, r3, r4⟩
      · rw [if_neg hcw] at hc
        have ew : c1 = w := by omega
        subst ew
        have hc0 : ¬ c = 0 := fun g => by
          obtain ⟨c', h1, h2⟩ := spl_pos (v := v) c1 (by omega)
          exact h2 (p4 c' (by omega) h1)
        have hne : ¬ cm c = N1 := by
          unfold cm
          rw [if_neg hc0, i_m1 (by omega)]; exact id
        exact ⟨X1, qI (nI 0), _, foN d (by omega) h69 hne hc, hR1, hM1, hQ1⟩
    obtain ⟨x', x3', b', r1, r2, r3, r4⟩ := lp w 0 x0 b0 x30 (Nat.zero_add _) hR0 (mQ_refl _ _) h690 hM0
    exact ⟨x', x3', b', r1, r2, r3, r4⟩
