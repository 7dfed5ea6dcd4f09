/-! the class's tokens: the loop -/
def TKr (B : Nat → Nat) (L i : Nat) : Nat := (tk0 B L (stt B L i)).1
def VLr (B : Nat → Nat) (L i : Nat) : Nat := (tk0 B L (stt B L i)).2.1
def KF (x x' : qm_Hp) : Prop := (∀ k i j, k ≠ 7 → ¬ (43 ≤ k ∧ k ≤ 45) → zI x' k i j = zI x k i j) ∧ (∀ k i j, zL x' k i j = zL x k i j) ∧ (∀ k i j, zP x' k i j = zP x k i j)
theorem KF_refl (x : qm_Hp) : KF x x := ⟨fun _ _ _ _ _ => rfl, fun _ _ _ => rfl, fun _ _ _ => rfl⟩
theorem KF_tr {x1 x2 x3 : qm_Hp} (h1 : KF x1 x2) (h2 : KF x2 x3) : KF x1 x3 := ⟨fun k i j a b => (h2.1 k i j a b).trans (h1.1 k i j a b), fun k i j => (h2.2.1 k i j).trans (h1.2.1 k i j), fun k i j => (h2.2.2 k i j).trans (h1.2.2 k i j)⟩
theorem KF_kad (x : qm_Hp) (c t v p : Nat) : KF x (kad x c t v p) := ⟨fun k i j a b => by
  unfold kad
  rw [zI_uI, if_neg (fun g => a g.1), zI_uI, if_neg (by omega), zI_uI, if_neg (by omega), zI_uI, if_neg (by omega)], fun _ _ _ => rfl, fun _ _ _ => rfl⟩
/-- tokens below c are cut -/
def KC (B : Nat → Nat) (L c : Nat) (x : qm_Hp) : Prop := zI x 7 0 3 = nI c ∧ ∀ i, i < c → zI x 43 0 i = nI (TKr B L i) ∧ zI x 44 0 i = nI (VLr B L i) ∧ zI x 45 0 i = nI (stt B L i)
theorem KC_kad {B : Nat → Nat} {L c : Nat} {x : qm_Hp} (h : KC B L c x) : KC B L (c + 1) (kad x c (TKr B L c) (VLr B L c) (stt B L c)) := by
  refine ⟨by unfold kad; rw [zI_uI, if_pos ⟨rfl, rfl, rfl⟩], fun i hi => ?_⟩
  unfold kad
  by_cases q : i = c
  · subst q
    refine ⟨?_, ?_, ?_⟩
    · rw [zI_uI, if_neg (by omega), zI_uI, if_neg (by omega), zI_uI, if_neg (by omega), zI_uI, if_pos ⟨rfl, rfl, rfl⟩]
    · rw [zI_uI, if_neg (by omega), zI_uI, if_neg (by omega), zI_uI, if_pos ⟨rfl, rfl, rfl⟩]
    · rw [zI_uI, if_neg (by omega), zI_uI, if_pos ⟨rfl, rfl, rfl⟩]
  · obtain ⟨g1, g2, g3⟩ := h.2 i (by omega)
    refine ⟨?_, ?_, ?_⟩
    · rw [zI_uI, if_neg (by omega), zI_uI, if_neg (by omega), zI_uI, if_neg (by omega), zI_uI, if_neg (by omega)]; exact g1
    · rw [zI_uI, if_neg (by omega), zI_uI, if_neg (by omega), zI_uI, if_neg (by omega), zI_uI, if_neg (by omega)]; exact g2
    · rw [zI_uI, if_neg (by omega), zI_uI, if_neg (by omega), zI_uI, if_neg (by omega), zI_uI, if_neg (by omega)]; exact g3
theorem BY_KF {B : Nat → Nat} {L : Nat} {x x' : qm_Hp} (h : KF x x') (g : BY B L x) : BY B L x' := ⟨g.1, fun j hj => ⟨(h.1 52 0 j (by decide) (by decide)).trans (g.2 j hj).1, (g.2 j hj).2⟩⟩
theorem cut_l (d : Nat) {B : Nat → Nat} {L : Nat} : ∀ n p k c x x5, n = L - p → p ≤ L → k ≤ p → c ≤ p → BY B L x → KC B L c x → skp B L p = stt B L c → ∃ x' E, qm_evB (d + 3) jK_cut 1 [qP 7 0, qP 52 0, qI (nI L), qI (nI p), qI (nI k), x5] [] x = some (none, x') ∧ KF x x' ∧ KC B L (E + 1) x' ∧ E ≤ L ∧ TKr B L E = 41 ∧ (∀ i, i < E → c ≤ i → TKr B L i ≠ 41) := by
  intro n
  induction n using Nat.strongRecOn with
  | _ n ih =>
    intro p k c x x5 hn hp hk hc hB hK hs
    have hL := hB.1
    by_cases hp' : p < L
    · obtain ⟨hz, hb⟩ := hB.2 p hp'
      by_cases q : isS (B p) = true
      · obtain ⟨x', E, e, r⟩ := ih (L - (p + 1)) (by omega) (p + 1) (k + 1) c x (qI (nI (B p))) rfl (by omega) (by omega) (by omega) hB hK ((skp_s hp' q).symm.trans hs)
        exact ⟨x', E, (ct_s (d + 3) hL hp' (by omega) hz (of_decide_eq_true q)).trans e, r⟩
      · have hs' : p = stt B L c := (skp_n (fun _ => q)).symm.trans hs
        have hq : B p ≠ 32 ∧ B p ≠ 10 := ⟨fun g => q (decide_eq_true (Or.inl g)), fun g => q (decide_eq_true (Or.inr g))⟩
        have tb := tk0_b (B := B) (L := L) (p := p) (fun j hj => (hB.2 j hj).2)
        have t3 := tb.2.2 hp'
        have step : ∃ x1, x1 = kad x c (tk0 B L p).1 (tk0 B L p).2.1 p ∧ qm_evB (d + 3) jK_cut 1 [qP 7 0, qP 52 0, qI (nI L), qI (nI p), qI (nI k), x5] [] x = qm_evB (d + 3) jK_cut 1 [qP 7 0, qP 52 0, qI (nI L), qI (nI (tk0 B L p).2.2), qI (nI (k + 1)), qI (nI (B p))] [] x1 := by
          by_cases h1 : isL (B p) = true
          · have cw := c_cutWord d hB (by omega : p ≤ L) (by omega : c ≤ 300) hK.1
            have e : tk0 B L p = (wo B p (rwn B isL (L - p) p) qm_str 0 0 true, 0, rwn B isL (L - p) p) := by unfold tk0; rw [if_neg (by omega), if_pos h1]
            generalize wo B p (rwn B isL (L - p) p) qm_str 0 0 true = W at cw e
            rw [e]
            exact ⟨_, rfl, ct_w (d + 2) hL hp' (by omega) hz hb hq (c_isLY (d + 1) x h1) cw⟩
          · by_cases h2 : isD (B p) = true
            · have cw := c_cutNumber d hB (by omega : p ≤ L) (by omega : c ≤ 300) hK.1
              have e : tk0 B L p = (40, nv B (L - p) p 0, rwn B isD (L - p) p) := by unfold tk0; rw [if_neg (by omega), if_neg h1, if_pos h2]
              rw [e]
              exact ⟨_, rfl, ct_d (d + 2) hL hp' (by omega) hz hb hq (c_isLN (d + 1) x hb h1) (c_isDY (d + 1) x h2) cw⟩
            · have cw := c_cutSign (d + 1) hB hp' h1 h2 (by omega : c ≤ 300) hK.1
              exact ⟨_, rfl, ct_g (d + 2) hL hp' (by omega) hz hb hq (c_isLN (d + 1) x hb h1) (c_isDN (d + 1) x hb h2) cw⟩
        obtain ⟨x1, hx1, e1⟩ := step
        have hK1 : KC B L (c + 1) x1 := by
          have := KC_kad hK
          unfold TKr VLr at this
          rw [← hs'] at this
          rw [hx1]
          exact this
        have F1 : KF x x1 := by rw [hx1]; exact KF_kad _ _ _ _ _
        have n41 : TKr B L c ≠ 41 := by
          unfold TKr
          rw [← hs']
          exact tk0_n hp' (fun j hj => (hB.2 j hj).2)
        obtain ⟨x', E, e, F, K, hE, t41, tn⟩ := ih (L - (tk0 B L p).2.2) (by omega) (tk0 B L p).2.2 (k + 1) (c + 1) x1 (qI (nI (B p))) rfl t3.2 (by omega) (by omega) (BY_KF F1 hB) hK1 (by
          show skp B L (tk0 B L p).2.2 = skp B L (tk0 B L (stt B L c)).2.2
          rw [← hs'])
        refine ⟨x', E, e1.trans e, KF_tr F1 F, K, hE, t41, fun i hi hci => ?_⟩
        by_cases ec : i = c
        · rw [ec]; exact n41
        · exact tn i hi (by omega)
    · have e : p = L := by omega
      subst e
      have hs' : p = stt B p c := (skp_n (fun h => absurd h hp')).symm.trans hs
      have hv : tk0 B p p = (41, 0, p) := by unfold tk0; rw [if_pos (Nat.le_refl _)]
      have ka := c_kadd (d + 2) (by omega : c ≤ 300) hK.1 41 0 p
      have hK1 := KC_kad hK
      have hT : TKr B p c = 41 := by unfold TKr; rw [← hs', hv]
      have hV : VLr B p c = 0 := by unfold VLr; rw [← hs', hv]
      rw [hT, hV, ← hs'] at hK1
      exact ⟨_, c, ct_e (d + 2) hL hk ka, KF_kad _ _ _ _ _, hK1, hc, hT, fun i h1 h2 => by omega⟩
theorem c_cut (d : Nat) {B : Nat → Nat} {L : Nat} {x : qm_Hp} (hB : BY B L x) : ∃ x' E, qm_evM (d + 3) jK_cut [qP 7 0, qP 52 0, qI (nI L)] x = some (none, x') ∧ KF x x' ∧ KC B L (E + 1) x' ∧ E ≤ L ∧ TKr B L E = 41 ∧ (∀ i, i < E → TKr B L i ≠ 41) := by
  have F0 : KF x (uI x 7 0 3 (nI 0)) := ⟨fun k i j a _ => by rw [zI_uI, if_neg (fun g => a g.1)], fun _ _ _ => rfl, fun _ _ _ => rfl⟩
  obtain ⟨x', E, e, F, K, h1, h2, h3⟩ := cut_l d L 0 0 0 (uI x 7 0 3 (nI 0)) qU (by omega) (Nat.zero_le _) (Nat.le_refl _) (Nat.le_refl _) (BY_KF F0 hB) ⟨rfl, fun i hi => absurd hi (Nat.not_lt_zero _)⟩ rfl
  refine ⟨x', E, ?_, KF_tr F0 F, K, h1, h2, fun i hi => h3 i hi (Nat.zero_le _)⟩
  simp (config := {maxSteps := 1000000}) (disch := first | omega | assumption | (simp only [qm_wid_n, qm_wid_I, qm_wid_L, qm_wid_P]; omega) | (simp only [qm_wid_n, qm_wid_I, qm_wid_L, qm_wid_P]; done) | fail) only [e_K_cut, b_K_cut_0, qy0, qy1, qy2, qy3, qe, qcn, qin, ↓reduceIte, Nat.reduceEqDiff, Nat.reduceLeDiff, Bool.false_eq_true, Nat.reduceAdd, Nat.reduceSub, Nat.reduceMul, Nat.reduceLT, or_self, or_false, false_or, or_true, true_or, and_self, and_true, true_and, and_false, false_and, not_true_eq_false, not_false_eq_true, e]
