/-! the reference's clause against pClause -/
theorem le_told {Tk Vl : Nat → Nat} {E lo hi i : Nat} (hE : Tk E = 41) (hi' : i ≤ E) : (told Tk Vl lo hi i).2.1 ≤ E := by
  unfold told
  by_cases q : Tk i = 40
  · rw [if_pos q]
    by_cases v : lo ≤ Vl i ∧ Vl i ≤ hi
    · rw [if_pos v]
      show i + 1 ≤ E
      by_cases k : i = E
      · rw [k, hE] at q; omega
      · omega
    · rw [if_neg v]; exact hi'
  · rw [if_neg q]; exact hi'
theorem le_want {Tk : Nat → Nat} {E c i : Nat} (hE : Tk E = 41) (hc : c ≠ 41) (hi' : i ≤ E) : (want Tk c i).2.1 ≤ E := by
  unfold want
  by_cases q : Tk i = c
  · rw [if_pos q]
    show i + 1 ≤ E
    by_cases k : i = E
    · rw [k, hE] at q; omega
    · omega
  · rw [if_neg q]; exact hi'
theorem le_sq {E : Nat} {r : PR} {g : Nat → PR} (h1 : r.2.1 ≤ E) (h2 : ∀ j, j ≤ E → (g j).2.1 ≤ E) : (sq r g).2.1 ≤ E := by
  by_cases q : r.1 = 0
  · have k := h2 _ h1
    unfold sq
    rw [bnd_0 q]
    by_cases q2 : (g r.2.1).1 = 0
    · rw [bnd_0 q2]; exact k
    · rw [bnd_n q2]; exact k
  · rw [sq_n q]; exact h1
theorem le_body {Tk Vl : Nat → Nat} {E a i : Nat} (hE : Tk E = 41) (hi : i ≤ E) : (pBody Tk Vl a i).2.1 ≤ E ∧ ((pBody Tk Vl a i).1 = 0 → a < 6 → (pBody Tk Vl a i).2.2.length + i ≤ (pBody Tk Vl a i).2.1) ∧ ((pBody Tk Vl a i).1 = 0 → i ≤ (pBody Tk Vl a i).2.1) := by
  unfold pBody
  by_cases q6 : a = 6
  · rw [if_pos q6]
    refine ⟨?_, fun _ h => by omega, fun h => ?_⟩
    · unfold pLay
      exact le_sq (le_sq (le_sq (le_sq (le_sq (le_sq (le_told hE hi) (fun j hj => le_want hE (by decide) hj)) (fun j hj => le_told hE hj)) (fun j hj => le_want hE (by decide) hj)) (fun j hj => le_told hE hj)) (fun j hj => le_want hE (by decide) hj)) (fun j hj => le_told hE hj)
    · obtain ⟨a', b, c, e', _, _, _, _, h5⟩ := pLay_0 h
      rw [h5]
      show i ≤ i + 7
      omega
  · rw [if_neg q6]
    have k : ∀ lv, lv ≤ 5 → (pp Tk Vl a 3020 0 lv 0 i).2.1 ≤ E ∧ ((pp Tk Vl a 3020 0 lv 0 i).1 = 0 → a < 6 → (pp Tk Vl a 3020 0 lv 0 i).2.2.length + i ≤ (pp Tk Vl a 3020 0 lv 0 i).2.1) ∧ ((pp Tk Vl a 3020 0 lv 0 i).1 = 0 → i ≤ (pp Tk Vl a 3020 0 lv 0 i).2.1) := fun lv hl => by
      have g := pp_good (Vl := Vl) (a := a) hE 3020 0 lv 0 i hi (by decide) hl (Or.inl rfl)
      refine ⟨?_, fun h _ => (g.2 h).2.1, fun h => (g.2 h).1.1⟩
      by_cases q : (pp Tk Vl a 3020 0 lv 0 i).1 = 0
      · exact (g.2 q).2.2.1
      · exact g.1 q
    by_cases q5 : a = 5
    · rw [if_pos q5]; exact k 0 (by decide)
    · rw [if_neg q5]; exact k 3 (by decide)
theorem CF_hcl {tx n a w w' : Nat} {x : qm_Hp} (hn : n < 20) : CF tx x (hcl x a (720 * tx + 1 + 5 * n) w w') := by
  unfold hcl
  by_cases q : a = 6
  · rw [if_pos q]; exact CF_refl _ _
  · rw [if_neg q]; exact CF_tr (CF_u 62 0 _ _ (by unfold CFp; omega)) (CF_u 62 0 _ _ (by unfold CFp; omega))
theorem hcl_9 (x : qm_Hp) (a c w w' k i j : Nat) (hk : k ≠ 62) : zI (hcl x a c w w') k i j = zI x k i j := by
  unfold hcl
  by_cases q : a = 6
  · rw [if_pos q]
  · rw [if_neg q, zI_uI, if_neg (fun g => hk g.1), zI_uI, if_neg (fun g => hk g.1)]
theorem hcl_L (x : qm_Hp) (a c w w' k i j : Nat) : zL (hcl x a c w w') k i j = zL x k i j := by
  unfold hcl
  by_cases q : a = 6
  · rw [if_pos q]
  · rw [if_neg q]; rfl
theorem CF_GB {B : Nat → Nat} {L tx n w a : Nat} {R : PR} {y x : qm_Hp} (hn : n < 20) (h : GB B L tx (720 * tx + 1 + 5 * n) w a R y x) : CF tx y x := ⟨fun k i j q => h.1.1 k i j (fun g => q (by unfold GFp at g; unfold CFp; omega)), h.1.2.1, h.1.2.2⟩
theorem TMU_eq {x x' : qm_Hp} {tx w : Nat} {τ : TX} (e : ∀ j, zI x' 62 0 j = zI x 62 0 j) (h : TMU x tx w τ) : TMU x' tx w τ := by
  refine ⟨(e _).trans h.1, fun k hk => ?_⟩
  obtain ⟨h1, h2, h3⟩ := h.2 k hk
  refine ⟨(e _).trans h1, fun q i hi => (e _).trans (h2 q i hi), fun q => ?_⟩
  obtain ⟨fm, a1, a2, a3, a4⟩ := h3 q
  exact ⟨fm, (e _).trans a1, (e _).trans a2, a3, cdM_eq e a4⟩
/-- a clause begun: up to its body -/
theorem cl_ent (d : Nat) {B : Nat → Nat} {L E tx i w m : Nat} {x : qm_Hp} {τ : TX} (ht : tx < 4) (h : MSI B L E tx x τ i w m) (hT : 17 ≤ TKr B L i ∧ TKr B L i ≤ 23) (h4 : ¬ (TKr B L i - 17 < 5 ∧ fnd τ (TKr B L i - 17) < τ.1)) : (20 ≤ τ.1 → qm_evM (d + 8) jM_clause [qP 9 0] x = some (some (qI (nI 6)), x)) ∧ (τ.1 < 20 → ∃ x1 m', qm_evM (d + 8) jM_clause [qP 9 0] x = qm_evB (d + 8) jM_clause 4 [qP 9 0, qI (nI (TKr B L i - 17)), qI (nI τ.1), qU, qU, qU] [] x1 ∧ (x1 = x ∨ x1 = uI x 9 0 22 (nI m')) ∧ zI x1 9 0 22 = nI m' ∧ ∀ out, ON m' (tad τ (TKr B L i - 17) out)) := by
  obtain ⟨hB, hR, h13, h15, h19, ⟨h22, hON⟩, hTU, hw, hi, hτ⟩ := h
  have hk : RK (TKr B L i) (VLr B L i) x := RTK_RK (fun j hj => (hB.2.2 j hj).2) hR
  have so := r_sortOf (d + 3) hk
  rw [if_pos hT] at so
  generalize ha : TKr B L i - 17 = a at *
  have hn := hTU.1
  by_cases q : a < 5
  · have hf : ¬ fnd τ a < τ.1 := fun g => h4 ⟨q, g⟩
    have tbf : m.testBit a = false := by
      cases hb : m.testBit a with
      | false => rfl
      | true => exact absurd ((hON.2 a q).mp hb) hf
    have e2 := cl_2l (d + 7) q so h22 (shb_n m hON.1 a q tbf)
    refine ⟨fun g => e2.trans (cl_6 (d + 8) ht h13 (by rw [hn, show τ.1 = 20 by omega])), fun g => ⟨uI x 9 0 22 (nI (m ||| 2 ^ a)), m ||| 2 ^ a, e2.trans ((cl_3 (d + 8) ht g h13 hn).trans (cl_3l (d + 8) q h22 (or_t m hON.1 a q))), Or.inr rfl, by rw [zI_uI, if_pos ⟨rfl, rfl, rfl⟩], fun out => ON_lo hON q out⟩⟩
  · have q' : 5 ≤ a ∧ a ≤ 6 := by omega
    have e2 := cl_2h (d + 7) q' so
    refine ⟨fun g => e2.trans (cl_6 (d + 8) ht h13 (by rw [hn, show τ.1 = 20 by omega])), fun g => ⟨x, m, e2.trans ((cl_3 (d + 8) ht g h13 hn).trans (cl_3h (d + 8) q')), Or.inl rfl, h22, fun out => ON_hi hON q'.1 out⟩⟩
theorem r_clause (d : Nat) {B : Nat → Nat} {L E tx i w m : Nat} {x : qm_Hp} {τ : TX} (hE : TKr B L E = 41) (hE3 : E ≤ 300) (ht : tx < 4) (h : MSI B L E tx x τ i w m) : ∃ x', qm_evM (d + 8) jM_clause [qP 9 0] x = some (some (qI (nI (pClause (TKr B L) (VLr B L) τ i).1)), x') ∧ CF tx x x' ∧ (pClause (TKr B L) (VLr B L) τ i).1 ≤ 9 ∧ ((pClause (TKr B L) (VLr B L) τ i).1 = 0 → ∃ w' m', MSI B L E tx x' (tad τ (TKr B L i - 17) (pClause (TKr B L) (VLr B L) τ i).2.2) (pClause (TKr B L) (VLr B L) τ i).2.1 w' m') ∧ ((pClause (TKr B L) (VLr B L) τ i).1 ≠ 0 → RTK B L (stt B L (pClause (TKr B L) (VLr B L) τ i).2.1) x') := by
  obtain ⟨hB, hR, h13, h15, h19, ⟨h22, hON⟩, hTU, hw, hi, hτ⟩ := id h
  have hk : RK (TKr B L i) (VLr B L i) x := RTK_RK (fun j hj => (hB.2.2 j hj).2) hR
  have so := r_sortOf (d + 3) hk
  unfold pClause
  by_cases q : 17 ≤ TKr B L i ∧ TKr B L i ≤ 23
  · rw [if_pos q]
    by_cases q4 : TKr B L i - 17 < 5 ∧ fnd τ (TKr B L i - 17) < τ.1
    · rw [if_pos q4]
      rw [if_pos q] at so
      exact ⟨x, cl_4 (d + 7) q4.1 so h22 (shb_y m hON.1 _ q4.1 ((hON.2 _ q4.1).mpr q4.2)), CF_refl _ _, by show (4 : Nat) ≤ 9; decide, fun g => absurd g (show ¬ (4 : Nat) = 0 by decide), fun _ => hR⟩
    · rw [if_neg q4]
      have ent := cl_ent d ht h q q4
      by_cases q6 : 20 ≤ τ.1
      · rw [if_pos q6]
        exact ⟨x, ent.1 q6, CF_refl _ _, by show (6 : Nat) ≤ 9; decide, fun g => absurd g (show ¬ (6 : Nat) = 0 by decide), fun _ => hR⟩
      · rw [if_neg q6]
        obtain ⟨x1, m', e1, hx1, g22, gON⟩ := ent.2 (by omega)
        have hn20 : τ.1 < 20 := by omega
        have hi1 : i + 1 ≤ E := by
          by_cases k : i = E
          · rw [k, hE] at q; omega
          · omega
        have ha6 : TKr B L i - 17 ≤ 6 := by omega
        clear ent so hk q4 q6 q
        generalize TKr B L i - 17 = a at *
        have C1 : CF tx x x1 := by
          rcases hx1 with g | g
          · rw [g]; exact CF_refl _ _
          · rw [g]; exact CF_u 9 0 22 _ (by unfold CFp; omega)
        have z1 : ∀ k j, ¬ (k = 9 ∧ j = 22) → zI x1 k 0 j = zI x k 0 j := fun k j g => by
          rcases hx1 with g1 | g1
          · rw [g1]
          · rw [g1, zI_uI, if_neg (by omega)]
        have C2 := CF_tr C1 (CF_u (tx := tx) 9 0 21 (nI a) (by unfold CFp; omega))
        obtain ⟨x2, nx, N2, R2⟩ := nx_R (d + 5) (i := i) (BYM_CF C2 hB) (by rw [zI_uI, if_neg (by omega), z1 9 8 (by omega)]; exact hR.2.1)
        have C3 := CF_tr C2 (CF_NF N2)
        have z2 : ∀ k j, ¬ (k = 9 ∧ 8 ≤ j ∧ j ≤ 11) → zI x2 k 0 j = zI (uI x1 9 0 21 (nI a)) k 0 j := fun k j g => N2.1 k 0 j (by unfold Sx; omega)
        have C4 := CF_tr C3 (CF_u (tx := tx) 62 0 (720 * tx + 1 + 5 * τ.1) (nI a) (by unfold CFp; omega))
        have zy : ∀ j, zI (uI x2 62 0 (720 * tx + 1 + 5 * τ.1) (nI a)) 9 0 j = zI x2 9 0 j := fun j => by rw [zI_uI, if_neg (by omega)]
        have k13 : zI x2 9 0 13 = nI (720 * tx) := by rw [z2 9 13 (by omega), zI_uI, if_neg (by omega), z1 9 13 (by omega)]; exact h13
        have k15 : zI x2 9 0 15 = nI w := by rw [z2 9 15 (by omega), zI_uI, if_neg (by omega), z1 9 15 (by omega)]; exact h15
        have k21 : zI x2 9 0 21 = nI a := by rw [z2 9 21 (by omega), zI_uI, if_pos ⟨rfl, rfl, rfl⟩]
        have k19 : zI x2 9 0 19 = nI 0 := by rw [z2 9 19 (by omega), zI_uI, if_neg (by omega), z1 9 19 (by omega)]; exact h19
        have k22 : zI x2 9 0 22 = nI m' := by rw [z2 9 22 (by omega), zI_uI, if_neg (by omega)]; exact g22
        obtain ⟨x5, eL, eP, G⟩ := r_body d (n := τ.1) (a := a) (i := i) (w := w) (BYM_CF C4 hB) hE hE3 hi1 (by omega) ht hn20 ha6 (RTK_eq (fun j _ _ => zy j) rfl R2) ((zy 13).trans k13) ((zy 21).trans k21) ((zy 15).trans k15) ((zy 19).trans k19)
        have lb := le_body (Vl := VLr B L) (a := a) hE hi1
        have e8 : qm_evB (d + 8) jM_clause 4 [qP 9 0, qI (nI a), qI (nI τ.1), qU, qU, qU] [] x1 = qm_evB (d + 8) jM_clause 8 [qP 9 0, qI (nI a), qI (nI τ.1), qI (nI (720 * tx + 1 + 5 * τ.1)), qI (nI w), qU] [qI (nI (pBody (TKr B L) (VLr B L) a (i + 1)).1)] x5 := by
          by_cases a6 : a = 6
          · subst a6
            exact cl_6a (d + 7) ht hn20 nx k13 k15 (eL rfl)
          · refine cl_5a (d + 7) ht hn20 ?_ nx k13 k15 (eP (by omega))
            by_cases a5 : a = 5
            · exact Or.inl ⟨a5, if_pos (decide_eq_true a5)⟩
            · exact Or.inr ⟨by omega, if_neg (by rw [decide_eq_false a5]; decide)⟩
        generalize pBody (TKr B L) (VLr B L) a (i + 1) = R at *
        have C5 := CF_tr C4 (CF_GB hn20 G)
        by_cases r0 : R.1 = 0
        · rw [r0] at e8
          obtain ⟨g15, g19, _, _⟩ := G.2.2.2 r0
          have TA := TMU_add hTU hn20 ha6 ht (by omega) (y := uI x2 62 0 (720 * tx + 1 + 5 * τ.1) (nI a)) (fun j hj => by rw [zI_uI, if_neg (by omega), z2 62 j (by omega), zI_uI, if_neg (by omega), z1 62 j (by omega)]) (by rw [zI_uI, if_pos ⟨rfl, rfl, rfl⟩]) G r0
          have hW : (if a = 6 then w else w + R.2.2.length) ≤ R.2.1 := by
            by_cases a6 : a = 6
            · rw [if_pos a6]; have := lb.2.2 r0; omega
            · rw [if_neg a6]; have := lb.2.1 r0 (by omega); omega
          generalize (if a = 6 then w else w + R.2.2.length) = W at *
          have ec := cl_8 (d + 8) (n := τ.1) (w := w) (w' := W) ha6 (show 720 * tx + 1 + 5 * τ.1 + 2 < 2880 by omega) g15
          have C6 := CF_tr C5 (CF_hcl (a := a) (w := w) (w' := W) hn20)
          have z9 : ∀ j, zI (hcl x5 a (720 * tx + 1 + 5 * τ.1) w W) 9 0 j = zI x5 9 0 j := fun j => hcl_9 x5 a _ w W 9 0 j (by decide)
          have y13 : zI (hcl x5 a (720 * tx + 1 + 5 * τ.1) w W) 9 0 13 = nI (720 * tx) := (C6.1 9 0 13 (by unfold CFp; omega)).trans h13
          have R6 : RTK B L (stt B L R.2.1) (hcl x5 a (720 * tx + 1 + 5 * τ.1) w W) := RTK_eq (fun j _ _ => z9 j) (hcl_L _ _ _ _ _ _ _ _) G.2.1
          obtain ⟨t, h10, ht62, _, h59, _⟩ := RTK_cm (BYM_CF C6 hB) R6
          have C7 := CF_tr C6 (CF_u (tx := tx) 62 0 (720 * tx) (nI (τ.1 + 1)) (by unfold CFp; omega))
          by_cases k : TKr B L R.2.1 = 56
          · have es : sq R (want (TKr B L) 56) = (0, R.2.1 + 1, R.2.2) := by
              unfold sq want
              rw [bnd_0 r0, if_pos k, bnd_0 rfl, List.append_nil]
            rw [es]
            have t59 := h59.mpr k
            subst t59
            have hj1 : R.2.1 + 1 ≤ E := by
              by_cases kk : R.2.1 = E
              · rw [kk, hE] at k; omega
              · have := lb.1; omega
            have zu : ∀ j, zI (uI (hcl x5 a (720 * tx + 1 + 5 * τ.1) w W) 62 0 (720 * tx) (nI (τ.1 + 1))) 9 0 j = zI x5 9 0 j := fun j => by rw [zI_uI, if_neg (by omega)]; exact z9 j
            obtain ⟨x8, nx8, N8, R8⟩ := nx_R (d + 5) (i := R.2.1) (BYM_CF C7 hB) ((zu 8).trans G.2.1.2.1)
            have z8 : ∀ k j, ¬ (k = 9 ∧ 8 ≤ j ∧ j ≤ 11) → zI x8 k 0 j = zI (uI (hcl x5 a (720 * tx + 1 + 5 * τ.1) w W) 62 0 (720 * tx) (nI (τ.1 + 1))) k 0 j := fun k j g => N8.1 k 0 j (by unfold Sx; omega)
            have C8 := CF_tr C7 (CF_NF N8)
            refine ⟨x8, (e1.trans e8).trans (ec.trans (cl_10y (d + 7) ht y13 TA.1 h10 nx8)), C8, by show (0 : Nat) ≤ 9; decide, fun _ => ⟨W, m', BYM_CF C8 hB, R8, (C8.1 9 0 13 (by unfold CFp; omega)).trans h13, ?_, ?_, ⟨?_, gON _⟩, TMU_eq (fun j => z8 62 j (by omega)) TA.2, by show W ≤ R.2.1 + 1; omega, hj1, by show τ.1 + 1 ≤ 20; omega⟩, fun g => absurd rfl g⟩
            · rw [z8 9 15 (by omega), zu]; exact g15
            · rw [z8 9 19 (by omega), zu]; exact g19
            · rw [z8 9 22 (by omega), zu, G.1.1 9 0 22 (by unfold GFp; omega), zy]; exact k22
          · have es : sq R (want (TKr B L) 56) = (1, R.2.1, []) := by
              unfold sq want
              rw [bnd_0 r0, if_neg k]
              exact bnd_n (show ¬ (1 : Nat) = 0 by decide)
            rw [es]
            refine ⟨_, (e1.trans e8).trans (ec.trans (cl_10n (d + 8) ht y13 TA.1 h10 ⟨ht62, fun g => k (h59.mp g)⟩)), C7, by show (1 : Nat) ≤ 9; decide, fun g => absurd g (show ¬ (1 : Nat) = 0 by decide), fun _ => RTK_eq (fun j _ _ => by rw [zI_uI, if_neg (by omega)]) rfl R6⟩
        · rw [sq_n r0]
          exact ⟨x5, (e1.trans e8).trans (cl_8f (d + 8) ⟨by omega, G.2.2.1⟩), C5, G.2.2.1, fun g => absurd g r0, fun _ => G.2.1⟩
  · rw [if_neg q]
    rw [if_neg q] at so
    exact ⟨x, cl_1 (d + 7) so, CF_refl _ _, by show (1 : Nat) ≤ 9; decide, fun g => absurd g (show ¬ (1 : Nat) = 0 by decide), fun _ => hR⟩
