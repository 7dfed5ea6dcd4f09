/-! the pile of deeds against pp: one, ask, levels -/
theorem h9_b {r r' : PR} {k : Nat → List (Nat × Nat) → PR} (hr : r = bnd r' k) (h9 : r.1 ≠ 9) : r'.1 ≠ 9 := fun g => by
  have q : ¬ r'.1 = 0 := by omega
  rw [bnd_n q] at hr
  rw [hr] at h9
  exact h9 g
theorem hf_b {r r' : PR} {k : Nat → List (Nat × Nat) → PR} {F : Nat → Nat → Prop} (hr : r = bnd r' k) (hf : r.1 ≠ 0 → F r.1 r.2.1) (q : r'.1 ≠ 0) : F r'.1 r'.2.1 := by
  rw [bnd_n q] at hr
  rw [hr] at hf
  exact hf q
theorem BD_em {w0 E i : Nat} {pl : List Nat} {out : List (Nat × Nat)} (h : BD w0 E i pl out) (hi : i + 1 ≤ E) (x : Nat × Nat) : BD w0 E (i + 1) pl (out ++ [x]) := by
  refine ⟨h.1, h.2.1, ?_, hi, h.2.2.2.2⟩
  have := h.2.2.1
  rw [List.length_append]
  show w0 + (out.length + 1) + pl.length ≤ i + 1
  omega
theorem BD_dr {w0 E j : Nat} {pd rest : List Nat} {out1 z : List (Nat × Nat)} (h : BD w0 E j (pd ++ rest) out1) (e : out1 ++ em pd = z) : BD w0 E j rest z := by
  obtain ⟨h1, h2, h3, h4, h5⟩ := h
  have el := congrArg List.length e
  rw [List.length_append, em_len] at el
  rw [List.length_append] at h1 h3
  rw [oc_app] at h2
  exact ⟨by omega, by omega, by omega, h4, fun c hc => h5 c (List.mem_append_right _ hc)⟩
theorem SC_m {Tk : Nat → Nat} {e : Bool} {j m : Nat} {pd rest : List Nat} (hm : 40 ≤ m) (hp : ∀ c, c ∈ pd → c < 40) (hF : FN 3 (Tk j)) (h1 : Tk j = 54 → m ≠ 40 ∧ m < 43) (h2 : Tk j = 55 → m ≠ 41 ∧ m ≠ 42) : SC Tk e j (pd ++ m :: rest) ∧ mkd (pd ++ m :: rest) ≠ 0 := by
  have em := mkd_app hm rest pd hp
  refine ⟨⟨⟨hF 3 (by decide) (by decide), hF 4 (by decide) (by decide)⟩, ?_, ?_, ?_, ?_⟩, by omega⟩
  · intro _ g; omega
  · intro _ g; omega
  · intro g; have := h1 g; omega
  · intro g; have := h2 g; omega
theorem rk_m {m : Nat} (h : 40 ≤ m) : rk m = 0 := if_pos h
theorem aa_m {e : Bool} {m : Nat} {pl : List Nat} (h : 40 ≤ m) : ¬ AA e (m :: pl) := aa_o (by rw [rk_m h]; omega)
theorem OB_m {e : Bool} {m : Nat} {pl : List Nat} (h : 40 ≤ m) (hl : pl.length ≤ 3 * oc pl + 5) : OB e 3 (m :: pl) := by
  refine ⟨fun g => absurd g (by decide), fun c p g => ?_, ?_⟩
  · injection g with g1 g2
    rw [← g1, rk_m h]
    decide
  · rw [oc_o (Or.inr (Or.inr h)), List.length_cons]
    omega
theorem xt_mm {t : Nat} (h : t = 24 ∨ t = 25) : xt (t + 17 + 2) = [(opt t, 0)] := by
  rcases h with h | h <;> subst h <;> decide
theorem op_5 {Tk Vl : Nat → Nat} {a E w0 : Nat} {e : Bool} {Q : QQ} {F : Nat → Nat → Prop} {Z : Nat → List (Nat × Nat) → Prop} (hE : Tk E = 41) (R1 : RU1 Tk Vl a E w0 Q F) (R2 : RU2 Tk E w0 e Q F) (R3 : RU3 Tk E w0 e Q F Z) {n : Nat} (h5 : S5 Tk Vl a E w0 e Q F n) (h3 : SA Tk Vl a E w0 e Q F n 3) : S5 Tk Vl a E w0 e Q F (n + 1) := by
  have nE : ∀ i, i ≤ E → Tk i ≠ 41 → i + 1 ≤ E := fun i h1 h2 => by
    by_cases q : i = E
    · exact absurd (by rw [q]; exact hE) h2
    · omega
  obtain ⟨r1, r2, r3, r4⟩ := R1
  obtain ⟨o1, o2, o3, o4, o5, o6⟩ := R2
  obtain ⟨b1, b2, b3, b4, b5⟩ := R3
  intro i pl out r hr hB h26 hl h9 hok hf
  have hi := hB.2.2.2.1
  have ho := hB.2.1
  unfold pp at hr
  rw [if_neg (by decide), if_neg (by decide), if_pos (by decide)] at hr
  unfold pOne at hr
  by_cases t40 : Tk i = 40
  · rw [if_pos t40] at hr
    have hi1 := nE i hi (by omega)
    by_cases hv : Vl i ≤ 9999
    · rw [if_pos hv] at hr
      subst hr
      exact r1 i pl out hB t40 hv (hok rfl (BD_sett (BD_em hB hi1 _)))
    · rw [if_neg hv] at hr
      subst hr
      exact r2 i pl out hB t40 hv (hf (show (2 : Nat) ≠ 0 by decide))
  · rw [if_neg t40] at hr
    by_cases t17 : Tk i < 17
    · rw [if_pos t17] at hr
      have hi1 := nE i hi (by omega)
      by_cases hn : nmb a (Tk i) = true
      · rw [if_pos hn] at hr
        subst hr
        exact r3 i pl out hB t17 hn (hok rfl (BD_sett (BD_em hB hi1 _)))
      · rw [if_neg hn] at hr
        subst hr
        exact r4 i pl out hB t17 hn (hf (show (5 : Nat) ≠ 0 by decide))
    · rw [if_neg t17] at hr
      by_cases tmm : Tk i = 24 ∨ Tk i = 25
      · rw [if_pos tmm] at hr
        have hi1 := nE i hi (by omega)
        by_cases t53 : Tk (i + 1) = 53
        · rw [if_pos t53] at hr
          have hi2 := nE (i + 1) hi1 (by omega)
          by_cases ho8 : 8 ≤ oc pl
          · rw [if_pos ho8] at hr
            subst hr
            exact o4 i pl out hB tmm t53 (by omega) (hf (show (3 : Nat) ≠ 0 by decide))
          · rw [if_neg ho8] at hr
            refine o5 i pl out hB tmm t53 (by omega) ?_
            have hm : 40 ≤ Tk i + 17 := by omega
            have eo : oc ((Tk i + 17) :: pl) = oc pl + 1 := oc_o (Or.inr (Or.inr hm)) pl
            have eo2 : oc ((Tk i + 17 + 2) :: pl) = oc pl + 1 := oc_o (Or.inr (Or.inr (by omega))) pl
            have BDm : BD w0 E (i + 2) ((Tk i + 17) :: pl) out := BD_i (BD_psh hB hi1 (by omega) (by omega) (by omega)) (by omega) hi2
            rw [← eo] at hr
            generalize hg : pp Tk Vl a n 0 3 (oc ((Tk i + 17) :: pl)) (i + 2) = r' at hr
            refine h3 (i + 2) _ out r' hg.symm BDm (OB_m hm hl) (fun _ _ => aa_m hm) (h9_b hr h9) (fun q pd out1 hP he hb hF => ?_) (fun q => hf_b hr hf q)
            have hp : ∀ c, c ∈ pd → c < 40 := fun c hc => (hP.1 c hc).2.1
            have hj := hb.2.2.2.1
            rw [bnd_0 q] at hr
            by_cases t55 : Tk r'.2.1 = 55
            · rw [if_pos t55] at hr
              have hj1 := nE _ hj (by omega)
              refine b3 _ pd _ pl out1 hb t55 hp (by omega) ?_
              rw [he]
              have bc := BD_cl hb he hj1
              have BD2 : BD w0 E (r'.2.1 + 1) ((Tk i + 17 + 2) :: pl) (out ++ r'.2.2) := BD_psh bc.2 hj1 (by omega) (by omega) (by omega)
              rw [eo, ← eo2] at hr
              generalize hg2 : pp Tk Vl a n 0 3 (oc ((Tk i + 17 + 2) :: pl)) (r'.2.1 + 1) = r'' at hr
              refine h3 (r'.2.1 + 1) _ (out ++ r'.2.2) r'' hg2.symm BD2 (OB_m (by omega) hl) (fun _ _ => aa_m (by omega)) (h9_b hr h9) (fun q2 pd2 out2 hP2 he2 hb2 hF2 => ?_) (fun q2 => hf_b hr hf q2)
              have hp2 : ∀ c, c ∈ pd2 → c < 40 := fun c hc => (hP2.1 c hc).2.1
              have hk := hb2.2.2.2.1
              rw [bnd_0 q2] at hr
              by_cases t54 : Tk r''.2.1 = 54
              · rw [if_pos t54] at hr
                have hk1 := nE _ hk (by omega)
                refine b2 _ pd2 _ pl out2 hb2 t54 hp2 (by omega) ?_
                have ex : out2 ++ em pd2 ++ xt (Tk i + 17 + 2) = out ++ (r'.2.2 ++ (r''.2.2 ++ [(opt (Tk i), 0)])) := by
                  rw [he2, xt_mm tmm, List.append_assoc, List.append_assoc]
                rw [ex]
                subst hr
                refine hok rfl (BD_sett ?_)
                have := BD_em (BD_cl hb2 he2 hk1).2 hk1 (opt (Tk i), 0)
                rw [List.append_assoc, List.append_assoc] at this
                exact this
              · rw [if_neg t54] at hr
                subst hr
                have sc := SC_m (e := e) (rest := pl) (show 40 ≤ Tk i + 17 + 2 by omega) hp2 hF2 (fun g => absurd g t54) (fun _ => by omega)
                exact b4 _ _ out2 hb2 sc.1 (Or.inl sc.2) (hf (show (1 : Nat) ≠ 0 by decide))
            · rw [if_neg t55] at hr
              subst hr
              have sc := SC_m (e := e) (rest := pl) hm hp hF (fun _ => by omega) (fun g => absurd g t55)
              exact b4 _ _ out1 hb sc.1 (Or.inl sc.2) (hf (show (1 : Nat) ≠ 0 by decide))
        · rw [if_neg t53] at hr
          subst hr
          exact o3 i pl out hB tmm t53 (hf (show (1 : Nat) ≠ 0 by decide))
      · rw [if_neg tmm] at hr
        by_cases t53 : Tk i = 53
        · rw [if_pos t53] at hr
          have hi1 := nE i hi (by omega)
          by_cases ho8 : 8 ≤ oc pl
          · rw [if_pos ho8] at hr
            subst hr
            exact o2 i pl out 40 hB (Or.inl ⟨t53, rfl⟩) (by omega) (hf (show (3 : Nat) ≠ 0 by decide))
          · rw [if_neg ho8] at hr
            refine o1 i pl out 40 hB (Or.inl ⟨t53, rfl⟩) (by omega) ?_
            have hm : 40 ≤ 40 := Nat.le_refl _
            have eo : oc (40 :: pl) = oc pl + 1 := oc_o (Or.inr (Or.inr hm)) pl
            have BDm : BD w0 E (i + 1) (40 :: pl) out := BD_psh hB hi1 (by omega) (by omega) (by omega)
            rw [← eo] at hr
            generalize hg : pp Tk Vl a n 0 3 (oc (40 :: pl)) (i + 1) = r' at hr
            refine h3 (i + 1) _ out r' hg.symm BDm (OB_m hm hl) (fun _ _ => aa_m hm) (h9_b hr h9) (fun q pd out1 hP he hb hF => ?_) (fun q => hf_b hr hf q)
            have hp : ∀ c, c ∈ pd → c < 40 := fun c hc => (hP.1 c hc).2.1
            have hj := hb.2.2.2.1
            rw [bnd_0 q] at hr
            by_cases t54 : Tk r'.2.1 = 54
            · rw [if_pos t54] at hr
              have hj1 := nE _ hj (by omega)
              refine b2 _ pd _ pl out1 hb t54 hp (Or.inl rfl) ?_
              have ex : out1 ++ em pd ++ xt 40 = out ++ r'.2.2 := by rw [he]; exact List.append_nil _
              rw [ex]
              subst hr
              exact hok rfl (BD_sett (BD_cl hb he hj1).1)
            · rw [if_neg t54] at hr
              subst hr
              have sc := SC_m (e := e) (rest := pl) hm hp hF (fun g => absurd g t54) (fun _ => by decide)
              exact b4 _ _ out1 hb sc.1 (Or.inl sc.2) (hf (show (1 : Nat) ≠ 0 by decide))
        · rw [if_neg t53] at hr
          by_cases t50 : Tk i = 50
          · rw [if_pos t50] at hr
            have hi1 := nE i hi (by omega)
            by_cases ho8 : 8 ≤ oc pl
            · rw [if_pos ho8] at hr
              subst hr
              exact o2 i pl out 2 hB (Or.inr (Or.inl ⟨t50, rfl⟩)) (by omega) (hf (show (3 : Nat) ≠ 0 by decide))
            · rw [if_neg ho8] at hr
              refine o1 i pl out 2 hB (Or.inr (Or.inl ⟨t50, rfl⟩)) (by omega) ?_
              have eo : oc (2 :: pl) = oc pl + 1 := oc_o (Or.inl rfl) pl
              have BDm : BD w0 E (i + 1) (2 :: pl) out := BD_psh hB hi1 (by omega) (by omega) (by omega)
              rw [← eo] at hr
              generalize hg : pp Tk Vl a n 0 5 (oc (2 :: pl)) (i + 1) = r' at hr
              refine h5 (i + 1) _ out r' hg.symm BDm (fun _ => aa_o (by decide)) (by rw [eo, List.length_cons]; omega) (h9_b hr h9) (fun q hb => ?_) (fun q => hf_b hr hf q)
              rw [bnd_0 q] at hr
              have es : sett 7 (2 :: pl) (out ++ r'.2.2) = sett 7 pl (out ++ (r'.2.2 ++ [(2, 0)])) := by
                rw [← List.append_assoc]
                exact if_pos (by decide)
              rw [es] at hb ⊢
              subst hr
              exact hok rfl hb
          · rw [if_neg t50] at hr
            subst hr
            exact o6 i pl out hB t40 t17 tmm t53 t50 h26 (hf (show (1 : Nat) ≠ 0 by decide))
