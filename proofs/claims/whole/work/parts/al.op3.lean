/-! the pile of deeds against pp: asks and levels -/
theorem rk_1 : ∀ c, c < 40 → 1 ≤ rk c := by decide +kernel
theorem rk_ask : ∀ c, c < 16 → 10 ≤ c → rk c = 4 := by decide +kernel
theorem lvl_2 (t : Nat) : lvl t ≠ 2 := by
  unfold lvl
  by_cases h1 : t = 28
  · rw [if_pos h1]; decide
  · rw [if_neg h1]
    by_cases h2 : t = 27
    · rw [if_pos h2]; decide
    · rw [if_neg h2]
      by_cases h3 : t = 49 ∨ t = 50
      · rw [if_pos h3]; decide
      · rw [if_neg h3]
        by_cases h4 : t = 51 ∨ t = 52
        · rw [if_pos h4]; decide
        · rw [if_neg h4]; decide
theorem opt_l {t l : Nat} (h : lvl t = l) (hl : l ≤ 1 ∨ l = 3 ∨ l = 4) : rk (opt t) = rl l ∧ opt t < 40 ∧ ¬ (opt t = 2 ∨ opt t = 20 ∨ 40 ≤ opt t) := by
  unfold lvl at h
  by_cases h1 : t = 28
  · rw [if_pos h1] at h; subst h1; subst h; decide
  · rw [if_neg h1] at h
    by_cases h2 : t = 27
    · rw [if_pos h2] at h; subst h2; subst h; decide
    · rw [if_neg h2] at h
      by_cases h3 : t = 49 ∨ t = 50
      · rw [if_pos h3] at h; subst h; rcases h3 with h3 | h3 <;> subst h3 <;> decide
      · rw [if_neg h3] at h
        by_cases h4 : t = 51 ∨ t = 52
        · rw [if_pos h4] at h; subst h; rcases h4 with h4 | h4 <;> subst h4 <;> decide
        · rw [if_neg h4] at h; omega
theorem tp_up {l : Nat} (h : l ≤ 4) : tp l ≤ tp (l + 1) ∧ rl l ≤ rl (l + 1) := by
  rcases (by omega : l = 0 ∨ l = 1 ∨ l = 2 ∨ l = 3 ∨ l = 4) with g | g | g | g | g <;> subst g <;> decide
theorem rl_tp {l : Nat} (h : l ≤ 1 ∨ l = 3 ∨ l = 4) : rl l = tp l ∧ rl l < tp (l + 1) := by
  rcases (by omega : l = 0 ∨ l = 1 ∨ l = 3 ∨ l = 4) with g | g | g | g <;> subst g <;> decide
theorem mkd_c {c : Nat} (h : c < 40) (p : List Nat) : mkd (c :: p) = mkd p := if_neg (by omega)
theorem sn (pd : List Nat) (c : Nat) (old : List Nat) : pd ++ [c] ++ old = pd ++ c :: old := by rw [List.append_assoc]; rfl
theorem eo_s {c : Nat} (h : ¬ (c = 2 ∨ c = 20 ∨ 40 ≤ c)) : oc [c] = 0 := oc_n h []
theorem PE_sn {l l' c : Nat} {pd : List Nat} (h : PE l' pd) (hl : l' = l + 1) (h4 : l ≤ 4) (hn : l ≠ 2) (hc : rl l ≤ rk c ∧ c < 40 ∧ ¬ (c = 2 ∨ c = 20 ∨ 40 ≤ c)) : PE l (pd ++ [c]) := by
  subst hl
  refine ⟨fun d hd => ?_, ?_, fun g => cpd_app _ _ (h.2.2 (by omega))⟩
  · rcases List.mem_append.mp hd with g | g
    · have := h.1 d g
      have := (tp_up h4).2
      omega
    · rw [List.mem_singleton.mp g]
      omega
  · have := h.2.1
    rw [List.length_append, oc_app]
    show pd.length + 1 + l ≤ 5 + (oc pd + (oc [] + _))
    omega
theorem op_2 {Tk Vl : Nat → Nat} {a E w0 : Nat} {e : Bool} {Q : QQ} {F : Nat → Nat → Prop} {Z : Nat → List (Nat × Nat) → Prop} (hE : Tk E = 41) (R2 : RU2 Tk E w0 e Q F) (R3 : RU3 Tk E w0 e Q F Z) {n : Nat} (h2 : SA Tk Vl a E w0 e Q F n 2) (h3 : SA Tk Vl a E w0 e Q F n 3) : SA Tk Vl a E w0 e Q F (n + 1) 2 := by
  have nE : ∀ i, i ≤ E → Tk i ≠ 41 → i + 1 ≤ E := fun i h1 h2 => by
    by_cases q : i = E
    · exact absurd (by rw [q]; exact hE) h2
    · omega
  obtain ⟨o1, o2, o3, o4, o5, o6⟩ := R2
  obtain ⟨b1, b2, b3, b4, b5⟩ := R3
  intro i old out r hr hB hO h26 h9 hok hf
  have hi := hB.2.2.2.1
  have ho := hB.2.1
  obtain ⟨he, hm⟩ := hO.1 (by decide)
  have hl := hO.2.2
  have hT : ∀ c p, old = c :: p → rk c < 4 := hO.2.1
  unfold pp at hr
  rw [if_neg (by decide), if_pos rfl] at hr
  unfold pAsk at hr
  by_cases t26 : Tk i = 26
  · rw [if_pos t26] at hr
    have hi1 := nE i hi (by omega)
    have aa : AA e old := ⟨he, hm, fun c p g => by
      have h1 := hT c p g
      rw [g] at hm
      by_cases k : 40 ≤ c
      · have : mkd (c :: p) = c := if_pos k
        omega
      · have := rk_1 c (by omega)
        omega⟩
    by_cases ho8 : 8 ≤ oc old
    · rw [if_pos ho8] at hr
      subst hr
      exact o2 i old out 20 hB (Or.inr (Or.inr ⟨t26, aa, rfl⟩)) (by omega) (hf (show (3 : Nat) ≠ 0 by decide))
    · rw [if_neg ho8] at hr
      refine o1 i old out 20 hB (Or.inr (Or.inr ⟨t26, aa, rfl⟩)) (by omega) ?_
      have eo : oc (20 :: old) = oc old + 1 := oc_o (Or.inr (Or.inl rfl)) old
      have BDm : BD w0 E (i + 1) (20 :: old) out := BD_psh hB hi1 (by decide) (by omega) (by omega)
      have OBm : OB e 2 (20 :: old) := ⟨fun _ => ⟨he, by rw [mkd_c (by decide)]; exact hm⟩, fun c p g => by injection g with g1 g2; rw [← g1]; decide, by rw [eo, List.length_cons]; omega⟩
      rw [← eo] at hr
      generalize hg : pp Tk Vl a n 0 2 (oc (20 :: old)) (i + 1) = r' at hr
      refine h2 (i + 1) _ out r' hg.symm BDm OBm (fun g => absurd g (by decide)) (h9_b hr h9) (fun q pd out1 hP he1 hb hF => ?_) (fun q => hf_b hr hf q)
      rw [bnd_0 q] at hr
      subst hr
      rw [← sn] at hb ⊢
      refine hok rfl (pd ++ [20]) out1 ⟨fun d hd => ?_, ?_, fun g => cpd_app _ _ (hP.2.2 g)⟩ ?_ hb hF
      · rcases List.mem_append.mp hd with g | g
        · exact hP.1 d g
        · rw [List.mem_singleton.mp g]; decide
      · have := hP.2.1
        rw [List.length_append, oc_app]
        show pd.length + 1 + 2 ≤ 5 + (oc pd + 1)
        omega
      · rw [em_app, ← List.append_assoc, he1, List.append_assoc]
        rfl
  · rw [if_neg t26] at hr
    generalize hg : pp Tk Vl a n 0 3 (oc old) i = r' at hr
    refine h3 i old out r' hg.symm hB ⟨fun g => absurd g (by decide), fun c p g => Nat.lt_trans (hT c p g) (by decide), by omega⟩ (fun _ g => absurd g t26) (h9_b hr h9) (fun q pd out1 hP he1 hb hF => ?_) (fun q => hf_b hr hf q)
    have hp : ∀ c, c ∈ pd → c < 40 := fun c hc => (hP.1 c hc).2.1
    have hp5 : ∀ c, c ∈ pd → 5 ≤ rk c := fun c hc => (hP.1 c hc).1
    have hj := hb.2.2.2.1
    have em0 : mkd (pd ++ old) = 0 := by rw [mkd_no old pd hp]; exact hm
    have ec : cpd (pd ++ old) = false := by rw [cpd_hi old pd hp5]; exact cpd_lo hT
    rw [bnd_0 q] at hr
    by_cases tc : 43 ≤ Tk r'.2.1 ∧ Tk r'.2.1 ≤ 48
    · rw [if_pos tc] at hr
      have hj1 := nE _ hj (by omega)
      have oa := opt_ask tc
      have er : rk (opt (Tk r'.2.1)) = 4 := rk_ask _ (by omega) oa.1
      refine b1 _ _ out1 hb (Or.inr (Or.inl ⟨he, em0, ec, tc⟩)) ?_
      rw [er, sett_app hT pd out1 (fun c hc => by have := hp5 c hc; omega), he1]
      have bd := BD_dr hb he1
      generalize ht : opt (Tk r'.2.1) = t at *
      have no : ¬ (t = 2 ∨ t = 20 ∨ 40 ≤ t) := by omega
      have eo : oc (t :: old) = oc old := oc_n no old
      have BD2 : BD w0 E (r'.2.1 + 1) (t :: old) (out ++ r'.2.2) := BD_psh bd hj1 (by omega) (by omega) (by omega)
      rw [← eo] at hr
      generalize hg2 : pp Tk Vl a n 0 3 (oc (t :: old)) (r'.2.1 + 1) = r'' at hr
      refine h3 (r'.2.1 + 1) (t :: old) (out ++ r'.2.2) r'' hg2.symm BD2 ⟨fun g => absurd g (by decide), fun c p g => by injection g with g1 g2; rw [← g1, er]; decide, by rw [eo, List.length_cons]; omega⟩ (fun _ _ => aa_o (by omega)) (h9_b hr h9) (fun q2 pd2 out2 hP2 he2 hb2 hF2 => ?_) (fun q2 => hf_b hr hf q2)
      rw [bnd_0 q2] at hr
      subst hr
      rw [← sn] at hb2 ⊢
      refine hok rfl (pd2 ++ [t]) out2 ⟨fun d hd => ?_, ?_, fun _ => ?_⟩ ?_ hb2 (fun m h1 h2 => ?_)
      · rcases List.mem_append.mp hd with g | g
        · have := hP2.1 d g
          have h5 : rl 3 = 5 := rfl
          have h6 : rl 2 = 3 := rfl
          omega
        · rw [List.mem_singleton.mp g, er]
          have h6 : rl 2 = 3 := rfl
          omega
      · have := hP2.2.1
        rw [List.length_append, oc_app, eo_s no]
        show pd2.length + 1 + 2 ≤ 5 + (oc pd2 + 0)
        omega
      · rw [cpd_hi _ _ (fun c hc => (hP2.1 c hc).1)]
        show (if 4 < rk t then cpd [] else decide (rk t = 4)) = true
        rw [er]
        rfl
      · rw [em_app, ← List.append_assoc, he2, List.append_assoc, List.append_assoc]
        rfl
      · by_cases k : m = 2
        · rw [k]; exact lvl_2 _
        · exact hF2 m (by omega) h2
    · rw [if_neg tc] at hr
      subst hr
      exact b4 _ _ out1 hb ⟨⟨hF 3 (by decide) (by decide), hF 4 (by decide) (by decide)⟩, fun _ _ _ => tc, fun _ _ g => absurd (ec.symm.trans g) (by decide), fun _ => by omega, fun _ => by omega⟩ (Or.inr ⟨he, ec⟩) (hf (show (1 : Nat) ≠ 0 by decide))
theorem op_l {Tk Vl : Nat → Nat} {a E w0 : Nat} {e : Bool} {Q : QQ} {F : Nat → Nat → Prop} {n l : Nat} (hl : l ≤ 1 ∨ l = 3 ∨ l = 4) (hS : SA Tk Vl a E w0 e Q F n (l + 1)) (hT : ST Tk Vl a E w0 e Q F n l) : SA Tk Vl a E w0 e Q F (n + 1) l := by
  intro i old out r hr hB hO h26 h9 hok hf
  unfold pp at hr
  rw [if_neg (by decide), if_neg (show ¬ l = 2 by omega), if_neg (show ¬ 5 ≤ l by omega)] at hr
  generalize hg : pp Tk Vl a n 0 (l + 1) (oc old) i = r' at hr
  have up := tp_up (show l ≤ 4 by omega)
  refine hS i old out r' hg.symm hB ⟨fun g => hO.1 (by omega), fun c p g => Nat.lt_of_lt_of_le (hO.2.1 c p g) up.1, by have := hO.2.2; omega⟩ (fun g => h26 (by omega)) (h9_b hr h9) (fun q pd out1 hP he1 hb hF => ?_) (fun q => hf_b hr hf q)
  rw [bnd_0 q] at hr
  generalize hg2 : pp Tk Vl a n 1 l (oc old) r'.2.1 = r'' at hr
  refine hT r'.2.1 pd old out1 r'' hg2.symm hb hO ⟨fun c hc => ⟨Nat.le_trans up.2 (hP.1 c hc).1, (hP.1 c hc).2⟩, by have := hP.2.1; omega, fun g => hP.2.2 (by omega)⟩ hF (h9_b hr h9) (fun q2 pd2 out2 hP2 he2 hb2 hF2 => ?_) (fun q2 => hf_b hr hf q2)
  rw [bnd_0 q2] at hr
  subst hr
  refine hok rfl pd2 out2 hP2 ?_ hb2 hF2
  rw [he2, he1, List.append_assoc]
theorem op_t {Tk Vl : Nat → Nat} {a E w0 : Nat} {e : Bool} {Q : QQ} {F : Nat → Nat → Prop} {Z : Nat → List (Nat × Nat) → Prop} (hE : Tk E = 41) (R3 : RU3 Tk E w0 e Q F Z) {n l : Nat} (hl : l ≤ 1 ∨ l = 3 ∨ l = 4) (hS : SA Tk Vl a E w0 e Q F n (l + 1)) (hT : ST Tk Vl a E w0 e Q F n l) : ST Tk Vl a E w0 e Q F (n + 1) l := by
  intro i pd old out r hr hB hO hP hF h9 hok hf
  have hi := hB.2.2.2.1
  unfold pp at hr
  rw [if_pos rfl] at hr
  by_cases hv : lvl (Tk i) = l
  · rw [if_pos hv] at hr
    have hi1 : i + 1 ≤ E := by
      by_cases q : i = E
      · rw [q, hE, lvl_e] at hv; omega
      · omega
    obtain ⟨or1, or2, or3⟩ := opt_l hv hl
    have rt := rl_tp hl
    obtain ⟨b1, b2, b3, b4, b5⟩ := R3
    have hp : ∀ c, c ∈ pd → c < 40 := fun c hc => (hP.1 c hc).2.1
    have bt : BT Tk e i (pd ++ old) := by
      by_cases k : l ≤ 2
      · obtain ⟨h1, h2⟩ := hO.1 k
        exact Or.inr (Or.inr ⟨h1, by rw [mkd_no old pd hp]; exact h2, cpd_app _ _ (hP.2.2 k), by omega⟩)
      · exact Or.inl (by omega)
    refine b1 i _ out hB bt ?_
    rw [or1, sett_app (fun c p g => by have := hO.2.1 c p g; omega) pd out (fun c hc => (hP.1 c hc).1)]
    have bd := BD_dr hB rfl
    have hol := hO.2.2
    have hoc := bd.2.1
    generalize ht : opt (Tk i) = t at *
    have eo : oc (t :: old) = oc old := oc_n or3 old
    have BD2 : BD w0 E (i + 1) (t :: old) (out ++ em pd) := BD_psh bd hi1 (by omega) (by omega) (by omega)
    rw [← eo] at hr
    generalize hg : pp Tk Vl a n 0 (l + 1) (oc (t :: old)) (i + 1) = r' at hr
    refine hS (i + 1) (t :: old) (out ++ em pd) r' hg.symm BD2 ⟨fun g => ?_, fun c p g => by injection g with g1 g2; rw [← g1, or1]; exact rt.2, by rw [eo, List.length_cons]; omega⟩ (fun g _ => aa_o ?_) (h9_b hr h9) (fun q pd1 out1 hP1 he1 hb1 hF1 => ?_) (fun q => hf_b hr hf q)
    · have h1 := hO.1 (by omega)
      exact ⟨h1.1, by rw [mkd_c or2]; exact h1.2⟩
    · rcases (by omega : l = 3 ∨ l = 4) with k | k <;> subst k <;> rw [or1] <;> decide
    · rw [bnd_0 q, eo] at hr
      generalize hg2 : pp Tk Vl a n 1 l (oc old) r'.2.1 = r'' at hr
      rw [← sn] at hb1 ⊢
      refine hT r'.2.1 (pd1 ++ [t]) old out1 r'' hg2.symm hb1 hO (PE_sn hP1 rfl (by omega) (by omega) ⟨by rw [or1]; exact Nat.le_refl _, or2, or3⟩) hF1 (h9_b hr h9) (fun q2 pd2 out2 hP2 he2 hb2 hF2 => ?_) (fun q2 => hf_b hr hf q2)
      rw [bnd_0 q2] at hr
      subst hr
      refine hok rfl pd2 out2 hP2 ?_ hb2 hF2
      rw [he2, em_app, ← List.append_assoc out1, he1, List.append_assoc, List.append_assoc]
      rfl
  · rw [if_neg hv] at hr
    subst hr
    refine hok rfl pd out hP (by rw [List.append_nil]) hB (fun m h1 h2 => ?_)
    by_cases k : m = l
    · rw [k]; exact hv
    · exact hF m (by omega) h2
theorem op_all {Tk Vl : Nat → Nat} {a E w0 : Nat} {e : Bool} {Q : QQ} {F : Nat → Nat → Prop} {Z : Nat → List (Nat × Nat) → Prop} (hE : Tk E = 41) (R1 : RU1 Tk Vl a E w0 Q F) (R2 : RU2 Tk E w0 e Q F) (R3 : RU3 Tk E w0 e Q F Z) : ∀ n, S5 Tk Vl a E w0 e Q F n ∧ (∀ l, l ≤ 5 → SA Tk Vl a E w0 e Q F n l) ∧ (∀ l, l ≤ 1 ∨ l = 3 ∨ l = 4 → ST Tk Vl a E w0 e Q F n l) := by
  intro n
  induction n with
  | zero =>
    refine ⟨fun i pl out r hr _ _ _ h9 => ?_, fun l _ i old out r hr _ _ _ h9 => ?_, fun l _ i pd old out r hr _ _ _ _ h9 => ?_⟩
    · exact absurd (by rw [hr]; rfl) h9
    · exact absurd (by rw [hr]; rfl) h9
    · exact absurd (by rw [hr]; rfl) h9
  | succ n ih =>
    obtain ⟨h5, hS, hT⟩ := ih
    have k5 := op_5 hE R1 R2 R3 h5 (hS 3 (by decide))
    refine ⟨k5, fun l hl => ?_, fun l hl => op_t hE R3 hl (hS (l + 1) (by omega)) (hT l hl)⟩
    by_cases q5 : l = 5
    · rw [q5]; exact S5_SA k5
    · by_cases q2 : l = 2
      · rw [q2]; exact op_2 hE R2 R3 (hS 2 (by decide)) (hS 3 (by decide))
      · have hl' : l ≤ 1 ∨ l = 3 ∨ l = 4 := by omega
        exact op_l hl' (hS (l + 1) (by omega)) (hT l hl')
/-- a clause, from an empty pile -/
theorem op_run {Tk Vl : Nat → Nat} {a E w0 : Nat} {e : Bool} {Q : QQ} {F : Nat → Nat → Prop} {Z : Nat → List (Nat × Nat) → Prop} (hE : Tk E = 41) (R1 : RU1 Tk Vl a E w0 Q F) (R2 : RU2 Tk E w0 e Q F) (R3 : RU3 Tk E w0 e Q F Z) {i : Nat} (hi : i ≤ E) (hw : w0 ≤ i) {r : PR} (hr : r = pp Tk Vl a 3020 0 (if e = true then 0 else 3) 0 i) (h9 : r.1 ≠ 9) (hZ : r.1 = 0 → Z r.2.1 r.2.2) (hF : r.1 ≠ 0 → F r.1 r.2.1) : Q i false [] [] := by
  have H := (op_all hE R1 R2 R3 3020).2.1
  have hB : BD w0 E i [] [] := ⟨by decide, by decide, by show w0 + 0 + 0 ≤ i; omega, hi, fun c hc => absurd hc List.not_mem_nil⟩
  obtain ⟨b1, b2, b3, b4, b5⟩ := R3
  have fin : ∀ l, 1 ≤ rl l → (e = true → l = 0) → l ≤ 3 → r.1 = 0 → ∀ pd out1, PE l pd → out1 ++ em pd = [] ++ r.2.2 → BD w0 E r.2.1 (pd ++ []) out1 → FN l (Tk r.2.1) → Q r.2.1 true (pd ++ []) out1 := fun l h1 h0 h3 q pd out1 hP he hb hFn => by
    rw [List.append_nil] at hb ⊢
    have m0 : mkd pd = 0 := by
      have := mkd_no [] pd (fun c hc => (hP.1 c hc).2.1)
      rw [List.append_nil] at this
      exact this
    have es : sett 1 pd out1 = ([], out1 ++ em pd) := by
      have := sett_app (r := 1) (old := []) (fun c p g => absurd g (by intro k; injection k)) pd out1 (fun c hc => Nat.le_trans h1 (hP.1 c hc).1)
      rw [List.append_nil] at this
      exact this
    refine b5 _ pd out1 hb ⟨⟨hFn 3 h3 (by decide), hFn 4 (by omega) (by decide)⟩, fun h _ g => ?_, fun h _ _ => ?_, fun _ => by omega, fun _ => by omega⟩ m0 (fun h => ?_) ?_
    · have := hP.2.2 (by rw [h0 h]; decide)
      rw [this] at g
      exact absurd g (by decide)
    · have h0 := h0 h
      subst h0
      exact ⟨hFn 0 (by decide) (by decide), hFn 1 (by decide) (by decide)⟩
    · exact hP.2.2 (by rw [h0 h]; decide)
    · rw [es]
      show Z r.2.1 (out1 ++ em pd)
      rw [he]
      exact hZ q
  cases e with
  | true =>
    rw [if_pos rfl] at hr
    exact H 0 (by decide) i [] [] r hr hB ⟨fun _ => ⟨rfl, rfl⟩, fun c p g => absurd g (by intro k; injection k), by decide⟩ (fun g => absurd g (by decide)) h9 (fin 0 (by decide) (fun _ => rfl) (by decide)) hF
  | false =>
    rw [if_neg (by decide)] at hr
    exact H 3 (by decide) i [] [] r hr hB ⟨fun g => absurd g (by decide), fun c p g => absurd g (by intro k; injection k), by decide⟩ (fun _ _ g => absurd g.1 (by decide)) h9 (fin 3 (by decide) (fun h => absurd h (by decide)) (by decide)) hF
