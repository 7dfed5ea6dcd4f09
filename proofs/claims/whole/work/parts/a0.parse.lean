/-! clauses read: a pure reading of a row of tokens -/
abbrev PR : Type := Nat × Nat × List (Nat × Nat)
def bnd (r : PR) (k : Nat → List (Nat × Nat) → PR) : PR := if r.1 = 0 then k r.2.1 r.2.2 else r
/-- the deed of a token -/
def opt (t : Nat) : Nat := if t = 49 then 3 else if t = 50 then 4 else if t = 51 then 5 else if t = 52 then 6 else if t = 24 then 7 else if t = 25 then 8 else if 43 ≤ t ∧ t ≤ 48 then t - 33 else if t = 27 then 21 else 22
def lvl (t : Nat) : Nat := if t = 28 then 0 else if t = 27 then 1 else if t = 49 ∨ t = 50 then 3 else if t = 51 ∨ t = 52 then 4 else 9
def nmb (a v : Nat) : Bool := decide (v = 12 ∨ (a = 2 ∧ 13 ≤ v ∧ v < 17) ∨ (a ≠ 2 ∧ v < 8) ∨ (a = 0 ∧ v < 12))
def pOne (Tk Vl : Nat → Nat) (a : Nat) (P : Nat → Nat → Nat → PR) (o i : Nat) : PR :=
  if Tk i = 40 then (if Vl i ≤ 9999 then (0, i + 1, [(0, Vl i)]) else (2, i, []))
  else if Tk i < 17 then (if nmb a (Tk i) = true then (0, i + 1, [(1, Tk i)]) else (5, i, []))
  else if Tk i = 24 ∨ Tk i = 25 then
    (if Tk (i + 1) = 53 then (if 8 ≤ o then (3, i + 1, []) else
      bnd (P 3 (o + 1) (i + 2)) fun j out => if Tk j = 55 then bnd (P 3 (o + 1) (j + 1)) fun j' out' => (if Tk j' = 54 then (0, j' + 1, out ++ (out' ++ [(opt (Tk i), 0)])) else (1, j', [])) else (1, j, []))
    else (1, i + 1, []))
  else if Tk i = 53 then (if 8 ≤ o then (3, i, []) else bnd (P 3 (o + 1) (i + 1)) fun j out => if Tk j = 54 then (0, j + 1, out) else (1, j, []))
  else if Tk i = 50 then (if 8 ≤ o then (3, i, []) else bnd (P 5 (o + 1) (i + 1)) fun j out => (0, j, out ++ [(2, 0)]))
  else (1, i, [])
def pAsk (Tk : Nat → Nat) (P : Nat → Nat → Nat → PR) (o i : Nat) : PR :=
  if Tk i = 26 then (if 8 ≤ o then (3, i, []) else bnd (P 2 (o + 1) (i + 1)) fun j out => (0, j, out ++ [(20, 0)]))
  else bnd (P 3 o i) fun j out => if 43 ≤ Tk j ∧ Tk j ≤ 48 then bnd (P 3 o (j + 1)) fun j' out' => (0, j', out ++ (out' ++ [(opt (Tk j), 0)])) else (1, j, [])
def pp (Tk Vl : Nat → Nat) (a : Nat) : Nat → Nat → Nat → Nat → Nat → PR
  | 0, _, _, _, i => (9, i, [])
  | n + 1, md, lv, o, i =>
    if md = 1 then (if lvl (Tk i) = lv then bnd (pp Tk Vl a n 0 (lv + 1) o (i + 1)) fun j out => bnd (pp Tk Vl a n 1 lv o j) fun j' out' => (0, j', out ++ ((opt (Tk i), 0) :: out')) else (0, i, []))
    else if lv = 2 then pAsk Tk (pp Tk Vl a n 0) o i
    else if 5 ≤ lv then pOne Tk Vl a (pp Tk Vl a n 0) o i
    else bnd (pp Tk Vl a n 0 (lv + 1) o i) fun j out => bnd (pp Tk Vl a n 1 lv o j) fun j' out' => (0, j', out ++ out')
def dp (lv o : Nat) : Nat := 1 + 3 * (8 - o) + (5 - lv)
def eT (lv : Nat) : Nat := if lv ≤ 2 then 1 else 0
def eN (lv : Nat) : Nat := if lv ≤ 2 then 0 else 1
/-- what is read fits -/
def WT (md lv o : Nat) (out : List (Nat × Nat)) : Prop := ∀ t n, (lv ≤ 2 → n = 0) → t + n + dp lv o ≤ 40 → if md = 0 then wt out t n (t + eT lv) (n + eN lv) else wt out (t + eT lv) (n + eN lv) (t + eT lv) (n + eN lv)
def GP (a E md lv o i : Nat) (r : PR) : Prop := (r.1 ≠ 0 → r.2.1 ≤ E) ∧ (r.1 = 0 → (i ≤ r.2.1 ∧ (md = 0 → i < r.2.1)) ∧ r.2.2.length + i ≤ r.2.1 ∧ r.2.1 ≤ E ∧ (∀ c, c ∈ r.2.2 → c.1 = 1 → nmb a c.2 = true) ∧ WT md lv o r.2.2)
theorem GP_f {a E md lv o i f j : Nat} (hf : f ≠ 0) (hj : j ≤ E) : GP a E md lv o i (f, j, []) := ⟨fun _ => hj, fun h => absurd h hf⟩
theorem GP_ok {a E md lv o i j : Nat} {out : List (Nat × Nat)} (h1 : i ≤ j) (h2 : md = 0 → i < j) (h3 : out.length + i ≤ j) (h4 : j ≤ E) (h5 : ∀ c, c ∈ out → c.1 = 1 → nmb a c.2 = true) (h6 : WT md lv o out) : GP a E md lv o i (0, j, out) := ⟨fun h => absurd rfl h, fun _ => ⟨⟨h1, h2⟩, h3, h4, h5, h6⟩⟩
theorem GP_b {a E md lv o i : Nat} {r : PR} {k : Nat → List (Nat × Nat) → PR} (h1 : r.1 ≠ 0 → r.2.1 ≤ E) (h2 : r.1 = 0 → GP a E md lv o i (k r.2.1 r.2.2)) : GP a E md lv o i (bnd r k) := by
  unfold bnd
  by_cases q : r.1 = 0
  · rw [if_pos q]; exact h2 q
  · rw [if_neg q]; exact ⟨fun _ => h1 q, fun g => absurd g q⟩
theorem wt_1 {c : Nat × Nat} {t n t' n' : Nat} (h : w1 c t n t' n') : wt [c] t n t' n' := ⟨t', n', h, rfl, rfl⟩
theorem opt_ar {t : Nat} (h : lvl t = 3 ∨ lvl t = 4) : 3 ≤ opt t ∧ opt t ≤ 6 := by
  unfold lvl at h
  have ht : t = 49 ∨ t = 50 ∨ t = 51 ∨ t = 52 := by
    by_cases h1 : t = 28
    · rw [if_pos h1] at h; omega
    · rw [if_neg h1] at h
      by_cases h2 : t = 27
      · rw [if_pos h2] at h; omega
      · rw [if_neg h2] at h
        by_cases h3 : t = 49 ∨ t = 50
        · omega
        · rw [if_neg h3] at h
          by_cases h4 : t = 51 ∨ t = 52
          · omega
          · rw [if_neg h4] at h; omega
  rcases ht with h | h | h | h <;> subst h <;> decide
theorem opt_lo {t : Nat} (h : lvl t = 0 ∨ lvl t = 1) : opt t = 21 ∨ opt t = 22 := by
  unfold lvl at h
  have ht : t = 28 ∨ t = 27 := by
    by_cases h1 : t = 28
    · omega
    · rw [if_neg h1] at h
      by_cases h2 : t = 27
      · omega
      · rw [if_neg h2] at h
        by_cases h3 : t = 49 ∨ t = 50
        · rw [if_pos h3] at h; omega
        · rw [if_neg h3] at h
          by_cases h4 : t = 51 ∨ t = 52
          · rw [if_pos h4] at h; omega
          · rw [if_neg h4] at h; omega
  rcases ht with h | h <;> subst h <;> decide
theorem opt_ask {t : Nat} (h : 43 ≤ t ∧ t ≤ 48) : 10 ≤ opt t ∧ opt t ≤ 15 := by
  have ht : t = 43 ∨ t = 44 ∨ t = 45 ∨ t = 46 ∨ t = 47 ∨ t = 48 := by omega
  rcases ht with h | h | h | h | h | h <;> subst h <;> decide
theorem opt_mm {t : Nat} (h : t = 24 ∨ t = 25) : 7 ≤ opt t ∧ opt t ≤ 8 := by
  rcases h with h | h <;> subst h <;> decide
theorem lvl_e : lvl 41 = 9 := by decide
theorem pp_good {Tk Vl : Nat → Nat} {a E : Nat} (hE : Tk E = 41) : ∀ n md lv o i, i ≤ E → o ≤ 8 → lv ≤ 5 → (md = 0 ∨ (md = 1 ∧ (lv ≤ 1 ∨ lv = 3 ∨ lv = 4))) → GP a E md lv o i (pp Tk Vl a n md lv o i) := by
  have nE : ∀ i, i ≤ E → Tk i ≠ 41 → i + 1 ≤ E := fun i h1 h2 => by
    by_cases q : i = E
    · exact absurd (by rw [q]; exact hE) h2
    · omega
  intro n
  induction n with
  | zero => intro md lv o i hi ho hl hm; exact GP_f (by decide) hi
  | succ n ih =>
    intro md lv o i hi ho hl hm
    unfold pp
    rcases hm with hm | ⟨hm, hl2⟩
    · subst hm
      rw [if_neg (by decide)]
      by_cases l2 : lv = 2
      · subst l2
        rw [if_pos rfl]
        unfold pAsk
        by_cases t26 : Tk i = 26
        · rw [if_pos t26]
          have hi1 := nE i hi (by omega)
          by_cases ho8 : 8 ≤ o
          · rw [if_pos ho8]; exact GP_f (by decide) hi
          · rw [if_neg ho8]
            have g := ih 0 2 (o + 1) (i + 1) hi1 (by omega) (by decide) (Or.inl rfl)
            refine GP_b g.1 (fun q => ?_)
            obtain ⟨⟨a1, a2⟩, a3, a4, a5, a6⟩ := g.2 q
            refine GP_ok (by omega) (fun _ => by omega) ?_ a4 (fun c hc hc1 => ?_) (fun t nn hn hd => ?_)
            · rw [List.length_append]; simp only [List.length_cons, List.length_nil]; omega
            · rcases List.mem_append.mp hc with h | h
              · exact a5 c h hc1
              · rw [List.mem_singleton.mp h] at hc1; exact absurd hc1 (by decide)
            · have hn0 := hn (by decide)
              subst hn0
              have := a6 t 0 (fun _ => rfl) (by unfold dp at *; omega)
              exact wt_app this (wt_1 (Or.inr (Or.inr (Or.inr (Or.inr (Or.inr (Or.inl ⟨rfl, rfl, by show 1 ≤ t + 1; omega, rfl, rfl⟩)))))))
        · rw [if_neg t26]
          have g := ih 0 3 o i hi ho (by decide) (Or.inl rfl)
          refine GP_b g.1 (fun q => ?_)
          obtain ⟨⟨a1, a2⟩, a3, a4, a5, a6⟩ := g.2 q
          have a2 := a2 rfl
          by_cases tc : 43 ≤ Tk (pp Tk Vl a n 0 3 o i).2.1 ∧ Tk (pp Tk Vl a n 0 3 o i).2.1 ≤ 48
          · rw [if_pos tc]
            have hj1 := nE _ a4 (by omega)
            have g2 := ih 0 3 o ((pp Tk Vl a n 0 3 o i).2.1 + 1) hj1 ho (by decide) (Or.inl rfl)
            refine GP_b g2.1 (fun q2 => ?_)
            obtain ⟨⟨b1, b2⟩, b3, b4, b5, b6⟩ := g2.2 q2
            have b2 := b2 rfl
            have oa := opt_ask tc
            refine GP_ok (by omega) (fun _ => by omega) ?_ b4 (fun c hc hc1 => ?_) (fun t nn hn hd => ?_)
            · rw [List.length_append, List.length_append]; simp only [List.length_cons, List.length_nil]; omega
            · rcases List.mem_append.mp hc with h | h
              · exact a5 c h hc1
              · rcases List.mem_append.mp h with h | h
                · exact b5 c h hc1
                · rw [List.mem_singleton.mp h] at hc1; exact absurd hc1 (by show opt _ ≠ 1; omega)
            · have hn0 := hn (by decide)
              subst hn0
              have w1' := a6 t 0 (fun h => rfl) (by unfold dp at *; omega)
              have w2' := b6 t 1 (fun h => absurd h (by decide)) (by unfold dp at *; omega)
              exact wt_app w1' (wt_app w2' (wt_1 (Or.inr (Or.inr (Or.inr (Or.inr (Or.inl ⟨oa.1, oa.2, rfl, rfl, rfl⟩)))))))
          · rw [if_neg tc]; exact GP_f (by decide) a4
      · rw [if_neg l2]
        by_cases l5 : 5 ≤ lv
        · rw [if_pos l5]
          have hlv : lv = 5 := by omega
          subst hlv
          unfold pOne
          by_cases t40 : Tk i = 40
          · rw [if_pos t40]
            have hi1 := nE i hi (by omega)
            by_cases hv : Vl i ≤ 9999
            · rw [if_pos hv]
              refine GP_ok (by omega) (fun _ => by omega) (by show 1 + i ≤ i + 1; omega) hi1 (fun c hc hc1 => ?_) (fun t nn _ hd => ?_)
              · rw [List.mem_singleton.mp hc] at hc1; exact absurd hc1 (by show (0 : Nat) ≠ 1; decide)
              · exact wt_1 (Or.inl ⟨rfl, by show Vl i < 10000; omega, by unfold dp at hd; omega, rfl, rfl⟩)
            · rw [if_neg hv]; exact GP_f (by decide) hi
          · rw [if_neg t40]
            by_cases t17 : Tk i < 17
            · rw [if_pos t17]
              have hi1 := nE i hi (by omega)
              by_cases hb : nmb a (Tk i) = true
              · rw [if_pos hb]
                refine GP_ok (by omega) (fun _ => by omega) (by show 1 + i ≤ i + 1; omega) hi1 (fun c hc hc1 => ?_) (fun t nn _ hd => ?_)
                · rw [List.mem_singleton.mp hc]; exact hb
                · exact wt_1 (Or.inr (Or.inl ⟨rfl, t17, by unfold dp at hd; omega, rfl, rfl⟩))
              · rw [if_neg hb]; exact GP_f (by decide) hi
            · rw [if_neg t17]
              by_cases tmm : Tk i = 24 ∨ Tk i = 25
              · rw [if_pos tmm]
                have hi1 := nE i hi (by omega)
                by_cases t53 : Tk (i + 1) = 53
                · rw [if_pos t53]
                  have hi2 := nE (i + 1) hi1 (by omega)
                  by_cases ho8 : 8 ≤ o
                  · rw [if_pos ho8]; exact GP_f (by decide) hi1
                  · rw [if_neg ho8]
                    have g := ih 0 3 (o + 1) (i + 2) hi2 (by omega) (by decide) (Or.inl rfl)
                    refine GP_b g.1 (fun q => ?_)
                    obtain ⟨⟨a1, a2⟩, a3, a4, a5, a6⟩ := g.2 q
                    have a2 := a2 rfl
                    by_cases t55 : Tk (pp Tk Vl a n 0 3 (o + 1) (i + 2)).2.1 = 55
                    · rw [if_pos t55]
                      have hj1 := nE _ a4 (by omega)
                      have g2 := ih 0 3 (o + 1) ((pp Tk Vl a n 0 3 (o + 1) (i + 2)).2.1 + 1) hj1 (by omega) (by decide) (Or.inl rfl)
                      refine GP_b g2.1 (fun q2 => ?_)
                      obtain ⟨⟨b1, b2⟩, b3, b4, b5, b6⟩ := g2.2 q2
                      have b2 := b2 rfl
                      by_cases t54 : Tk (pp Tk Vl a n 0 3 (o + 1) ((pp Tk Vl a n 0 3 (o + 1) (i + 2)).2.1 + 1)).2.1 = 54
                      · rw [if_pos t54]
                        have hk1 := nE _ b4 (by omega)
                        have om := opt_mm tmm
                        refine GP_ok (by omega) (fun _ => by omega) ?_ hk1 (fun c hc hc1 => ?_) (fun t nn _ hd => ?_)
                        · rw [List.length_append, List.length_append]; simp only [List.length_cons, List.length_nil]; omega
                        · rcases List.mem_append.mp hc with h | h
                          · exact a5 c h hc1
                          · rcases List.mem_append.mp h with h | h
                            · exact b5 c h hc1
                            · rw [List.mem_singleton.mp h] at hc1; exact absurd hc1 (by show opt _ ≠ 1; omega)
                        · have w1' := a6 t nn (fun h => absurd h (by decide)) (by unfold dp at *; omega)
                          have w2' := b6 t (nn + 1) (fun h => absurd h (by decide)) (by unfold dp at *; omega)
                          exact wt_app w1' (wt_app w2' (wt_1 (Or.inr (Or.inr (Or.inr (Or.inl ⟨by show 3 ≤ opt _; omega, om.2, by show 2 ≤ nn + 1 + 1; omega, rfl, rfl⟩))))))
                      · rw [if_neg t54]; exact GP_f (by decide) b4
                    · rw [if_neg t55]; exact GP_f (by decide) a4
                · rw [if_neg t53]; exact GP_f (by decide) hi1
              · rw [if_neg tmm]
                by_cases t53 : Tk i = 53
                · rw [if_pos t53]
                  have hi1 := nE i hi (by omega)
                  by_cases ho8 : 8 ≤ o
                  · rw [if_pos ho8]; exact GP_f (by decide) hi
                  · rw [if_neg ho8]
                    have g := ih 0 3 (o + 1) (i + 1) hi1 (by omega) (by decide) (Or.inl rfl)
                    refine GP_b g.1 (fun q => ?_)
                    obtain ⟨⟨a1, a2⟩, a3, a4, a5, a6⟩ := g.2 q
                    have a2 := a2 rfl
                    by_cases t54 : Tk (pp Tk Vl a n 0 3 (o + 1) (i + 1)).2.1 = 54
                    · rw [if_pos t54]
                      have hj1 := nE _ a4 (by omega)
                      exact GP_ok (by omega) (fun _ => by omega) (by omega) hj1 a5 (fun t nn _ hd => a6 t nn (fun h => absurd h (by decide)) (by unfold dp at *; omega))
                    · rw [if_neg t54]; exact GP_f (by decide) a4
                · rw [if_neg t53]
                  by_cases t50 : Tk i = 50
                  · rw [if_pos t50]
                    have hi1 := nE i hi (by omega)
                    by_cases ho8 : 8 ≤ o
                    · rw [if_pos ho8]; exact GP_f (by decide) hi
                    · rw [if_neg ho8]
                      have g := ih 0 5 (o + 1) (i + 1) hi1 (by omega) (by decide) (Or.inl rfl)
                      refine GP_b g.1 (fun q => ?_)
                      obtain ⟨⟨a1, a2⟩, a3, a4, a5, a6⟩ := g.2 q
                      have a2 := a2 rfl
                      refine GP_ok (by omega) (fun _ => by omega) ?_ a4 (fun c hc hc1 => ?_) (fun t nn _ hd => ?_)
                      · rw [List.length_append]; simp only [List.length_cons, List.length_nil]; omega
                      · rcases List.mem_append.mp hc with h | h
                        · exact a5 c h hc1
                        · rw [List.mem_singleton.mp h] at hc1; exact absurd hc1 (by decide)
                      · have w1' := a6 t nn (fun h => absurd h (by decide)) (by unfold dp at *; omega)
                        exact wt_app w1' (wt_1 (Or.inr (Or.inr (Or.inl ⟨rfl, by show 1 ≤ nn + 1; omega, rfl, rfl⟩))))
                  · rw [if_neg t50]; exact GP_f (by decide) hi
        · rw [if_neg l5]
          have g := ih 0 (lv + 1) o i hi ho (by omega) (Or.inl rfl)
          refine GP_b g.1 (fun q => ?_)
          obtain ⟨⟨a1, a2⟩, a3, a4, a5, a6⟩ := g.2 q
          have a2 := a2 rfl
          have g2 := ih 1 lv o (pp Tk Vl a n 0 (lv + 1) o i).2.1 a4 ho hl (Or.inr ⟨rfl, by omega⟩)
          refine GP_b g2.1 (fun q2 => ?_)
          obtain ⟨⟨b1, _⟩, b3, b4, b5, b6⟩ := g2.2 q2
          refine GP_ok (by omega) (fun _ => by omega) ?_ b4 (fun c hc hc1 => ?_) (fun t nn hn hd => ?_)
          · rw [List.length_append]; omega
          · rcases List.mem_append.mp hc with h | h
            · exact a5 c h hc1
            · exact b5 c h hc1
          · have he : eT (lv + 1) = eT lv ∧ eN (lv + 1) = eN lv := by
              have : lv = 0 ∨ lv = 1 ∨ lv = 3 ∨ lv = 4 := by omega
              rcases this with h | h | h | h <;> subst h <;> exact ⟨rfl, rfl⟩
            have w1' := a6 t nn (fun h => hn (by omega)) (by unfold dp at *; omega)
            have w2' := b6 t nn hn hd
            rw [if_pos rfl, he.1, he.2] at w1'
            rw [if_neg (by decide)] at w2'
            exact wt_app w1' w2'
    · subst hm
      rw [if_pos rfl]
      by_cases hlv : lvl (Tk i) = lv
      · rw [if_pos hlv]
        have hi1 := nE i hi (fun h => by rw [h, lvl_e] at hlv; omega)
        have g := ih 0 (lv + 1) o (i + 1) hi1 ho (by omega) (Or.inl rfl)
        refine GP_b g.1 (fun q => ?_)
        obtain ⟨⟨a1, a2⟩, a3, a4, a5, a6⟩ := g.2 q
        have a2 := a2 rfl
        have g2 := ih 1 lv o (pp Tk Vl a n 0 (lv + 1) o (i + 1)).2.1 a4 ho hl (Or.inr ⟨rfl, hl2⟩)
        refine GP_b g2.1 (fun q2 => ?_)
        obtain ⟨⟨b1, _⟩, b3, b4, b5, b6⟩ := g2.2 q2
        refine GP_ok (by omega) (fun h => absurd h (by decide)) ?_ b4 (fun c hc hc1 => ?_) (fun t nn hn hd => ?_)
        · rw [List.length_append, List.length_cons]; omega
        · rcases List.mem_append.mp hc with h | h
          · exact a5 c h hc1
          · rcases List.mem_cons.mp h with h | h
            · rw [h] at hc1
              have hc1 : opt (Tk i) = 1 := hc1
              by_cases h3 : lv = 3 ∨ lv = 4
              · have := opt_ar (t := Tk i) (by omega); omega
              · have := opt_lo (t := Tk i) (by omega); omega
            · exact b5 c h hc1
        · rw [if_neg (by decide)]
          have w2' := b6 t nn hn hd
          rw [if_neg (by decide)] at w2'
          by_cases h3 : lv = 3 ∨ lv = 4
          · have oa := opt_ar (t := Tk i) (by omega)
            have e1 : eT lv = 0 ∧ eN lv = 1 ∧ eT (lv + 1) = 0 ∧ eN (lv + 1) = 1 := by rcases h3 with h | h <;> subst h <;> exact ⟨rfl, rfl, rfl, rfl⟩
            obtain ⟨e1, e2, e3, e4⟩ := e1
            have w1' := a6 t (nn + 1) (fun h => by omega) (by unfold dp at *; omega)
            rw [if_pos rfl, e3, e4] at w1'
            rw [e1, e2] at w2' ⊢
            exact wt_app w1' ⟨t, nn + 1, Or.inr (Or.inr (Or.inr (Or.inl ⟨oa.1, by show opt _ ≤ 8; omega, by show 2 ≤ nn + 1 + 1; omega, rfl, rfl⟩))), w2'⟩
          · have oa := opt_lo (t := Tk i) (by omega)
            have e1 : eT lv = 1 ∧ eN lv = 0 ∧ eT (lv + 1) = 1 ∧ eN (lv + 1) = 0 := by
              have : lv = 0 ∨ lv = 1 := by omega
              rcases this with h | h <;> subst h <;> exact ⟨rfl, rfl, rfl, rfl⟩
            obtain ⟨e1, e2, e3, e4⟩ := e1
            have hn0 := hn (by omega)
            subst hn0
            have w1' := a6 (t + 1) 0 (fun _ => rfl) (by unfold dp at *; omega)
            rw [if_pos rfl, e3, e4] at w1'
            rw [e1, e2] at w2' ⊢
            exact wt_app w1' ⟨t + 1, 0, Or.inr (Or.inr (Or.inr (Or.inr (Or.inr (Or.inr ⟨oa, rfl, by show 2 ≤ t + 1 + 1; omega, rfl, rfl⟩))))), w2'⟩
      · rw [if_neg hlv]
        refine GP_ok (Nat.le_refl _) (fun h => absurd h (by decide)) (by show 0 + i ≤ i; omega) hi (fun c hc => absurd hc (List.not_mem_nil)) (fun t nn _ _ => ?_)
        rw [if_neg (by decide)]
        exact ⟨rfl, rfl⟩
theorem bnd_9 {r : PR} {k : Nat → List (Nat × Nat) → PR} (h1 : r.1 ≠ 9) (h2 : r.1 = 0 → (k r.2.1 r.2.2).1 ≠ 9) : (bnd r k).1 ≠ 9 := by
  unfold bnd
  by_cases q : r.1 = 0
  · rw [if_pos q]; exact h2 q
  · rw [if_neg q]; exact h1
theorem ite_9 {p : Prop} [Decidable p] {r s : PR} (h1 : p → r.1 ≠ 9) (h2 : ¬ p → s.1 ≠ 9) : (if p then r else s).1 ≠ 9 := by
  by_cases q : p
  · rw [if_pos q]; exact h1 q
  · rw [if_neg q]; exact h2 q
/-- enough fuel -/
theorem pp_fuel {Tk Vl : Nat → Nat} {a E : Nat} (hE : Tk E = 41) : ∀ n md lv o i, i ≤ E → o ≤ 8 → lv ≤ 5 → (md = 0 ∨ (md = 1 ∧ (lv ≤ 1 ∨ lv = 3 ∨ lv = 4))) → 10 * (E - i) + (if md = 0 then 8 - lv else 1) < n → (pp Tk Vl a n md lv o i).1 ≠ 9 := by
  have nE : ∀ i, i ≤ E → Tk i ≠ 41 → i + 1 ≤ E := fun i h1 h2 => by
    by_cases q : i = E
    · exact absurd (by rw [q]; exact hE) h2
    · omega
  have gd : ∀ n md lv o i, i ≤ E → o ≤ 8 → lv ≤ 5 → (md = 0 ∨ (md = 1 ∧ (lv ≤ 1 ∨ lv = 3 ∨ lv = 4))) → (pp Tk Vl a n md lv o i).1 = 0 → (i ≤ (pp Tk Vl a n md lv o i).2.1 ∧ (md = 0 → i < (pp Tk Vl a n md lv o i).2.1)) ∧ (pp Tk Vl a n md lv o i).2.1 ≤ E := fun n md lv o i h1 h2 h3 h4 h5 => by
    have g := (pp_good (Vl := Vl) (a := a) hE n md lv o i h1 h2 h3 h4).2 h5
    exact ⟨g.1, g.2.2.1⟩
  intro n
  induction n with
  | zero => intro md lv o i hi ho hl hm hf; exact absurd hf (Nat.not_lt_zero _)
  | succ n ih =>
    intro md lv o i hi ho hl hm hf
    unfold pp
    rcases hm with hm | ⟨hm, hl2⟩
    · subst hm
      rw [if_pos rfl] at hf
      rw [if_neg (by decide)]
      by_cases l2 : lv = 2
      · subst l2
        rw [if_pos rfl]
        unfold pAsk
        refine ite_9 (fun t26 => ?_) (fun t26 => ?_)
        · have hi1 := nE i hi (by omega)
          refine ite_9 (fun _ => by show (3 : Nat) ≠ 9; decide) (fun ho8 => ?_)
          exact bnd_9 (ih 0 2 (o + 1) (i + 1) hi1 (by omega) (by decide) (Or.inl rfl) (by rw [if_pos rfl]; omega)) (fun _ => by show (0 : Nat) ≠ 9; decide)
        · refine bnd_9 (ih 0 3 o i hi ho (by decide) (Or.inl rfl) (by rw [if_pos rfl]; omega)) (fun q => ?_)
          obtain ⟨⟨a1, a2⟩, a4⟩ := gd n 0 3 o i hi ho (by decide) (Or.inl rfl) q
          have a2 := a2 rfl
          refine ite_9 (fun tc => ?_) (fun _ => by show (1 : Nat) ≠ 9; decide)
          have hj1 := nE _ a4 (by omega)
          exact bnd_9 (ih 0 3 o _ hj1 ho (by decide) (Or.inl rfl) (by rw [if_pos rfl]; omega)) (fun _ => by show (0 : Nat) ≠ 9; decide)
      · rw [if_neg l2]
        by_cases l5 : 5 ≤ lv
        · rw [if_pos l5]
          unfold pOne
          refine ite_9 (fun _ => ite_9 (fun _ => by show (0 : Nat) ≠ 9; decide) (fun _ => by show (2 : Nat) ≠ 9; decide)) (fun _ => ?_)
          refine ite_9 (fun _ => ite_9 (fun _ => by show (0 : Nat) ≠ 9; decide) (fun _ => by show (5 : Nat) ≠ 9; decide)) (fun t17 => ?_)
          refine ite_9 (fun tmm => ?_) (fun tmm => ?_)
          · have hi1 := nE i hi (by omega)
            refine ite_9 (fun t53 => ?_) (fun _ => by show (1 : Nat) ≠ 9; decide)
            have hi2 := nE (i + 1) hi1 (by omega)
            refine ite_9 (fun _ => by show (3 : Nat) ≠ 9; decide) (fun ho8 => ?_)
            refine bnd_9 (ih 0 3 (o + 1) (i + 2) hi2 (by omega) (by decide) (Or.inl rfl) (by rw [if_pos rfl]; omega)) (fun q => ?_)
            obtain ⟨⟨a1, a2⟩, a4⟩ := gd n 0 3 (o + 1) (i + 2) hi2 (by omega) (by decide) (Or.inl rfl) q
            have a2 := a2 rfl
            refine ite_9 (fun t55 => ?_) (fun _ => by show (1 : Nat) ≠ 9; decide)
            have hj1 := nE _ a4 (by omega)
            refine bnd_9 (ih 0 3 (o + 1) _ hj1 (by omega) (by decide) (Or.inl rfl) (by rw [if_pos rfl]; omega)) (fun _ => ?_)
            exact ite_9 (fun _ => by show (0 : Nat) ≠ 9; decide) (fun _ => by show (1 : Nat) ≠ 9; decide)
          · refine ite_9 (fun t53 => ?_) (fun t53 => ?_)
            · have hi1 := nE i hi (by omega)
              refine ite_9 (fun _ => by show (3 : Nat) ≠ 9; decide) (fun ho8 => ?_)
              refine bnd_9 (ih 0 3 (o + 1) (i + 1) hi1 (by omega) (by decide) (Or.inl rfl) (by rw [if_pos rfl]; omega)) (fun _ => ?_)
              exact ite_9 (fun _ => by show (0 : Nat) ≠ 9; decide) (fun _ => by show (1 : Nat) ≠ 9; decide)
            · refine ite_9 (fun t50 => ?_) (fun _ => by show (1 : Nat) ≠ 9; decide)
              have hi1 := nE i hi (by omega)
              refine ite_9 (fun _ => by show (3 : Nat) ≠ 9; decide) (fun ho8 => ?_)
              exact bnd_9 (ih 0 5 (o + 1) (i + 1) hi1 (by omega) (by decide) (Or.inl rfl) (by rw [if_pos rfl]; omega)) (fun _ => by show (0 : Nat) ≠ 9; decide)
        · rw [if_neg l5]
          refine bnd_9 (ih 0 (lv + 1) o i hi ho (by omega) (Or.inl rfl) (by rw [if_pos rfl]; omega)) (fun q => ?_)
          obtain ⟨⟨a1, a2⟩, a4⟩ := gd n 0 (lv + 1) o i hi ho (by omega) (Or.inl rfl) q
          have a2 := a2 rfl
          exact bnd_9 (ih 1 lv o _ a4 ho hl (Or.inr ⟨rfl, by omega⟩) (by rw [if_neg (by decide)]; omega)) (fun _ => by show (0 : Nat) ≠ 9; decide)
    · subst hm
      rw [if_neg (by decide)] at hf
      rw [if_pos rfl]
      refine ite_9 (fun hlv => ?_) (fun _ => by show (0 : Nat) ≠ 9; decide)
      have hi1 := nE i hi (fun h => by rw [h, lvl_e] at hlv; omega)
      refine bnd_9 (ih 0 (lv + 1) o (i + 1) hi1 ho (by omega) (Or.inl rfl) (by rw [if_pos rfl]; omega)) (fun q => ?_)
      obtain ⟨⟨a1, a2⟩, a4⟩ := gd n 0 (lv + 1) o (i + 1) hi1 ho (by omega) (Or.inl rfl) q
      have a2 := a2 rfl
      exact bnd_9 (ih 1 lv o _ a4 ho hl (Or.inr ⟨rfl, hl2⟩) (by rw [if_neg (by decide)]; omega)) (fun _ => by show (0 : Nat) ≠ 9; decide)
