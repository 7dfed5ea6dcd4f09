/-! changes of the yard's pile; a split laid -/
def vp (y y' : VW) : Prop := ∀ a j, ((a = 0 ∧ 5 ≤ j) ∨ 8 ≤ a) → y' a j = y a j
theorem YC_vp {s : qm_Hp} {i w : Nat} {y y' : VW} (hv : vp y y') (h : YC s i w y) : YC s i w y' := by
  unfold YC at *
  simp only [hv 0 5 (by omega), hv 0 6 (by omega), hv 0 7 (by omega), hv 0 8 (by omega), fun j => hv 8 j (by omega), fun j => hv 9 j (by omega), fun j => hv 10 j (by omega), fun j => hv 11 j (by omega), fun j => hv 12 j (by omega), fun j => hv 13 j (by omega), fun j => hv 14 j (by omega), fun j => hv 15 j (by omega)]
  exact h
theorem YM_vp {s : qm_Hp} {b w : Nat} {y y' : VW} (hv : vp y y') (h : YM s b w y) : YM s b w y' := by
  unfold YM at *
  simp only [hv 0 5 (by omega), hv 0 6 (by omega), hv 0 7 (by omega), hv 0 8 (by omega), fun i j => hv (8 + i) j (by omega), fun j => hv 12 j (by omega), fun j => hv 13 j (by omega), fun j => hv 14 j (by omega), fun j => hv 15 j (by omega)]
  exact h
theorem OKY_vp {w : Nat} {y y' : VW} (hv : vp y y') (h : OKY w y) : OKY w y' := by
  unfold OKY at *
  simp only [hv 0 5 (by omega), hv 0 6 (by omega), hv 0 7 (by omega), hv 0 8 (by omega), fun i j => hv (8 + i) j (by omega), fun j => hv 12 j (by omega), fun j => hv 13 j (by omega), fun j => hv 14 j (by omega), fun j => hv 15 j (by omega)]
  exact h
theorem nt_vp {y y' : VW} (hv : vp y y') : nt y' = nt y := by unfold nt; rw [hv 0 6 (by omega)]
theorem ru_vp {y y' : VW} (hv : vp y y') : ru y' = ru y := by unfold ru; rw [hv 0 7 (by omega)]
theorem RC_pile {s s' : qm_Hp} {w : Nat} {y y' k : VW} {tp : Nat → Int32} {fd : Nat} {fa pl : Int32} {T : Nat → TX} (hf : fp (PP 0) s s') (hP : PC s' 0 w y') (hv : vp y y') (h : RC s w y k tp fd fa pl T) : RC s' w y' k tp fd fa pl T := by
  obtain ⟨⟨a1, a2⟩, ⟨a3, a4⟩, a5, ⟨a6, a7⟩, a9, ⟨a10, a11⟩, a12⟩ := h
  have e : ∀ k i j, ¬ PP 0 k i → zI s' k i j = zI s k i j := hf.1
  refine ⟨⟨hP, YC_vp hv (YC_fp (fun k hk => by unfold PP; omega) hf a2)⟩, ⟨PC_fp (fun k hk => by unfold PP; omega) hf a3, YC_fp (fun k hk => by unfold PP; omega) hf a4⟩, fun p hp => ?_, ⟨(e 1 0 7 (by unfold PP; omega)).trans a6, fun j hj => (e 52 0 j (by unfold PP; omega)).trans (a7 j hj)⟩, ?_, ⟨fun t ht => TC_fp (fun k hk => by unfold PP; omega) hf (a10 t (by rw [nt_vp hv] at ht; exact ht)), TC_fp (fun k hk => by unfold PP; omega) hf a11⟩, ?_⟩
  · by_cases q : p = 0
    · subst q; exact hP.1
    · exact (e 3 p 0 (by unfold PP; omega)).trans (a5 p hp)
  · rw [e 1 0 8 (by unfold PP; omega), e 6 0 4 (by unfold PP; omega), e 6 0 5 (by unfold PP; omega)]
    exact a9
  · rw [ru_vp hv]; exact (hf.2.2 5 0 0 (by unfold PP; omega)).trans a12
theorem RM_pile {s s' : qm_Hp} {w : Nat} {y y' k : VW} {tp : Nat → Int32} {fd : Nat} {fa pl : Int32} {T : Nat → TX} (hw : w ≤ 6) (e9 : ∀ j, (j = 1 ∨ j = 2 ∨ j = 27 ∨ j = 5 ∨ j = 6 ∨ j = 7) → zI s' 9 0 j = zI s 9 0 j) (e61 : ∀ j, ((1 ≤ j ∧ j < 4) ∨ (8 ≤ j ∧ j < 120) ∨ 420 ≤ j) → zI s' 61 0 j = zI s 61 0 j) (e62 : ∀ j, zI s' 62 0 j = zI s 62 0 j) (e63 : ∀ j, zI s' 63 0 j = zI s 63 0 j) (hP : PM s' 0 w y') (hv : vp y y') (h : RM s w y k tp fd fa pl T) : RM s' w y' k tp fd fa pl T := by
  obtain ⟨⟨a1, a2⟩, ⟨a3, a4⟩, ⟨a5, a6⟩, ⟨a7, a8⟩, ⟨a9, a10⟩, a11⟩ := h
  exact ⟨⟨(e9 2 (by omega)).trans a1, (e9 27 (by omega)).trans a2⟩, ⟨hP, YM_vp hv (YM_eq hw (fun j h1 h2 h3 h4 => e61 j (by omega)) a4)⟩, ⟨PM_eq (e9 1 (by omega)) (fun j hj => e61 j (by omega)) a5, YM_eq hw (fun j h1 h2 h3 h4 => e61 j (by omega)) a6⟩, ⟨(e9 5 (by omega)).trans a7, fun j hj => (e63 j).trans (a8 j hj)⟩, ⟨(e9 6 (by omega)).trans a9, (e9 7 (by omega)).trans a10⟩, fun t ht => TM_eq e62 (a11 t (by rw [nt_vp hv] at ht; exact ht))⟩
theorem OKG_pile {w : Nat} {y y' k : VW} {tp : Nat → Int32} {fd : Nat} {T : Nat → TX} (hP : OKP w y') (hv : vp y y') (h : OKG w y k tp fd T) : OKG w y' k tp fd T :=
  ⟨⟨hP, OKY_vp hv h.1.2⟩, h.2.1, by rw [nt_vp hv]; exact h.2.2.1, fun t ht => h.2.2.2.1 t (by rw [nt_vp hv] at ht; exact ht), h.2.2.2.2⟩
theorem vp_set {y : VW} {a j : Nat} {v : Int32} (h : ¬ ((a = 0 ∧ 5 ≤ j) ∨ 8 ≤ a)) : vp y (vset y a j v) := fun a' j' h' => vset_ne (fun g => h (by omega))
theorem vp_refl (y : VW) : vp y y := fun _ _ _ => rfl
theorem vp_trans {y y' y'' : VW} (h1 : vp y y') (h2 : vp y' y'') : vp y y'' := fun a j h => (h2 a j h).trans (h1 a j h)
/-- a number between two, as a number -/
theorem inr_rg {x : Int32} {a b : Nat} (hb : b < 2147483648) (h1 : nI a ≤ x) (h2 : x ≤ nI b) (ha : a ≤ b) : rg x a b := by
  rw [fa_le, nI_toInt (by omega)] at h1
  rw [fa_le, nI_toInt (by omega)] at h2
  refine ⟨x.toInt.toNat, by omega, by omega, ?_⟩
  rw [fa_eq, nI_toInt (by omega)]
  omega
theorem rg_inr {x : Int32} {a b : Nat} (hb : b < 2147483648) (h : rg x a b) : nI a ≤ x ∧ x ≤ nI b := by
  obtain ⟨k, h1, h2, rfl⟩ := h
  exact ⟨nI_le h1 (by omega), nI_le h2 (by omega)⟩
/-- a column or none -/
theorem col_or (x : Int32) (w : Nat) (hw : 1 ≤ w ∧ w ≤ 6) : (∃ c, c < w ∧ x = nI c) ∨ ¬ (nI 0 ≤ x ∧ x ≤ nI (w - 1)) := by
  by_cases h : nI 0 ≤ x ∧ x ≤ nI (w - 1)
  · obtain ⟨c, _, h2, e⟩ := inr_rg (by omega) h.1 h.2 (Nat.zero_le _)
    exact Or.inl ⟨c, by omega, e⟩
  · exact Or.inr h
def vadd (y : VW) (c : Nat) (kd sz wt : Int32) : VW := fun a j => if a = 1 ∧ j = c then nI (cn y c + 1) else if j = 8 * c + cn y c ∧ 2 ≤ a ∧ a ≤ 7 then (match a with | 2 => kd | 3 => sz | 4 => wt | 5 => nI 1 | _ => N1) else y a j
theorem cn_vadd {y : VW} {c : Nat} {kd sz wt : Int32} (h : cn y c < 8) (c' : Nat) : cn (vadd y c kd sz wt) c' = if c' = c then cn y c + 1 else cn y c' := by
  unfold cn vadd
  by_cases q : c' = c
  · rw [if_pos ⟨rfl, q⟩, if_pos q]
    exact nI_clamp (by omega)
  · rw [if_neg (fun g => q g.2), if_neg q, if_neg (fun g => by omega)]
theorem vadd_new (y : VW) (c : Nat) (kd sz wt : Int32) (f : Nat) (hf : f < 6) : vadd y c kd sz wt (2 + f) (8 * c + cn y c) = (match 2 + f with | 2 => kd | 3 => sz | 4 => wt | 5 => nI 1 | _ => N1) := by
  unfold vadd
  rw [if_neg (fun g => by omega), if_pos ⟨rfl, by omega, by omega⟩]
theorem vadd_old {y : VW} {c : Nat} {kd sz wt : Int32} {a j : Nat} (h1 : ¬ (a = 1 ∧ j = c)) (h2 : ¬ (j = 8 * c + cn y c ∧ 2 ≤ a ∧ a ≤ 7)) : vadd y c kd sz wt a j = y a j := by
  unfold vadd
  rw [if_neg h1, if_neg h2]
theorem vp_add {y : VW} {c : Nat} {kd sz wt : Int32} : vp y (vadd y c kd sz wt) := fun a j h => vadd_old (by omega) (by omega)
theorem vadd_live {w : Nat} {y : VW} {c : Nat} {kd sz wt : Int32} (ok : OKP w y) (hc : c < w) (hn : cn y c < 8) {c' z' : Nat} (hc' : c' < w) (hz' : z' < cn (vadd y c kd sz wt) c') : (c' = c ∧ z' = cn y c) ∨ (z' < cn y c' ∧ 8 * c' + z' ≠ 8 * c + cn y c) := by
  rw [cn_vadd hn] at hz'
  by_cases q : c' = c
  · rw [if_pos q] at hz'
    subst q
    by_cases q2 : z' = cn y c'
    · exact Or.inl ⟨rfl, q2⟩
    · exact Or.inr ⟨by omega, by omega⟩
  · rw [if_neg q] at hz'
    have := OK_n ok hc'
    exact Or.inr ⟨hz', by omega⟩
theorem PC_add {s : qm_Hp} {p w c : Nat} {y : VW} (h : PC s p w y) (ok : OKP w y) (hc : c < w) (hn : cn y c < 8) (kd sz wt : Int32) : PC (hp_add s p c (cn y c) kd sz wt) p w (vadd y c kd sz wt) := by
  have hs : ∀ j, zI (hp_add s p c (cn y c) kd sz wt) 3 p j = zI s 3 p j := fun j => by
    unfold hp_add
    simp only [zI_uI, Nat.reduceEqDiff, false_and, ↓reduceIte]
  have hv : ∀ i, vadd y c kd sz wt 0 i = y 0 i := fun i => vadd_old (by omega) (by omega)
  refine ⟨(hs 0).trans h.1, ⟨?_, ?_, ?_, ?_, ?_⟩, fun c' hc' => ?_, fun f c' z' hf hc' hz' => ?_⟩
  · rw [hs, hv]; exact h.2.1.1
  · rw [hs, hv]; exact h.2.1.2.1
  · rw [hs, hv]; exact h.2.1.2.2.1
  · rw [hs, hv]; exact h.2.1.2.2.2.1
  · rw [hs, hv]; exact h.2.1.2.2.2.2
  · rw [cn_vadd hn]
    unfold hp_add
    by_cases q : c' = c
    · rw [if_pos q, zI_uI, if_pos ⟨rfl, rfl, q⟩]
    · rw [if_neg q, zI_uI, if_neg (fun g => q g.2.2)]
      simp only [zI_uI, Nat.reduceEqDiff, false_and, ↓reduceIte]
      exact h.2.2.1 c' hc'
  · rcases vadd_live ok hc hn hc' hz' with ⟨q1, q2⟩ | ⟨q1, q2⟩
    · subst q1 q2
      rw [vadd_new y c' kd sz wt f hf]
      unfold hp_add
      have : f = 0 ∨ f = 1 ∨ f = 2 ∨ f = 3 ∨ f = 4 ∨ f = 5 := by omega
      rcases this with h | h | h | h | h | h <;> subst h <;> simp only [zI_uI, Nat.reduceAdd, Nat.reduceEqDiff, false_and, true_and, and_self, ↓reduceIte] <;> rfl
    · rw [vadd_old (by omega) (fun g => q2 g.1), ← h.2.2.2 f c' z' hf hc' q1]
      unfold hp_add
      simp (disch := omega) only [zI_uI, n_eqF q2, and_false, n_eqF, false_and, ↓reduceIte]
theorem OKP_add {w c : Nat} {y : VW} (ok : OKP w y) (hc : c < w) (hn : cn y c < 8) {kd sz wt : Int32} (h1 : rg kd 0 3) (h2 : rg sz 1 20) (h3 : rg wt 0 2000) : OKP w (vadd y c kd sz wt) := by
  have hv : ∀ i, vadd y c kd sz wt 0 i = y 0 i := fun i => vadd_old (by omega) (by omega)
  refine ⟨ok.1, ?_, fun c' hc' => ?_, fun c' z' hc' hz' => ?_⟩
  · simp only [hv]; exact ok.2.1
  · rw [cn_vadd hn]
    by_cases q : c' = c
    · rw [if_pos q]
      refine ⟨by omega, ?_⟩
      unfold vadd
      rw [if_pos ⟨rfl, q⟩]
    · rw [if_neg q, vadd_old (fun g => q g.2) (by omega)]; exact ok.2.2.1 c' hc'
  · rcases vadd_live ok hc hn hc' hz' with ⟨q1, q2⟩ | ⟨q1, q2⟩
    · subst q1 q2
      unfold OKs
      have e2 := vadd_new y c' kd sz wt 0 (by decide)
      have e3 := vadd_new y c' kd sz wt 1 (by decide)
      have e4 := vadd_new y c' kd sz wt 2 (by decide)
      have e5 := vadd_new y c' kd sz wt 3 (by decide)
      have e6 := vadd_new y c' kd sz wt 4 (by decide)
      have e7 := vadd_new y c' kd sz wt 5 (by decide)
      simp only [Nat.reduceAdd] at e2 e3 e4 e5 e6 e7
      rw [e2, e3, e4, e5, e6, e7]
      exact ⟨h1, h2, h3, ⟨1, by decide, by decide, rfl⟩, Or.inl ⟨rfl, rfl⟩⟩
    · exact OKs_like (fun f hf => vadd_old (by omega) (fun g => q2 g.1)) (ok.2.2.2 c' z' hc' q1)
/-- the reference's put -/
def hm_add (s : qm_Hp) (b c n : Nat) (kd sz wt : Int32) : qm_Hp := uI (uI (uI (uI (uI (uI (uI s 61 0 (b + 130 + 6 * (8 * c + n)) kd) 61 0 (b + 130 + 6 * (8 * c + n) + 1) sz) 61 0 (b + 130 + 6 * (8 * c + n) + 2) wt) 61 0 (b + 130 + 6 * (8 * c + n) + 3) (nI 1)) 61 0 (b + 130 + 6 * (8 * c + n) + 4) N1) 61 0 (b + 130 + 6 * (8 * c + n) + 5) N1) 61 0 (b + 120 + c) (nI (n + 1))
theorem hm_add_e (s : qm_Hp) (b c n : Nat) (kd sz wt : Int32) (j : Nat) (h : j ≠ b + 120 + c) (h2 : j < b + 130 + 6 * (8 * c + n) ∨ b + 130 + 6 * (8 * c + n) + 6 ≤ j) : zI (hm_add s b c n kd sz wt) 61 0 j = zI s 61 0 j := by
  unfold hm_add
  simp (disch := omega) only [zI_uI, n_eqF, and_false, ↓reduceIte]
theorem PM_add {s : qm_Hp} {b w c : Nat} {y : VW} (h : PM s b w y) (ok : OKP w y) (hc : c < w) (hn : cn y c < 8) (kd sz wt : Int32) : PM (hm_add s b c (cn y c) kd sz wt) b w (vadd y c kd sz wt) := by
  have hw := ok.1
  have hv : ∀ i, vadd y c kd sz wt 0 i = y 0 i := fun i => vadd_old (by omega) (by omega)
  have e := hm_add_e s b c (cn y c) kd sz wt
  refine ⟨h.1, ⟨?_, ?_, ?_, ?_, ?_⟩, fun c' hc' => ?_, fun f c' z' hf hc' hz' => ?_⟩
  · rw [e _ (by omega) (by omega), hv]; exact h.2.1.1
  · rw [e _ (by omega) (by omega), hv]; exact h.2.1.2.1
  · rw [e _ (by omega) (by omega), hv]; exact h.2.1.2.2.1
  · rw [e _ (by omega) (by omega), hv]; exact h.2.1.2.2.2.1
  · rw [e _ (by omega) (by omega), hv]; exact h.2.1.2.2.2.2
  · rw [cn_vadd hn]
    by_cases q : c' = c
    · rw [if_pos q]
      unfold hm_add
      rw [zI_uI, if_pos ⟨rfl, rfl, by rw [q]⟩]
    · rw [if_neg q, e _ (by omega) (by omega)]
      exact h.2.2.1 c' hc'
  · rcases vadd_live ok hc hn hc' hz' with ⟨q1, q2⟩ | ⟨q1, q2⟩
    · subst q1 q2
      rw [vadd_new y c' kd sz wt f hf]
      unfold hm_add
      have : f = 0 ∨ f = 1 ∨ f = 2 ∨ f = 3 ∨ f = 4 ∨ f = 5 := by omega
      rcases this with h | h | h | h | h | h <;> subst h <;> simp (disch := omega) only [zI_uI, Nat.add_zero, n_eqF, n_eqT, and_false, and_self, ↓reduceIte]
    · rw [vadd_old (by omega) (fun g => q2 g.1), ← h.2.2.2 f c' z' hf hc' q1]
      exact e _ (by omega) (by omega)
