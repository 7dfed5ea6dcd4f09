/-! the class's weeks -/
/-- outside P nothing has changed -/
def fp (P : Nat → Nat → Prop) (s s' : qm_Hp) : Prop := (∀ k i j, ¬ P k i → zI s' k i j = zI s k i j) ∧ (∀ k i j, ¬ P k i → zL s' k i j = zL s k i j) ∧ (∀ k i j, ¬ P k i → zP s' k i j = zP s k i j)
theorem fp_refl (P : Nat → Nat → Prop) (s : qm_Hp) : fp P s s := ⟨fun _ _ _ _ => rfl, fun _ _ _ _ => rfl, fun _ _ _ _ => rfl⟩
theorem fp_trans {P : Nat → Nat → Prop} {s1 s2 s3 : qm_Hp} (h1 : fp P s1 s2) (h2 : fp P s2 s3) : fp P s1 s3 :=
  ⟨fun k i j h => (h2.1 k i j h).trans (h1.1 k i j h), fun k i j h => (h2.2.1 k i j h).trans (h1.2.1 k i j h), fun k i j h => (h2.2.2 k i j h).trans (h1.2.2 k i j h)⟩
theorem fp_mono {P Q : Nat → Nat → Prop} {s s' : qm_Hp} (hK : ∀ k i, P k i → Q k i) (h : fp P s s') : fp Q s s' :=
  ⟨fun k i j q => h.1 k i j (fun z => q (hK k i z)), fun k i j q => h.2.1 k i j (fun z => q (hK k i z)), fun k i j q => h.2.2 k i j (fun z => q (hK k i z))⟩
theorem fp_fr {P : Nat → Nat → Prop} {K : List Nat} {s s' : qm_Hp} (hK : ∀ k i, k ∈ K → P k i) (h : fr K s s') : fp P s s' :=
  ⟨fun k i j q => h.1 k i j (fun z => q (hK k i z)), fun k i j q => h.2.1 k i j (fun z => q (hK k i z)), fun k i j q => h.2.2 k i j (fun z => q (hK k i z))⟩
theorem fp_uI {P : Nat → Nat → Prop} {s s' : qm_Hp} {k i : Nat} (hk : P k i) (h : fp P s s') (j : Nat) (v : Int32) : fp P s (uI s' k i j v) := by
  refine ⟨fun a b c q => ?_, fun a b c q => h.2.1 a b c q, fun a b c q => h.2.2 a b c q⟩
  rw [zI_uI, if_neg (fun z => q (by rw [z.1, z.2.1]; exact hk))]
  exact h.1 a b c q
theorem PC_fp {P : Nat → Nat → Prop} {s s' : qm_Hp} {p w : Nat} {y : VW} (hK : ∀ k, (k = 3 ∨ (11 ≤ k ∧ k ≤ 17)) → ¬ P k p) (hf : fp P s s') (h : PC s p w y) : PC s' p w y := by
  have e3 : ∀ j, zI s' 3 p j = zI s 3 p j := fun j => hf.1 3 p j (hK 3 (by omega))
  exact ⟨(e3 0).trans h.1, ⟨(e3 8).trans h.2.1.1, (e3 9).trans h.2.1.2.1, (e3 10).trans h.2.1.2.2.1, (e3 11).trans h.2.1.2.2.2.1, (e3 12).trans h.2.1.2.2.2.2⟩, fun c hc => (hf.1 17 p c (hK 17 (by omega))).trans (h.2.2.1 c hc), fun f c z hf' hc hz => (hf.1 (11 + f) p _ (hK (11 + f) (by omega))).trans (h.2.2.2 f c z hf' hc hz)⟩
theorem TC_fp {P : Nat → Nat → Prop} {s s' : qm_Hp} {t : Nat} {τ : TX} (hK : ∀ k, (k = 4 ∨ (31 ≤ k ∧ k ≤ 35)) → ¬ P k t) (hf : fp P s s') (h : TC s t τ) : TC s' t τ := by
  have e : ∀ k j, (k = 4 ∨ (31 ≤ k ∧ k ≤ 35)) → zI s' k t j = zI s k t j := fun k j hk => hf.1 k t j (hK k hk)
  have hfun : (fun j => zI s' 31 t j) = fun j => zI s 31 t j := funext fun j => e 31 j (by omega)
  refine ⟨(e 4 6 (by omega)).trans h.1, fun k hk => ?_, fun a ha => (e 35 a (by omega)).trans (h.2.2 a ha)⟩
  obtain ⟨h1, fm, h2, h3, h4, h5⟩ := h.2.1 k hk
  exact ⟨(e 32 k (by omega)).trans h1, fm, (e 33 k (by omega)).trans h2, (e 34 k (by omega)).trans h3, h4, by rw [hfun]; exact h5⟩
theorem LC_fp {P : Nat → Nat → Prop} {s s' : qm_Hp} {τ : TX} (hK : ∀ k i, (k = 4 ∨ k = 5 ∨ (31 ≤ k ∧ k ≤ 35)) → ¬ P k i) (hf : fp P s s') (h : LC s τ) : LC s' τ := by
  obtain ⟨t, h1, h2⟩ := h
  exact ⟨t, (hf.2.2 5 0 0 (hK 5 0 (by omega))).trans h1, TC_fp (fun k hk => hK k t (by omega)) hf h2⟩
/-- pile p and the laws' scratch -/
def PP (p : Nat) : Nat → Nat → Prop := fun k i => k = 41 ∨ k = 42 ∨ (i = p ∧ (k = 3 ∨ (11 ≤ k ∧ k ≤ 17)))
theorem PP_sc {p : Nat} {s s' : qm_Hp} (h : fr [41, 42] s s') : fp (PP p) s s' := fp_fr (fun k i hk => by
  simp only [List.mem_cons, List.not_mem_nil, or_false] at hk
  unfold PP
  omega) h
theorem LC_PP {p : Nat} {s s' : qm_Hp} {τ : TX} (hf : fp (PP p) s s') (h : LC s τ) : LC s' τ := LC_fp (fun k i hk => by unfold PP; omega) hf h
def vset (y : VW) (a j : Nat) (v : Int32) : VW := fun a' j' => if a' = a ∧ j' = j then v else y a' j'
theorem cn_vset {y : VW} {a j : Nat} {v : Int32} (ha : a ≠ 1) : cn (vset y a j v) = cn y := by
  funext c
  show (if 1 = a ∧ c = j then v else y 1 c).toNatClampNeg = (y 1 c).toNatClampNeg
  rw [if_neg (fun z => ha z.1.symm)]
theorem PC_put {s : qm_Hp} {p w : Nat} {y : VW} (h : PC s p w y) (f j : Nat) (hf : f < 6) (v : Int32) : PC (uI s (11 + f) p j v) p w (vset y (2 + f) j v) := by
  have hne : ∀ k, (k = 3 ∨ k = 17) → ∀ i, zI (uI s (11 + f) p j v) k p i = zI s k p i := fun k hk i => by rw [zI_uI, if_neg (fun z => by omega)]
  have hv : ∀ i, vset y (2 + f) j v 0 i = y 0 i := fun i => if_neg (fun z => by omega)
  refine ⟨(hne 3 (Or.inl rfl) 0).trans h.1, ⟨?_, ?_, ?_, ?_, ?_⟩, fun c hc => ?_, fun f' c z hf' hc hz => ?_⟩
  · rw [hne 3 (Or.inl rfl), hv]; exact h.2.1.1
  · rw [hne 3 (Or.inl rfl), hv]; exact h.2.1.2.1
  · rw [hne 3 (Or.inl rfl), hv]; exact h.2.1.2.2.1
  · rw [hne 3 (Or.inl rfl), hv]; exact h.2.1.2.2.2.1
  · rw [hne 3 (Or.inl rfl), hv]; exact h.2.1.2.2.2.2
  · rw [hne 17 (Or.inr rfl), cn_vset (by omega)]; exact h.2.2.1 c hc
  · rw [cn_vset (by omega)] at hz
    rw [zI_uI]
    unfold vset
    by_cases q : f' = f ∧ 8 * c + z = j
    · rw [if_pos ⟨by omega, rfl, q.2⟩, if_pos ⟨by omega, q.2⟩]
    · rw [if_neg (fun g => q ⟨by omega, g.2.2⟩), if_neg (fun g => q ⟨by omega, g.2⟩)]
      exact h.2.2.2 f' c z hf' hc hz
theorem PC_sc {s : qm_Hp} {p w : Nat} {y : VW} (h : PC s p w y) (i : Nat) (hi : i < 5) (v : Int32) : PC (uI s 3 p (8 + i) v) p w (vset y 0 i v) := by
  have hs : ∀ i', i' < 5 → zI s 3 p (8 + i') = y 0 i' := fun i' hi' => by
    have : i' = 0 ∨ i' = 1 ∨ i' = 2 ∨ i' = 3 ∨ i' = 4 := by omega
    rcases this with q | q | q | q | q <;> subst q
    · exact h.2.1.1
    · exact h.2.1.2.1
    · exact h.2.1.2.2.1
    · exact h.2.1.2.2.2.1
    · exact h.2.1.2.2.2.2
  have hv : ∀ i', i' < 5 → zI (uI s 3 p (8 + i) v) 3 p (8 + i') = vset y 0 i v 0 i' := fun i' hi' => by
    rw [zI_uI]
    unfold vset
    by_cases q : i' = i
    · rw [if_pos ⟨rfl, rfl, by omega⟩, if_pos ⟨rfl, q⟩]
    · rw [if_neg (fun g => q (by omega)), if_neg (fun g => q g.2)]
      exact hs i' hi'
  refine ⟨?_, ⟨hv 0 (by omega), hv 1 (by omega), hv 2 (by omega), hv 3 (by omega), hv 4 (by omega)⟩, fun c hc => ?_, fun f' c z hf' hc hz => ?_⟩
  · rw [zI_uI, if_neg (fun g => by omega)]; exact h.1
  · rw [zI_uI, if_neg (fun g => by omega), cn_vset (by decide)]; exact h.2.2.1 c hc
  · rw [cn_vset (by decide)] at hz
    rw [zI_uI, if_neg (fun g => by omega)]
    exact (h.2.2.2 f' c z hf' hc hz).trans (if_neg (fun g => by omega)).symm
/-- a picture that is the same where there are splits -/
def vlike (w : Nat) (y y' : VW) : Prop := (∀ i, i < 5 → y' 0 i = y 0 i) ∧ (∀ c, c < w → y' 1 c = y 1 c) ∧ (∀ f c z, f < 6 → c < w → z < cn y c → y' (2 + f) (8 * c + z) = y (2 + f) (8 * c + z))
theorem vl_cn {w : Nat} {y y' : VW} (h : vlike w y y') {c : Nat} (hc : c < w) : cn y' c = cn y c := by unfold cn; rw [h.2.1 c hc]
theorem PC_like {s : qm_Hp} {p w : Nat} {y y' : VW} (hv : vlike w y y') (h : PC s p w y) : PC s p w y' := by
  refine ⟨h.1, ⟨?_, ?_, ?_, ?_, ?_⟩, fun c hc => by rw [vl_cn hv hc]; exact h.2.2.1 c hc, fun f c z hf hc hz => ?_⟩
  · rw [hv.1 0 (by omega)]; exact h.2.1.1
  · rw [hv.1 1 (by omega)]; exact h.2.1.2.1
  · rw [hv.1 2 (by omega)]; exact h.2.1.2.2.1
  · rw [hv.1 3 (by omega)]; exact h.2.1.2.2.2.1
  · rw [hv.1 4 (by omega)]; exact h.2.1.2.2.2.2
  · rw [vl_cn hv hc] at hz
    rw [hv.2.2 f c z hf hc hz]
    exact h.2.2.2 f c z hf hc hz
theorem PM_like {s : qm_Hp} {b w : Nat} {y y' : VW} (hv : vlike w y y') (h : PM s b w y) : PM s b w y' := by
  refine ⟨h.1, ⟨?_, ?_, ?_, ?_, ?_⟩, fun c hc => by rw [vl_cn hv hc]; exact h.2.2.1 c hc, fun f c z hf hc hz => ?_⟩
  · rw [hv.1 0 (by omega)]; exact h.2.1.1
  · rw [hv.1 1 (by omega)]; exact h.2.1.2.1
  · rw [hv.1 2 (by omega)]; exact h.2.1.2.2.1
  · rw [hv.1 3 (by omega)]; exact h.2.1.2.2.2.1
  · rw [hv.1 4 (by omega)]; exact h.2.1.2.2.2.2
  · rw [vl_cn hv hc] at hz
    rw [hv.2.2 f c z hf hc hz]
    exact h.2.2.2 f c z hf hc hz
theorem OKs_like {y y' : VW} {j : Nat} (h : ∀ f, f < 6 → y' (2 + f) j = y (2 + f) j) (q : OKs y j) : OKs y' j := by
  unfold OKs at *
  rw [h 0 (by omega), h 1 (by omega), h 2 (by omega), h 3 (by omega), h 4 (by omega), h 5 (by omega)]
  exact q
theorem OKP_like {w : Nat} {y y' : VW} (hv : vlike w y y') (h : OKP w y) : OKP w y' := by
  refine ⟨h.1, ?_, fun c hc => ?_, fun c z hc hz => ?_⟩
  · rw [hv.1 0 (by omega), hv.1 1 (by omega), hv.1 2 (by omega), hv.1 3 (by omega), hv.1 4 (by omega)]; exact h.2.1
  · rw [vl_cn hv hc, hv.2.1 c hc]; exact h.2.2.1 c hc
  · rw [vl_cn hv hc] at hz
    exact OKs_like (fun f hf => hv.2.2 f c z hf hc hz) (h.2.2.2 c z hc hz)
theorem ck_rg (v : Int32) {a b : Nat} (hab : a ≤ b) (hb : b < 2147483648) : rg (ck v (nI a) (nI b)) a b := by
  unfold ck
  have ta := nI_toInt (n := a) (by omega)
  have tb := nI_toInt (n := b) (by omega)
  have mk : ∀ x : Int32, (a : Int) ≤ x.toInt → x.toInt ≤ b → rg x a b := fun x h1 h2 => by
    refine ⟨x.toInt.toNat, by omega, by omega, ?_⟩
    rw [fa_eq, nI_toInt (by omega)]
    omega
  by_cases h1 : v < nI b
  · rw [if_pos h1]
    by_cases h2 : nI a < v
    · rw [if_pos h2]
      rw [fa_lt, ta] at h2
      rw [fa_lt, tb] at h1
      exact mk v (by omega) (by omega)
    · rw [if_neg h2]; exact mk _ (by omega) (by omega)
  · rw [if_neg h1]
    by_cases h2 : nI a < nI b
    · rw [if_pos h2]; exact mk _ (by omega) (by omega)
    · rw [if_neg h2]; exact mk _ (by omega) (by omega)
theorem drd_rg (τ : TX) (y : VW) (w : Nat) (W : Nat → Int32) (c z : Nat) : rg (drd τ y w W c z) 0 2000 := by
  unfold drd
  by_cases h : fnd τ 0 < τ.1
  · rw [if_pos h]; exact ck_rg _ (by decide) (by decide)
  · rw [if_neg h]; exact ck_rg _ (by decide) (by decide)
theorem tl_cong {y y' : VW} : ∀ {n : Nat}, (∀ c, c < n → cn y' c = cn y c) → tl y' n = tl y n
  | 0, _ => rfl
  | n + 1, h => by rw [tl_s, tl_s, tl_cong (fun c hc => h c (by omega)), h n (by omega)]
/-- names hang on a split's own cell, the counts and the scalars -/
theorem ev_cong {w : Nat} {y y' : VW} (W : Nat → Int32) {c z : Nat} (hc : c < w) (h0 : ∀ i, i < 5 → y' 0 i = y 0 i) (h1 : ∀ c, c < w → y' 1 c = y 1 c) (h2 : ∀ f, f < 6 → y' (2 + f) (8 * c + z) = y (2 + f) (8 * c + z)) : ev y' w W c z = ev y w W c z := by
  have hcn : ∀ c, c < w → cn y' c = cn y c := fun c hc => by unfold cn; rw [h1 c hc]
  have hnb : nbs y' w c z = nbs y w c z := by
    unfold nbs
    rw [hcn c hc]
    congr 1
    · congr 1
      by_cases q : 0 < c
      · rw [hcn (c - 1) (by omega)]
      · rw [if_neg (fun g => q g.1), if_neg (fun g => q g.1)]
    · by_cases q : c + 1 < w
      · rw [hcn (c + 1) q]
      · rw [if_neg (fun g => q g.1), if_neg (fun g => q g.1)]
  funext v
  unfold ev
  rw [hnb, hcn c hc, h0 0 (by omega), h0 1 (by omega), h0 2 (by omega), h0 3 (by omega), h0 4 (by omega), tl_cong hcn]
  have a0 := h2 0 (by omega)
  have a1 := h2 1 (by omega)
  have a2 := h2 2 (by omega)
  have a3 := h2 3 (by omega)
  rw [show 2 + 0 = 2 from rfl] at a0
  rw [show 2 + 1 = 3 from rfl] at a1
  rw [show 2 + 2 = 4 from rfl] at a2
  rw [show 2 + 3 = 5 from rfl] at a3
  rw [a0, a1, a2, a3]
theorem drd_cong {τ : TX} {w : Nat} {y y' : VW} (W : Nat → Int32) {c z : Nat} (hc : c < w) (h0 : ∀ i, i < 5 → y' 0 i = y 0 i) (h1 : ∀ c, c < w → y' 1 c = y 1 c) (h2 : ∀ f, f < 6 → y' (2 + f) (8 * c + z) = y (2 + f) (8 * c + z)) : drd τ y' w W c z = drd τ y w W c z := by
  unfold drd dless
  have a2 := h2 2 (by omega)
  have a3 := h2 3 (by omega)
  rw [show 2 + 2 = 4 from rfl] at a2
  rw [show 2 + 3 = 5 from rfl] at a3
  rw [ev_cong W hc h0 h1 h2, a2, a3]
