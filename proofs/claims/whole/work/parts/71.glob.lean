/-! the whole state of both, in one picture: w, the yard y, the kept one k, the tape tp of fd bytes, the last fault fa at pl, the texts T -/
def YC (s : qm_Hp) (i w : Nat) (y : VW) : Prop := (zI s 2 i 5 = y 0 5 ∧ zI s 2 i 11 = y 0 6 ∧ zI s 2 i 12 = y 0 7 ∧ zI s 2 i 10 = y 0 8) ∧ (∀ j, j < 12 → zI s 21 i j = y 8 j ∧ zI s 22 i j = y 9 j ∧ zI s 23 i j = y 10 j ∧ zI s 24 i j = y 11 j) ∧ (∀ j, j < 40 → zI s 25 i j = y 12 j) ∧ (∀ j, j < 4 → zI s 26 i j = y 13 j ∧ zI s 27 i j = y 14 j) ∧ (∀ c, c < w → zI s 28 i c = y 15 c)
def YM (s : qm_Hp) (b w : Nat) (y : VW) : Prop := (zI s 61 0 (b + 1) = y 0 5 ∧ zI s 61 0 (b + 2) = y 0 6 ∧ zI s 61 0 (b + 3) = y 0 7 ∧ zI s 61 0 (b + 8) = y 0 8) ∧ (∀ j, j < 12 → ∀ i, i < 4 → zI s 61 0 (b + 20 + 4 * j + i) = y (8 + i) j) ∧ (∀ j, j < 40 → zI s 61 0 (b + 70 + j) = y 12 j) ∧ (∀ j, j < 4 → zI s 61 0 (b + 10 + 2 * j) = y 13 j ∧ zI s 61 0 (b + 10 + 2 * j + 1) = y 14 j) ∧ (∀ c, c < w → zI s 61 0 (b + 112 + c) = y 15 c)
def OKY (w : Nat) (y : VW) : Prop := rg (y 0 5) 0 12 ∧ rg (y 0 6) 0 4 ∧ (y 0 7 = N1 ∨ ∃ t u, y 0 7 = nI t ∧ y 0 6 = nI u ∧ t < u ∧ u ≤ 4) ∧ rg (y 0 8) 0 1 ∧ (∀ j, j < 12 → ∀ i, i < 4 → rg (y (8 + i) j) 0 40) ∧ (∀ j, j < 40 → rg (y 12 j) 0 11) ∧ (∀ j, j < 4 → rg (y 13 j) 0 2000 ∧ rg (y 14 j) 0 2000) ∧ (∀ c, c < w → rg (y 15 c) 0 8)
def nt (y : VW) : Nat := (y 0 6).toNatClampNeg
def τ0 : TX := (0, fun _ => (0, []))
def ru (y : VW) : Nat := if y 0 7 = N1 then 4 else (y 0 7).toNatClampNeg
def rul (T : Nat → TX) (y : VW) : TX := if y 0 7 = N1 then τ0 else T (y 0 7).toNatClampNeg
def RC (s : qm_Hp) (w : Nat) (y k : VW) (tp : Nat → Int32) (fd : Nat) (fa pl : Int32) (T : Nat → TX) : Prop :=
  (PC s 0 w y ∧ YC s 0 w y) ∧ (PC s 1 w k ∧ YC s 1 w k) ∧ (∀ p, p < 9 → zI s 3 p 0 = nI w) ∧ (zI s 1 0 7 = nI fd ∧ ∀ j, j < fd → zI s 52 0 j = tp j) ∧ ((zI s 1 0 8 = nI 0 ∧ fa = N1 ∧ pl = N1) ∨ (zI s 1 0 8 = nI 1 ∧ zI s 6 0 4 = fa ∧ zI s 6 0 5 = pl)) ∧ ((∀ t, t < nt y → TC s t (T t)) ∧ TC s 4 τ0) ∧ zP s 5 0 0 = (4, ru y)
def RM (s : qm_Hp) (w : Nat) (y k : VW) (tp : Nat → Int32) (fd : Nat) (fa pl : Int32) (T : Nat → TX) : Prop :=
  (zI s 9 0 2 = nI 0 ∧ zI s 9 0 27 = nI 0) ∧ (PM s 0 w y ∧ YM s 0 w y) ∧ (PM s 420 w k ∧ YM s 420 w k) ∧ (zI s 9 0 5 = nI fd ∧ ∀ j, j < fd → zI s 63 0 j = tp j) ∧ (zI s 9 0 6 = fa ∧ zI s 9 0 7 = pl) ∧ (∀ t, t < nt y → TM s t (T t))
def OKG (w : Nat) (y k : VW) (tp : Nat → Int32) (fd : Nat) (T : Nat → TX) : Prop :=
  (OKP w y ∧ OKY w y) ∧ (OKP w k ∧ OKY w k) ∧ nt k ≤ nt y ∧ (∀ t, t < nt y → OKT (T t)) ∧ (fd ≤ 300 ∧ ∀ j, j < fd → rg (tp j) 0 255)
/-- the class's kinds, the reference's kinds -/
def CP : Nat → Nat → Prop := fun k _ => k ≤ 55 ∧ k ≠ 9
def MP : Nat → Nat → Prop := fun k _ => k = 9 ∨ (61 ≤ k ∧ k ≤ 76)
theorem okt0 : OKT τ0 := ⟨by decide, fun k hk => absurd hk (Nat.not_lt_zero k)⟩
theorem ok_rul {w : Nat} {y k : VW} {tp : Nat → Int32} {fd : Nat} {T : Nat → TX} (h : OKG w y k tp fd T) : OKT (rul T y) := by
  unfold rul
  by_cases q : y 0 7 = N1
  · rw [if_pos q]; exact okt0
  · rw [if_neg q]
    rcases h.1.2.2.2.1 with g | ⟨t, u, e1, e2, h1, h2⟩
    · exact absurd g q
    · refine h.2.2.2.1 _ ?_
      unfold nt
      rw [e1, e2, nI_clamp (by omega), nI_clamp (by omega)]
      exact h1
theorem RC_LC {s : qm_Hp} {w : Nat} {y k : VW} {tp : Nat → Int32} {fd : Nat} {fa pl : Int32} {T : Nat → TX} (h : RC s w y k tp fd fa pl T) (ok : OKG w y k tp fd T) : LC s (rul T y) := by
  refine ⟨ru y, h.2.2.2.2.2.2, ?_⟩
  unfold rul ru
  by_cases q : y 0 7 = N1
  · rw [if_pos q, if_pos q]; exact h.2.2.2.2.2.1.2
  · rw [if_neg q, if_neg q]
    rcases ok.1.2.2.2.1 with g | ⟨t, u, e1, e2, h1, h2⟩
    · exact absurd g q
    · refine h.2.2.2.2.2.1.1 _ ?_
      unfold nt
      rw [e1, e2, nI_clamp (by omega), nI_clamp (by omega)]
      exact h1
theorem RM_LM {s : qm_Hp} {w : Nat} {y k : VW} {tp : Nat → Int32} {fd : Nat} {fa pl : Int32} {T : Nat → TX} (h : RM s w y k tp fd fa pl T) (ok : OKG w y k tp fd T) : LM s (rul T y) := by
  unfold rul
  have h3 : zI s 61 0 3 = y 0 7 := h.2.1.2.1.2.2.1
  by_cases q : y 0 7 = N1
  · rw [if_pos q]; exact Or.inl ⟨h3.trans q, rfl⟩
  · rw [if_neg q]
    rcases ok.1.2.2.2.1 with g | ⟨t, u, e1, e2, h1, h2⟩
    · exact absurd g q
    · refine Or.inr ⟨t, by omega, h3.trans e1, ?_⟩
      rw [e1, nI_clamp (by omega)]
      refine h.2.2.2.2.2 t ?_
      unfold nt
      rw [e2, nI_clamp (by omega)]
      exact h1
theorem YC_fp {P : Nat → Nat → Prop} {s s' : qm_Hp} {i w : Nat} {y : VW} (hK : ∀ k, (k = 2 ∨ (21 ≤ k ∧ k ≤ 28)) → ¬ P k i) (hf : fp P s s') (h : YC s i w y) : YC s' i w y := by
  have e : ∀ k j, (k = 2 ∨ (21 ≤ k ∧ k ≤ 28)) → zI s' k i j = zI s k i j := fun k j hk => hf.1 k i j (hK k hk)
  refine ⟨⟨(e 2 5 (by omega)).trans h.1.1, (e 2 11 (by omega)).trans h.1.2.1, (e 2 12 (by omega)).trans h.1.2.2.1, (e 2 10 (by omega)).trans h.1.2.2.2⟩, fun j hj => ?_, fun j hj => (e 25 j (by omega)).trans (h.2.2.1 j hj), fun j hj => ?_, fun c hc => (e 28 c (by omega)).trans (h.2.2.2.2 c hc)⟩
  · obtain ⟨a1, a2, a3, a4⟩ := h.2.1 j hj
    exact ⟨(e 21 j (by omega)).trans a1, (e 22 j (by omega)).trans a2, (e 23 j (by omega)).trans a3, (e 24 j (by omega)).trans a4⟩
  · obtain ⟨a1, a2⟩ := h.2.2.2.1 j hj
    exact ⟨(e 26 j (by omega)).trans a1, (e 27 j (by omega)).trans a2⟩
theorem YM_eq {s s' : qm_Hp} {b w : Nat} {y : VW} (hw : w ≤ 6) (e : ∀ j, b ≤ j → j < b + 120 → j ≠ b → (j < b + 4 ∨ b + 8 ≤ j) → zI s' 61 0 j = zI s 61 0 j) (h : YM s b w y) : YM s' b w y := by
  refine ⟨⟨(e _ (by omega) (by omega) (by omega) (by omega)).trans h.1.1, (e _ (by omega) (by omega) (by omega) (by omega)).trans h.1.2.1, (e _ (by omega) (by omega) (by omega) (by omega)).trans h.1.2.2.1, (e _ (by omega) (by omega) (by omega) (by omega)).trans h.1.2.2.2⟩, fun j hj i hi => (e _ (by omega) (by omega) (by omega) (by omega)).trans (h.2.1 j hj i hi), fun j hj => (e _ (by omega) (by omega) (by omega) (by omega)).trans (h.2.2.1 j hj), fun j hj => ?_, fun c hc => (e _ (by omega) (by omega) (by omega) (by omega)).trans (h.2.2.2.2 c hc)⟩
  obtain ⟨a1, a2⟩ := h.2.2.2.1 j hj
  exact ⟨(e _ (by omega) (by omega) (by omega) (by omega)).trans a1, (e _ (by omega) (by omega) (by omega) (by omega)).trans a2⟩
/-- what is no cell of the class's state -/
def SP : Nat → Nat → Prop := fun k i => k = 41 ∨ k = 42 ∨ k = 53 ∨ k = 54 ∨ k = 55 ∨ k = 47 ∨ k = 48 ∨ k = 8 ∨ k = 7 ∨ k = 43 ∨ k = 44 ∨ k = 45 ∨ k = 9 ∨ 56 ≤ k ∨ (2 ≤ i ∧ (k = 3 ∨ (11 ≤ k ∧ k ≤ 17)))
theorem RC_SP {s s' : qm_Hp} {w : Nat} {y k : VW} {tp : Nat → Int32} {fd : Nat} {fa pl : Int32} {T : Nat → TX} (hf : fp SP s s') (hw : ∀ p, p < 9 → zI s' 3 p 0 = nI w) (h : RC s w y k tp fd fa pl T) : RC s' w y k tp fd fa pl T := by
  obtain ⟨⟨a1, a2⟩, ⟨a3, a4⟩, a5, ⟨a6, a7⟩, a9, ⟨a10, a11⟩, a12⟩ := h
  have e : ∀ k i j, ¬ SP k i → zI s' k i j = zI s k i j := hf.1
  refine ⟨⟨PC_fp (fun k hk => by unfold SP; omega) hf a1, YC_fp (fun k hk => by unfold SP; omega) hf a2⟩, ⟨PC_fp (fun k hk => by unfold SP; omega) hf a3, YC_fp (fun k hk => by unfold SP; omega) hf a4⟩, hw, ⟨(e 1 0 7 (by unfold SP; omega)).trans a6, fun j hj => (e 52 0 j (by unfold SP; omega)).trans (a7 j hj)⟩, ?_, ⟨fun t ht => TC_fp (fun k hk => by unfold SP; omega) hf (a10 t ht), TC_fp (fun k hk => by unfold SP; omega) hf a11⟩, (hf.2.2 5 0 0 (by unfold SP; omega)).trans a12⟩
  rw [e 1 0 8 (by unfold SP; omega), e 6 0 4 (by unfold SP; omega), e 6 0 5 (by unfold SP; omega)]
  exact a9
theorem RC_M {s s' : qm_Hp} {w : Nat} {y k : VW} {tp : Nat → Int32} {fd : Nat} {fa pl : Int32} {T : Nat → TX} (hf : fp MP s s') (h : RC s w y k tp fd fa pl T) : RC s' w y k tp fd fa pl T :=
  RC_SP (fp_mono (fun k i hk => by unfold MP at hk; unfold SP; omega) hf) (fun p hp => (hf.1 3 p 0 (by unfold MP; omega)).trans (h.2.2.1 p hp)) h
theorem PM_eq {s s' : qm_Hp} {b w : Nat} {y : VW} (e9 : zI s' 9 0 1 = zI s 9 0 1) (e : ∀ j, b ≤ j → zI s' 61 0 j = zI s 61 0 j) (h : PM s b w y) : PM s' b w y :=
  ⟨e9.trans h.1, ⟨(e _ (by omega)).trans h.2.1.1, (e _ (by omega)).trans h.2.1.2.1, (e _ (by omega)).trans h.2.1.2.2.1, (e _ (by omega)).trans h.2.1.2.2.2.1, (e _ (by omega)).trans h.2.1.2.2.2.2⟩, fun c hc => (e _ (by omega)).trans (h.2.2.1 c hc), fun f c z hf' hc hz => (e _ (by omega)).trans (h.2.2.2 f c z hf' hc hz)⟩
theorem RM_e {s s' : qm_Hp} {w : Nat} {y k : VW} {tp : Nat → Int32} {fd : Nat} {fa pl : Int32} {T : Nat → TX} (hw : w ≤ 6) (e9 : ∀ j, (j = 1 ∨ j = 2 ∨ j = 27 ∨ j = 5 ∨ j = 6 ∨ j = 7) → zI s' 9 0 j = zI s 9 0 j) (e61 : ∀ j, zI s' 61 0 j = zI s 61 0 j) (e62 : ∀ j, zI s' 62 0 j = zI s 62 0 j) (e63 : ∀ j, zI s' 63 0 j = zI s 63 0 j) (h : RM s w y k tp fd fa pl T) : RM s' w y k tp fd fa pl T := by
  obtain ⟨⟨a1, a2⟩, ⟨a3, a4⟩, ⟨a5, a6⟩, ⟨a7, a8⟩, ⟨a9, a10⟩, a11⟩ := h
  exact ⟨⟨(e9 2 (by omega)).trans a1, (e9 27 (by omega)).trans a2⟩, ⟨PM_eq (e9 1 (by omega)) (fun j _ => e61 j) a3, YM_eq hw (fun j _ _ _ _ => e61 j) a4⟩, ⟨PM_eq (e9 1 (by omega)) (fun j _ => e61 j) a5, YM_eq hw (fun j _ _ _ _ => e61 j) a6⟩, ⟨(e9 5 (by omega)).trans a7, fun j hj => (e63 j).trans (a8 j hj)⟩, ⟨(e9 6 (by omega)).trans a9, (e9 7 (by omega)).trans a10⟩, fun t ht => TM_eq e62 (a11 t ht)⟩
theorem RM_C {s s' : qm_Hp} {w : Nat} {y k : VW} {tp : Nat → Int32} {fd : Nat} {fa pl : Int32} {T : Nat → TX} (hw : w ≤ 6) (hf : fp CP s s') (h : RM s w y k tp fd fa pl T) : RM s' w y k tp fd fa pl T :=
  RM_e hw (fun j _ => hf.1 9 0 j (by unfold CP; omega)) (fun j => hf.1 61 0 j (by unfold CP; omega)) (fun j => hf.1 62 0 j (by unfold CP; omega)) (fun j => hf.1 63 0 j (by unfold CP; omega)) h
theorem RM_fr {K : List Nat} {s s' : qm_Hp} {w : Nat} {y k : VW} {tp : Nat → Int32} {fd : Nat} {fa pl : Int32} {T : Nat → TX} (hw : w ≤ 6) (hK : ∀ k, k ∈ [9, 61, 62, 63] → k ∉ K) (hf : fr K s s') (h : RM s w y k tp fd fa pl T) : RM s' w y k tp fd fa pl T :=
  RM_e hw (fun j _ => hf.1 9 0 j (hK 9 (by decide))) (fun j => hf.1 61 0 j (hK 61 (by decide))) (fun j => hf.1 62 0 j (hK 62 (by decide))) (fun j => hf.1 63 0 j (hK 63 (by decide))) h
/-- both, in their bounds -/
def GG (s : qm_Hp) (w : Nat) : Prop := ∃ y k tp fd fa pl T, RC s w y k tp fd fa pl T ∧ RM s w y k tp fd fa pl T ∧ OKG w y k tp fd T
/-- a call of both: one answer, and the state goes on -/
def STP (D fC fM : Nat) (as : List qm_AV) : Prop := ∀ (s : qm_Hp) (w : Nat), GG s w → ∃ r s1 s2, qm_evM D fC (qP 1 0 :: as) s = some (some (qI r), s1) ∧ qm_evM D fM (qP 9 0 :: as) s1 = some (some (qI r), s2) ∧ GG s2 w ∧ fp CP s s1 ∧ fp MP s1 s2
/-- a call that changes nothing of the state -/
theorem stp_ro {D fC fM : Nat} {as : List qm_AV} (h : ∀ (s : qm_Hp) (w : Nat) (y k : VW) (tp : Nat → Int32) (fd : Nat) (fa pl : Int32) (T : Nat → TX), OKG w y k tp fd T → ∃ r, (RC s w y k tp fd fa pl T → ∃ s1, qm_evM D fC (qP 1 0 :: as) s = some (some (qI r), s1) ∧ fp CP s s1 ∧ RC s1 w y k tp fd fa pl T) ∧ (∀ s1, RM s1 w y k tp fd fa pl T → ∃ s2, qm_evM D fM (qP 9 0 :: as) s1 = some (some (qI r), s2) ∧ fp MP s1 s2 ∧ RM s2 w y k tp fd fa pl T)) : STP D fC fM as := by
  intro s w ⟨y, k, tp, fd, fa, pl, T, h1, h2, h3⟩
  obtain ⟨r, g1, g2⟩ := h s w y k tp fd fa pl T h3
  obtain ⟨s1, a1, a2, a3⟩ := g1 h1
  obtain ⟨s2, b1, b2, b3⟩ := g2 s1 (RM_C h3.1.1.1.2 a2 h2)
  exact ⟨r, s1, s2, a1, b1, ⟨y, k, tp, fd, fa, pl, T, RC_M b2 a3, b3, h3⟩, a2, b2⟩
/-- a call that changes the state alike in both -/
theorem stp_rw {D fC fM : Nat} {as : List qm_AV} (h : ∀ (s : qm_Hp) (w : Nat) (y k : VW) (tp : Nat → Int32) (fd : Nat) (fa pl : Int32) (T : Nat → TX), RC s w y k tp fd fa pl T → RM s w y k tp fd fa pl T → OKG w y k tp fd T → ∃ r y' k' tp' fd' fa' pl' T', OKG w y' k' tp' fd' T' ∧ (∃ s1, qm_evM D fC (qP 1 0 :: as) s = some (some (qI r), s1) ∧ fp CP s s1 ∧ RC s1 w y' k' tp' fd' fa' pl' T') ∧ (∀ s1, RM s1 w y k tp fd fa pl T → ∃ s2, qm_evM D fM (qP 9 0 :: as) s1 = some (some (qI r), s2) ∧ fp MP s1 s2 ∧ RM s2 w y' k' tp' fd' fa' pl' T')) : STP D fC fM as := by
  intro s w ⟨y, k, tp, fd, fa, pl, T, h1, h2, h3⟩
  obtain ⟨r, y', k', tp', fd', fa', pl', T', h4, g1, g2⟩ := h s w y k tp fd fa pl T h1 h2 h3
  obtain ⟨s1, a1, a2, a3⟩ := g1
  obtain ⟨s2, b1, b2, b3⟩ := g2 s1 (RM_C h3.1.1.1.2 a2 h2)
  exact ⟨r, s1, s2, a1, b1, ⟨y', k', tp', fd', fa', pl', T', RC_M b2 a3, b3, h4⟩, a2, b2⟩
