/-! changes of the yard beside its pile -/
def vq (y y' : VW) : Prop := (∀ a j, ((a = 0 ∧ j < 5) ∨ (1 ≤ a ∧ a ≤ 7)) → y' a j = y a j) ∧ y' 0 6 = y 0 6 ∧ y' 0 7 = y 0 7
theorem vq_set {y : VW} {a j : Nat} {v : Int32} (h : 8 ≤ a ∨ (a = 0 ∧ (j = 5 ∨ j = 8))) : vq y (vset y a j v) := ⟨fun a' j' h' => vset_ne (fun g => by omega), vset_ne (fun g => by omega), vset_ne (fun g => by omega)⟩
theorem vq_trans {y y' y'' : VW} (h1 : vq y y') (h2 : vq y' y'') : vq y y'' := ⟨fun a j h => (h2.1 a j h).trans (h1.1 a j h), h2.2.1.trans h1.2.1, h2.2.2.trans h1.2.2⟩
theorem vq_like {w : Nat} {y y' : VW} (h : vq y y') : vlike w y y' := ⟨fun i hi => h.1 0 i (by omega), fun c _ => h.1 1 c (by omega), fun f c z hf _ _ => h.1 (2 + f) _ (by omega)⟩
def YP : Nat → Nat → Prop := fun k i => i = 0 ∧ (k = 2 ∨ (21 ≤ k ∧ k ≤ 28))
theorem RC_yard {s s' : qm_Hp} {w : Nat} {y y' k : VW} {tp : Nat → Int32} {fd : Nat} {fa pl : Int32} {T : Nat → TX} (hf : fp YP s s') (hY : YC s' 0 w y') (hv : vq y y') (h : RC s w y k tp fd fa pl T) : RC s' w y' k tp fd fa pl T := by
  obtain ⟨⟨a1, a2⟩, ⟨a3, a4⟩, a5, ⟨a6, a7⟩, a9, ⟨a10, a11⟩, a12⟩ := h
  have e : ∀ k i j, ¬ YP k i → zI s' k i j = zI s k i j := hf.1
  have hnt : nt y' = nt y := by unfold nt; rw [hv.2.1]
  have hru : ru y' = ru y := by unfold ru; rw [hv.2.2]
  refine ⟨⟨PC_like (vq_like hv) (PC_fp (fun k hk => by unfold YP; omega) hf a1), hY⟩, ⟨PC_fp (fun k hk => by unfold YP; omega) hf a3, YC_fp (fun k hk => by unfold YP; omega) hf a4⟩, fun p hp => (e 3 p 0 (by unfold YP; omega)).trans (a5 p hp), ⟨(e 1 0 7 (by unfold YP; omega)).trans a6, fun j hj => (e 52 0 j (by unfold YP; omega)).trans (a7 j hj)⟩, ?_, ⟨fun t ht => TC_fp (fun k hk => by unfold YP; omega) hf (a10 t (by rw [hnt] at ht; exact ht)), TC_fp (fun k hk => by unfold YP; omega) hf a11⟩, ?_⟩
  · rw [e 1 0 8 (by unfold YP; omega), e 6 0 4 (by unfold YP; omega), e 6 0 5 (by unfold YP; omega)]
    exact a9
  · rw [hru]; exact (hf.2.2 5 0 0 (by unfold YP; omega)).trans a12
theorem RM_yard {s s' : qm_Hp} {w : Nat} {y y' k : VW} {tp : Nat → Int32} {fd : Nat} {fa pl : Int32} {T : Nat → TX} (hw : w ≤ 6) (e9 : ∀ j, (j = 1 ∨ j = 2 ∨ j = 27 ∨ j = 5 ∨ j = 6 ∨ j = 7) → zI s' 9 0 j = zI s 9 0 j) (e61 : ∀ j, (j = 0 ∨ (4 ≤ j ∧ j < 8) ∨ 120 ≤ j) → zI s' 61 0 j = zI s 61 0 j) (e62 : ∀ j, zI s' 62 0 j = zI s 62 0 j) (e63 : ∀ j, zI s' 63 0 j = zI s 63 0 j) (hY : YM s' 0 w y') (hv : vq y y') (h : RM s w y k tp fd fa pl T) : RM s' w y' k tp fd fa pl T := by
  obtain ⟨⟨a1, a2⟩, ⟨a3, a4⟩, ⟨a5, a6⟩, ⟨a7, a8⟩, ⟨a9, a10⟩, a11⟩ := h
  have hnt : nt y' = nt y := by unfold nt; rw [hv.2.1]
  refine ⟨⟨(e9 2 (by omega)).trans a1, (e9 27 (by omega)).trans a2⟩, ⟨PM_like (vq_like hv) ?_, hY⟩, ⟨PM_eq (e9 1 (by omega)) (fun j hj => e61 j (by omega)) a5, YM_eq hw (fun j h1 h2 h3 h4 => e61 j (by omega)) a6⟩, ⟨(e9 5 (by omega)).trans a7, fun j hj => (e63 j).trans (a8 j hj)⟩, ⟨(e9 6 (by omega)).trans a9, (e9 7 (by omega)).trans a10⟩, fun t ht => TM_eq e62 (a11 t (by rw [hnt] at ht; exact ht))⟩
  exact ⟨(e9 1 (by omega)).trans a3.1, ⟨(e61 _ (by omega)).trans a3.2.1.1, (e61 _ (by omega)).trans a3.2.1.2.1, (e61 _ (by omega)).trans a3.2.1.2.2.1, (e61 _ (by omega)).trans a3.2.1.2.2.2.1, (e61 _ (by omega)).trans a3.2.1.2.2.2.2⟩, fun c hc => (e61 _ (by omega)).trans (a3.2.2.1 c hc), fun f c z hf' hc hz => (e61 _ (by omega)).trans (a3.2.2.2 f c z hf' hc hz)⟩
theorem OKG_yard {w : Nat} {y y' k : VW} {tp : Nat → Int32} {fd : Nat} {T : Nat → TX} (hY : OKY w y') (hv : vq y y') (h : OKG w y k tp fd T) : OKG w y' k tp fd T := by
  have hnt : nt y' = nt y := by unfold nt; rw [hv.2.1]
  exact ⟨⟨OKP_like (vq_like hv) h.1.1, hY⟩, h.2.1, by rw [hnt]; exact h.2.2.1, fun t ht => h.2.2.2.1 t (by rw [hnt] at ht; exact ht), h.2.2.2.2⟩
theorem YC_u {s : qm_Hp} {i w : Nat} {y : VW} (h : YC s i w y) (g j : Nat) (hg : g < 8) (v : Int32) : YC (uI s (21 + g) i j v) i w (vset y (8 + g) j v) := by
  have e : ∀ g' j', g' < 8 → zI s (21 + g') i j' = y (8 + g') j' → zI (uI s (21 + g) i j v) (21 + g') i j' = vset y (8 + g) j v (8 + g') j' := fun g' j' hg' q => by
    rw [zI_uI]
    unfold vset
    by_cases q2 : g' = g ∧ j' = j
    · rw [if_pos ⟨by omega, rfl, q2.2⟩, if_pos ⟨by omega, q2.2⟩]
    · rw [if_neg (fun z => q2 ⟨by omega, z.2.2⟩), if_neg (fun z => q2 ⟨by omega, z.2⟩)]; exact q
  have e2 : ∀ j', zI (uI s (21 + g) i j v) 2 i j' = zI s 2 i j' := fun j' => by rw [zI_uI, if_neg (fun z => by omega)]
  have ev : ∀ j', vset y (8 + g) j v 0 j' = y 0 j' := fun j' => vset_ne (fun z => by omega)
  refine ⟨⟨?_, ?_, ?_, ?_⟩, fun j' hj => ?_, fun j' hj => e 4 j' (by omega) (h.2.2.1 j' hj), fun j' hj => ?_, fun c hc => e 7 c (by omega) (h.2.2.2.2 c hc)⟩
  · rw [e2, ev]; exact h.1.1
  · rw [e2, ev]; exact h.1.2.1
  · rw [e2, ev]; exact h.1.2.2.1
  · rw [e2, ev]; exact h.1.2.2.2
  · obtain ⟨a1, a2, a3, a4⟩ := h.2.1 j' hj
    exact ⟨e 0 j' (by omega) a1, e 1 j' (by omega) a2, e 2 j' (by omega) a3, e 3 j' (by omega) a4⟩
  · obtain ⟨a1, a2⟩ := h.2.2.2.1 j' hj
    exact ⟨e 5 j' (by omega) a1, e 6 j' (by omega) a2⟩
def ysl (i : Nat) : Nat := match i with | 5 => 5 | 6 => 11 | 7 => 12 | _ => 10
theorem YC_s {s : qm_Hp} {i w : Nat} {y : VW} (h : YC s i w y) (j : Nat) (hj : 5 ≤ j ∧ j ≤ 8) (v : Int32) : YC (uI s 2 i (ysl j) v) i w (vset y 0 j v) := by
  have e : ∀ j', 5 ≤ j' → j' ≤ 8 → zI s 2 i (ysl j') = y 0 j' → zI (uI s 2 i (ysl j) v) 2 i (ysl j') = vset y 0 j v 0 j' := fun j' h1 h2 q => by
    rw [zI_uI]
    unfold vset
    by_cases q2 : j' = j
    · rw [if_pos ⟨rfl, rfl, by rw [q2]⟩, if_pos ⟨rfl, q2⟩]
    · rw [if_neg (fun z => q2 ?_), if_neg (fun z => q2 z.2)]
      · exact q
      · have g3 : ysl j' = ysl j := z.2.2
        have a1 : j' = 5 ∨ j' = 6 ∨ j' = 7 ∨ j' = 8 := by omega
        have a2 : j = 5 ∨ j = 6 ∨ j = 7 ∨ j = 8 := by omega
        rcases a1 with a1 | a1 | a1 | a1 <;> rcases a2 with a2 | a2 | a2 | a2 <;> subst a1 <;> subst a2 <;> first | rfl | exact absurd g3 (by decide)
  have e2 : ∀ k j', 21 ≤ k → zI (uI s 2 i (ysl j) v) k i j' = zI s k i j' := fun k j' hk => by rw [zI_uI, if_neg (fun z => by omega)]
  have ev : ∀ a j', 1 ≤ a → vset y 0 j v a j' = y a j' := fun a j' ha => vset_ne (fun z => by omega)
  refine ⟨⟨e 5 (by omega) (by omega) h.1.1, e 6 (by omega) (by omega) h.1.2.1, e 7 (by omega) (by omega) h.1.2.2.1, e 8 (by omega) (by omega) h.1.2.2.2⟩, fun j' hj => ?_, fun j' hj => ?_, fun j' hj => ?_, fun c hc => ?_⟩
  · obtain ⟨a1, a2, a3, a4⟩ := h.2.1 j' hj
    exact ⟨by rw [e2 _ _ (by omega), ev _ _ (by omega)]; exact a1, by rw [e2 _ _ (by omega), ev _ _ (by omega)]; exact a2, by rw [e2 _ _ (by omega), ev _ _ (by omega)]; exact a3, by rw [e2 _ _ (by omega), ev _ _ (by omega)]; exact a4⟩
  · rw [e2 _ _ (by omega), ev _ _ (by omega)]; exact h.2.2.1 j' hj
  · obtain ⟨a1, a2⟩ := h.2.2.2.1 j' hj
    exact ⟨by rw [e2 _ _ (by omega), ev _ _ (by omega)]; exact a1, by rw [e2 _ _ (by omega), ev _ _ (by omega)]; exact a2⟩
  · rw [e2 _ _ (by omega), ev _ _ (by omega)]; exact h.2.2.2.2 c hc
/-- the reference's place of a yard's cell -/
def ym (a j : Nat) : Nat := match a with | 0 => (match j with | 5 => 1 | 6 => 2 | 7 => 3 | _ => 8) | 8 => 20 + 4 * j | 9 => 21 + 4 * j | 10 => 22 + 4 * j | 11 => 23 + 4 * j | 12 => 70 + j | 13 => 10 + 2 * j | 14 => 11 + 2 * j | _ => 112 + j
def ymd (a j : Nat) : Prop := (a = 0 ∧ 5 ≤ j ∧ j ≤ 8) ∨ (8 ≤ a ∧ a ≤ 11 ∧ j < 12) ∨ (a = 12 ∧ j < 40) ∨ ((a = 13 ∨ a = 14) ∧ j < 4) ∨ (a = 15 ∧ j < 6)
def ymn (a j m : Nat) : Prop := (a = 0 ∧ ((j = 5 ∧ m = 1) ∨ (j = 6 ∧ m = 2) ∨ (j = 7 ∧ m = 3) ∨ (j = 8 ∧ m = 8))) ∨ (8 ≤ a ∧ a ≤ 11 ∧ j < 12 ∧ m = 12 + a + 4 * j) ∨ (a = 12 ∧ j < 40 ∧ m = 70 + j) ∨ ((a = 13 ∨ a = 14) ∧ j < 4 ∧ m + 3 = a + 2 * j) ∨ (a = 15 ∧ j < 6 ∧ m = 112 + j)
theorem YM_u {s : qm_Hp} {b w : Nat} {y : VW} (hw : w ≤ 6) (h : YM s b w y) (a j m : Nat) (hm : ymn a j m) (v : Int32) : YM (uI s 61 0 (b + m) v) b w (vset y a j v) := by
  have e : ∀ a' j' m', ymn a' j' m' → zI s 61 0 (b + m') = y a' j' → zI (uI s 61 0 (b + m) v) 61 0 (b + m') = vset y a j v a' j' := fun a' j' m' hm' q => by
    rw [zI_uI]
    unfold vset
    unfold ymn at hm hm'
    by_cases q2 : a' = a ∧ j' = j
    · rw [if_pos ⟨rfl, rfl, by omega⟩, if_pos q2]
    · rw [if_neg (fun z => q2 (by omega)), if_neg q2]; exact q
  refine ⟨⟨e 0 5 1 (by unfold ymn; omega) h.1.1, e 0 6 2 (by unfold ymn; omega) h.1.2.1, e 0 7 3 (by unfold ymn; omega) h.1.2.2.1, e 0 8 8 (by unfold ymn; omega) h.1.2.2.2⟩, fun j' hj i hi => ?_, fun j' hj => ?_, fun j' hj => ?_, fun c hc => ?_⟩
  · have := e (8 + i) j' (20 + 4 * j' + i) (by unfold ymn; omega) (by rw [← Nat.add_assoc, ← Nat.add_assoc]; exact h.2.1 j' hj i hi)
    rw [← Nat.add_assoc, ← Nat.add_assoc] at this
    exact this
  · have := e 12 j' (70 + j') (by unfold ymn; omega) (by rw [← Nat.add_assoc]; exact h.2.2.1 j' hj)
    rw [← Nat.add_assoc] at this
    exact this
  · obtain ⟨a1, a2⟩ := h.2.2.2.1 j' hj
    have t1 := e 13 j' (10 + 2 * j') (by unfold ymn; omega) (by rw [← Nat.add_assoc]; exact a1)
    have t2 := e 14 j' (10 + 2 * j' + 1) (by unfold ymn; omega) (by rw [← Nat.add_assoc, ← Nat.add_assoc]; exact a2)
    rw [← Nat.add_assoc] at t1
    rw [← Nat.add_assoc, ← Nat.add_assoc] at t2
    exact ⟨t1, t2⟩
  · have := e 15 c (112 + c) (by unfold ymn; omega) (by rw [← Nat.add_assoc]; exact h.2.2.2.2 c hc)
    rw [← Nat.add_assoc] at this
    exact this
theorem OKY_set {w : Nat} {y : VW} (h : OKY w y) (a j : Nat) (v : Int32) (ha : a ≠ 0 ∨ (j ≠ 6 ∧ j ≠ 7)) (h1 : a = 0 → j = 5 → rg v 0 12) (h2 : a = 0 → j = 8 → rg v 0 1) (h3 : 8 ≤ a → a ≤ 11 → rg v 0 40) (h4 : a = 12 → rg v 0 11) (h5 : a = 13 ∨ a = 14 → rg v 0 2000) (h6 : a = 15 → rg v 0 8) : OKY w (vset y a j v) := by
  have e : ∀ a' j' lo hi, rg (y a' j') lo hi → (a' = a → j' = j → rg v lo hi) → rg (vset y a j v a' j') lo hi := fun a' j' lo hi q1 q2 => by
    unfold vset
    by_cases q : a' = a ∧ j' = j
    · rw [if_pos q]; exact q2 q.1 q.2
    · rw [if_neg q]; exact q1
  have e6 : vset y a j v 0 6 = y 0 6 := vset_ne (fun g => by omega)
  have e7 : vset y a j v 0 7 = y 0 7 := vset_ne (fun g => by omega)
  refine ⟨e 0 5 _ _ h.1 (fun g1 g2 => h1 g1.symm g2.symm), by rw [e6]; exact h.2.1, by rw [e6, e7]; exact h.2.2.1, e 0 8 _ _ h.2.2.2.1 (fun g1 g2 => h2 g1.symm g2.symm), fun j' hj i hi => e (8 + i) j' _ _ (h.2.2.2.2.1 j' hj i hi) (fun g1 g2 => h3 (by omega) (by omega)), fun j' hj => e 12 j' _ _ (h.2.2.2.2.2.1 j' hj) (fun g1 g2 => h4 g1.symm), fun j' hj => ?_, fun c hc => e 15 c _ _ (h.2.2.2.2.2.2.2 c hc) (fun g1 g2 => h6 g1.symm)⟩
  obtain ⟨a1, a2⟩ := h.2.2.2.2.2.2.1 j' hj
  exact ⟨e 13 j' _ _ a1 (fun g1 g2 => h5 (Or.inl g1.symm)), e 14 j' _ _ a2 (fun g1 g2 => h5 (Or.inr g1.symm))⟩
theorem yp_u (s s' : qm_Hp) (hf : fp YP s s') (k j : Nat) (v : Int32) (h : k = 2 ∨ (21 ≤ k ∧ k ≤ 28)) : fp YP s (uI s' k 0 j v) := fp_uI (by unfold YP; omega) hf _ _
theorem YP_CP {s s' : qm_Hp} (h : fp YP s s') : fp CP s s' := fp_mono (fun k i hk => by unfold YP at hk; unfold CP; omega) h
theorem mp_uu {s s' : qm_Hp} (h : fp MP s s') (j : Nat) (v : Int32) : fp MP s (uI s' 61 0 j v) := fp_uI (by unfold MP; omega) h _ _
/-- one change more of the reference's yard -/
theorem RM_yu {s : qm_Hp} {w : Nat} {y k : VW} {tp : Nat → Int32} {fd : Nat} {fa pl : Int32} {T : Nat → TX} (hw : w ≤ 6) (h : RM s w y k tp fd fa pl T) (a j m : Nat) (hm : ymn a j m) (ha : a ≠ 0 ∨ j = 5 ∨ j = 8) (v : Int32) : RM (uI s 61 0 m v) w (vset y a j v) k tp fd fa pl T := by
  have hY := YM_u hw h.2.1.2 a j m hm v
  rw [Nat.zero_add] at hY
  refine RM_yard hw (fun i _ => by rw [zI_uI, if_neg (by omega)]) (fun i hi => by rw [zI_uI, if_neg (fun g => by unfold ymn at hm; omega)]) (fun i => by rw [zI_uI, if_neg (by omega)]) (fun i => by rw [zI_uI, if_neg (by omega)]) hY (vq_set (by unfold ymn at hm; omega)) h
