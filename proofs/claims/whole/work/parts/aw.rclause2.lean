/-! the reference's clause, whole -/
def TMU (x : qm_Hp) (tx w : Nat) (τ : TX) : Prop :=
  zI x 62 0 (720 * tx) = nI τ.1 ∧ (∀ k, k < τ.1 → zI x 62 0 (720 * tx + 1 + 5 * k) = nI (τ.2 k).1 ∧ ((τ.2 k).1 = 6 → ∀ i, i < 4 → zI x 62 0 (720 * tx + 1 + 5 * k + 1 + i) = nI ((τ.2 k).2.getD i (0, 0)).2) ∧ ((τ.2 k).1 < 6 → ∃ fm, zI x 62 0 (720 * tx + 1 + 5 * k + 1) = nI fm ∧ zI x 62 0 (720 * tx + 1 + 5 * k + 2) = nI (fm + (τ.2 k).2.length) ∧ fm + (τ.2 k).2.length ≤ w ∧ cdM (fun j => zI x 62 0 (720 * tx + 110 + j)) fm (τ.2 k).2))
theorem TMU_TM {x : qm_Hp} {tx w : Nat} {τ : TX} (hw : w ≤ 300) (h : TMU x tx w τ) : TM x tx τ := ⟨h.1, fun k hk => by
  obtain ⟨h1, h2, h3⟩ := h.2 k hk
  refine ⟨h1, h2, fun q => ?_⟩
  obtain ⟨fm, a1, a2, a3, a4⟩ := h3 q
  exact ⟨fm, a1, a2, by omega, a4⟩⟩
def CFp (tx k j : Nat) : Prop := (k = 9 ∧ ((8 ≤ j ∧ j ≤ 11) ∨ j = 15 ∨ (18 ≤ j ∧ j ≤ 22))) ∨ k = 64 ∨ (k = 62 ∧ 720 * tx ≤ j ∧ j < 720 * tx + 720)
def CF (tx : Nat) (x x' : qm_Hp) : Prop := (∀ k i j, ¬ CFp tx k j → zI x' k i j = zI x k i j) ∧ (∀ k i j, ¬ (k = 9 ∧ j = 12) → zL x' k i j = zL x k i j) ∧ (∀ k i j, zP x' k i j = zP x k i j)
theorem CF_refl (tx : Nat) (x : qm_Hp) : CF tx x x := ⟨fun _ _ _ _ => rfl, fun _ _ _ _ => rfl, fun _ _ _ => rfl⟩
theorem CF_tr {tx : Nat} {x1 x2 x3 : qm_Hp} (h1 : CF tx x1 x2) (h2 : CF tx x2 x3) : CF tx x1 x3 := ⟨fun k i j h => (h2.1 k i j h).trans (h1.1 k i j h), fun k i j h => (h2.2.1 k i j h).trans (h1.2.1 k i j h), fun k i j => (h2.2.2 k i j).trans (h1.2.2 k i j)⟩
theorem CF_u {tx : Nat} {x : qm_Hp} (k i j : Nat) (v : Int32) (h : CFp tx k j) : CF tx x (uI x k i j v) := ⟨fun k' i' j' q => by rw [zI_uI, if_neg (fun g => q (by rw [g.1, g.2.2]; exact h))], fun _ _ _ _ => rfl, fun _ _ _ => rfl⟩
theorem CF_NF {tx : Nat} {x x' : qm_Hp} (h : NF Sx x x') : CF tx x x' := ⟨fun k i j q => h.1 k i j (fun g => q (Or.inl ⟨g.1, Or.inl g.2⟩)), h.2.1, h.2.2⟩
theorem BYM_CF {tx : Nat} {B : Nat → Nat} {L : Nat} {x x' : qm_Hp} (h : CF tx x x') (g : BYM B L x) : BYM B L x' := ⟨(h.1 9 0 5 (by unfold CFp; omega)).trans g.1, g.2.1, fun j hj => ⟨(h.1 63 0 j (by unfold CFp; omega)).trans (g.2.2 j hj).1, (g.2.2 j hj).2⟩⟩
/-- between clauses -/
def MSI (B : Nat → Nat) (L E tx : Nat) (x : qm_Hp) (τ : TX) (i w m : Nat) : Prop := BYM B L x ∧ RTK B L (stt B L i) x ∧ zI x 9 0 13 = nI (720 * tx) ∧ zI x 9 0 15 = nI w ∧ zI x 9 0 19 = nI 0 ∧ (zI x 9 0 22 = nI m ∧ ON m τ) ∧ TMU x tx w τ ∧ w ≤ i ∧ i ≤ E ∧ τ.1 ≤ 20
/-- what a clause's body may change, from the heap y on -/
def GFp (tx c w k j : Nat) : Prop := (k = 9 ∧ ((8 ≤ j ∧ j ≤ 11) ∨ j = 15 ∨ (18 ≤ j ∧ j ≤ 20))) ∨ k = 64 ∨ (k = 62 ∧ ((c + 1 ≤ j ∧ j ≤ c + 4) ∨ (720 * tx + 110 + 2 * w ≤ j ∧ j < 720 * tx + 720)))
def GB (B : Nat → Nat) (L tx c w a : Nat) (R : PR) (y x : qm_Hp) : Prop := ((∀ k i j, ¬ GFp tx c w k j → zI x k i j = zI y k i j) ∧ (∀ k i j, ¬ (k = 9 ∧ j = 12) → zL x k i j = zL y k i j) ∧ (∀ k i j, zP x k i j = zP y k i j)) ∧ RTK B L (stt B L R.2.1) x ∧ R.1 ≤ 9 ∧ (R.1 = 0 → zI x 9 0 15 = nI (if a = 6 then w else w + R.2.2.length) ∧ zI x 9 0 19 = nI 0 ∧ (a = 6 → ∀ k, k < 4 → zI x 62 0 (c + 1 + k) = nI (R.2.2.getD k (0, 0)).2) ∧ (a < 6 → cdM (fun j => zI x 62 0 (720 * tx + 110 + j)) w R.2.2))
theorem bnd_9' {r : PR} {k : Nat → List (Nat × Nat) → PR} (h1 : r.1 ≤ 9) (h2 : ∀ j o, (k j o).1 ≤ 9) : (bnd r k).1 ≤ 9 := by
  unfold bnd
  by_cases q : r.1 = 0
  · rw [if_pos q]; exact h2 _ _
  · rw [if_neg q]; exact h1
theorem ite_9' {p : Prop} [Decidable p] {r s : PR} (h1 : r.1 ≤ 9) (h2 : s.1 ≤ 9) : (if p then r else s).1 ≤ 9 := by
  by_cases q : p
  · rw [if_pos q]; exact h1
  · rw [if_neg q]; exact h2
theorem l9 {f j : Nat} {o : List (Nat × Nat)} (h : f ≤ 9) : ((f, j, o) : PR).1 ≤ 9 := h
theorem pp_9 (Tk Vl : Nat → Nat) (a : Nat) : ∀ n md lv o i, (pp Tk Vl a n md lv o i).1 ≤ 9
  | 0, _, _, _, _ => l9 (by decide)
  | n + 1, md, lv, o, i => by
    have ih := pp_9 Tk Vl a n
    unfold pp
    refine ite_9' (ite_9' (bnd_9' (ih _ _ _ _) (fun _ _ => bnd_9' (ih _ _ _ _) (fun _ _ => l9 (by decide)))) (l9 (by decide))) (ite_9' ?_ (ite_9' ?_ (bnd_9' (ih _ _ _ _) (fun _ _ => bnd_9' (ih _ _ _ _) (fun _ _ => l9 (by decide))))))
    · unfold pAsk
      exact ite_9' (ite_9' (l9 (by decide)) (bnd_9' (ih _ _ _ _) (fun _ _ => l9 (by decide)))) (bnd_9' (ih _ _ _ _) (fun _ _ => ite_9' (bnd_9' (ih _ _ _ _) (fun _ _ => l9 (by decide))) (l9 (by decide))))
    · unfold pOne
      refine ite_9' (ite_9' (l9 (by decide)) (l9 (by decide))) (ite_9' (ite_9' (l9 (by decide)) (l9 (by decide))) (ite_9' (ite_9' (ite_9' (l9 (by decide)) (bnd_9' (ih _ _ _ _) (fun _ _ => ite_9' (bnd_9' (ih _ _ _ _) (fun _ _ => ite_9' (l9 (by decide)) (l9 (by decide)))) (l9 (by decide))))) (l9 (by decide))) (ite_9' (ite_9' (l9 (by decide)) (bnd_9' (ih _ _ _ _) (fun _ _ => ite_9' (l9 (by decide)) (l9 (by decide))))) (ite_9' (ite_9' (l9 (by decide)) (bnd_9' (ih _ _ _ _) (fun _ _ => l9 (by decide)))) (l9 (by decide))))))
/-- the body of a clause -/
theorem r_body (d : Nat) {y : qm_Hp} {B : Nat → Nat} {L E tx n w a i : Nat} (hB : BYM B L y) (hE : TKr B L E = 41) (hE3 : E ≤ 300) (hi : i + 1 ≤ E) (hw : w ≤ i + 1) (ht : tx < 4) (hn : n < 20) (ha : a ≤ 6) (hR : RTK B L (stt B L (i + 1)) y) (h13 : zI y 9 0 13 = nI (720 * tx)) (h21 : zI y 9 0 21 = nI a) (h15 : zI y 9 0 15 = nI w) (h19 : zI y 9 0 19 = nI 0) : ∃ x, (a = 6 → qm_evM (d + 7) jM_laidBy [qP 9 0, qI (nI (720 * tx + 1 + 5 * n))] y = some (some (qI (nI (pBody (TKr B L) (VLr B L) a (i + 1)).1)), x)) ∧ (a < 6 → qm_evM (d + 7) jM_parsed [qP 9 0, qI (nI (eI (decide (a = 5))))] y = some (some (qI (nI (pBody (TKr B L) (VLr B L) a (i + 1)).1)), x)) ∧ GB B L tx (720 * tx + 1 + 5 * n) w a (pBody (TKr B L) (VLr B L) a (i + 1)) y x := by
  by_cases q6 : a = 6
  · subst q6
    have ep : pBody (TKr B L) (VLr B L) 6 (i + 1) = pLay (TKr B L) (VLr B L) (i + 1) := if_pos rfl
    rw [ep]
    obtain ⟨x, e, F, R, h9, hz⟩ := r_laidBy (d + 3) hB hR (show 720 * tx + 1 + 5 * n + 4 < 2880 by omega)
    have k : ∀ j, 12 ≤ j → zI x 9 0 j = zI y 9 0 j := fun j hj => F.1 9 0 j (by unfold LFp; omega)
    refine ⟨x, fun _ => e, fun g => absurd g (by decide), ⟨fun k i j q => F.1 k i j (fun g => q (by unfold LFp at g; unfold GFp; omega)), F.2.1, F.2.2⟩, R, h9, fun g => ⟨by rw [if_pos rfl]; exact (k 15 (by decide)).trans h15, (k 19 (by decide)).trans h19, fun _ m hm => hz g m ?_, fun g => absurd g (by decide)⟩⟩
    obtain ⟨a', b, c, e', _, _, _, _, h5⟩ := pLay_0 g
    rw [h5]
    exact hm
  · have a5 : a ≤ 5 := by omega
    have ep : pBody (TKr B L) (VLr B L) a (i + 1) = pp (TKr B L) (VLr B L) a 3020 0 (if decide (a = 5) = true then 0 else 3) 0 (i + 1) := by
      unfold pBody
      rw [if_neg q6]
      by_cases q5 : a = 5
      · rw [if_pos q5, if_pos (decide_eq_true q5)]
      · rw [if_neg q5, if_neg (by rw [decide_eq_false q5]; decide)]
    rw [ep]
    obtain ⟨x, e, F, R, g⟩ := r_parsed d (tx := tx) (w0 := w) (a := a) (e := decide (a = 5)) ⟨hB, h13, h21, ht, a5⟩ hE hE3 hi hw hR h15 h19
    have h9 : (pp (TKr B L) (VLr B L) a 3020 0 (if decide (a = 5) = true then 0 else 3) 0 (i + 1)).1 ≤ 9 := pp_9 _ _ _ _ _ _ _ _
    refine ⟨x, fun g => absurd g q6, fun _ => e, ⟨fun k i j q => F.1 k i j (fun g => q (by unfold MFp at g; unfold GFp; omega)), F.2.1, F.2.2⟩, R, h9, fun k => ?_⟩
    obtain ⟨g1, g2, g3⟩ := g k
    exact ⟨by rw [if_neg q6]; exact g1, g2, fun k => absurd k q6, fun _ => g3⟩
/-- the new clause stands behind the old ones -/
theorem TMU_add {B : Nat → Nat} {L tx w a : Nat} {R : PR} {x y x5 : qm_Hp} {τ : TX} (h : TMU x tx w τ) (hn : τ.1 < 20) (ha : a ≤ 6) (ht : tx < 4) (hw3 : w ≤ 300) (hxy : ∀ j, j ≠ 720 * tx + 1 + 5 * τ.1 → zI y 62 0 j = zI x 62 0 j) (hya : zI y 62 0 (720 * tx + 1 + 5 * τ.1) = nI a) (hG : GB B L tx (720 * tx + 1 + 5 * τ.1) w a R y x5) (h0 : R.1 = 0) : zI (hcl x5 a (720 * tx + 1 + 5 * τ.1) w (if a = 6 then w else w + R.2.2.length)) 62 0 (720 * tx) = nI τ.1 ∧ TMU (uI (hcl x5 a (720 * tx + 1 + 5 * τ.1) w (if a = 6 then w else w + R.2.2.length)) 62 0 (720 * tx) (nI (τ.1 + 1))) tx (if a = 6 then w else w + R.2.2.length) (tad τ a R.2.2) := by
  obtain ⟨F, _, _, g⟩ := hG
  obtain ⟨g15, g19, g6, gM⟩ := g h0
  have hw' : w ≤ (if a = 6 then w else w + R.2.2.length) := by
    by_cases q : a = 6
    · rw [if_pos q]; omega
    · rw [if_neg q]; omega
  have zc : ∀ W j, zI (hcl x5 a (720 * tx + 1 + 5 * τ.1) w W) 62 0 j = if a ≠ 6 ∧ j = 720 * tx + 1 + 5 * τ.1 + 2 then nI W else if a ≠ 6 ∧ j = 720 * tx + 1 + 5 * τ.1 + 1 then nI w else zI x5 62 0 j := fun W j => by
    unfold hcl
    by_cases q : a = 6
    · rw [if_pos q, if_neg (fun k => k.1 q), if_neg (fun k => k.1 q)]
    · rw [if_neg q, zI_uI, zI_uI]
      exact ite_congr (propext ⟨fun k => ⟨q, k.2.2⟩, fun k => ⟨rfl, rfl, k.2⟩⟩) (fun _ => rfl) (fun _ => ite_congr (propext ⟨fun k => ⟨q, k.2.2⟩, fun k => ⟨rfl, rfl, k.2⟩⟩) (fun _ => rfl) (fun _ => rfl))
  have z5 : ∀ j, ¬ (720 * tx + 1 + 5 * τ.1 ≤ j ∧ j ≤ 720 * tx + 1 + 5 * τ.1 + 4) → (j < 720 * tx + 110 + 2 * w) → zI x5 62 0 j = zI x 62 0 j := fun j h1 h2 => (F.1 62 0 j (by unfold GFp; omega)).trans (hxy j (by omega))
  generalize hW : (if a = 6 then w else w + R.2.2.length) = W at *
  have zo : ∀ j, ¬ (720 * tx + 1 + 5 * τ.1 ≤ j ∧ j ≤ 720 * tx + 1 + 5 * τ.1 + 4) → (j < 720 * tx + 110 + 2 * w) → zI (hcl x5 a (720 * tx + 1 + 5 * τ.1) w W) 62 0 j = zI x 62 0 j := fun j h1 h2 => by
    rw [zc, if_neg (by omega), if_neg (by omega)]
    exact z5 j h1 h2
  have zn : ∀ j, ¬ (720 * tx + 1 + 5 * τ.1 ≤ j ∧ j ≤ 720 * tx + 1 + 5 * τ.1 + 4) → (j < 720 * tx + 110 + 2 * w) → j ≠ 720 * tx → zI (uI (hcl x5 a (720 * tx + 1 + 5 * τ.1) w W) 62 0 (720 * tx) (nI (τ.1 + 1))) 62 0 j = zI x 62 0 j := fun j h1 h2 h3 => by
    rw [zI_uI, if_neg (by omega)]
    exact zo j h1 h2
  refine ⟨(zo _ (by omega) (by omega)).trans h.1, by rw [zI_uI, if_pos ⟨rfl, rfl, rfl⟩]; rfl, fun k hk => ?_⟩
  have hk' : k < τ.1 + 1 := hk
  by_cases q : k = τ.1
  · have e : (tad τ a R.2.2).2 k = (a, R.2.2) := if_pos q
    rw [e, q]
    refine ⟨?_, fun h6 i hi => ?_, fun h6 => ⟨w, ?_, ?_, ?_, ?_⟩⟩
    · rw [zI_uI, if_neg (by omega), zc, if_neg (by omega), if_neg (by omega), F.1 62 0 _ (by unfold GFp; omega)]
      exact hya
    · have h6 : a = 6 := h6
      rw [zI_uI, if_neg (by omega), zc, if_neg (by omega), if_neg (by omega)]
      exact g6 h6 i hi
    · have h6 : a < 6 := h6
      rw [zI_uI, if_neg (by omega), zc, if_neg (by omega), if_pos ⟨by omega, rfl⟩]
    · have h6 : a < 6 := h6
      rw [zI_uI, if_neg (by omega), zc, if_pos ⟨by omega, rfl⟩, ← hW, if_neg (by omega)]
    · have h6 : a < 6 := h6
      rw [← hW, if_neg (by omega)]
      exact Nat.le_refl _
    · have h6 : a < 6 := h6
      refine cdM_cong (fun p h1 h2 => ?_) (gM h6)
      show zI (uI (hcl x5 a (720 * tx + 1 + 5 * τ.1) w W) 62 0 (720 * tx) (nI (τ.1 + 1))) 62 0 (720 * tx + 110 + p) = zI x5 62 0 (720 * tx + 110 + p)
      rw [zI_uI, if_neg (by omega), zc, if_neg (by omega), if_neg (by omega)]
  · have e : (tad τ a R.2.2).2 k = τ.2 k := if_neg q
    rw [e]
    obtain ⟨t1, t2, t3⟩ := h.2 k (by omega)
    refine ⟨(zn _ (by omega) (by omega) (by omega)).trans t1, fun h6 i hi => (zn _ (by omega) (by omega) (by omega)).trans (t2 h6 i hi), fun h6 => ?_⟩
    obtain ⟨fm, a1, a2, a3, a4⟩ := t3 h6
    refine ⟨fm, (zn _ (by omega) (by omega) (by omega)).trans a1, (zn _ (by omega) (by omega) (by omega)).trans a2, by omega, cdM_cong (fun p h1 h2 => ?_) a4⟩
    exact zn _ (by omega) (by omega) (by omega)
