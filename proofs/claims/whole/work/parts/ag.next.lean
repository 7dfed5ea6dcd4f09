/-! the reference's next token, whole -/
def rtk (B : Nat → Nat) (L p : Nat) : Nat := if L ≤ p then 0 else if isD (B p) = true then 1 else if isL (B p) = true then 2 else if (p + 1 < L ∧ B (p + 1) = 61) ∧ B p = 60 then 4 else if (p + 1 < L ∧ B (p + 1) = 61) ∧ B p = 62 then 5 else if sgb (B p) = 13 then 3 else B p
theorem sgb_13 : ∀ b, b < 256 → (sgb b = 13 ↔ ¬ (b = 60 ∨ b = 62 ∨ b = 61 ∨ b = 35 ∨ b = 43 ∨ b = 45 ∨ b = 42 ∨ b = 47 ∨ b = 40 ∨ b = 41 ∨ b = 59 ∨ b = 44)) := by decide +kernel
theorem isLD {b : Nat} (h : isL b = true) : ¬ isD b = true := fun g => by
  have h1 : (97 ≤ b ∧ b ≤ 122) ∨ (65 ≤ b ∧ b ≤ 90) := of_decide_eq_true h
  have h2 : 48 ≤ b ∧ b ≤ 57 := of_decide_eq_true g
  omega
def Sx : Nat → Prop := fun j => 8 ≤ j ∧ j ≤ 11
/-- what the reference holds of the token at p -/
def RTK (B : Nat → Nat) (L p : Nat) (x : qm_Hp) : Prop := zI x 9 0 9 = nI p ∧ zI x 9 0 8 = nI (tk0 B L p).2.2 ∧ zI x 9 0 10 = nI (rtk B L p) ∧ (rtk B L p = 1 → zI x 9 0 11 = nI (rvn B (L - p) p 0)) ∧ (rtk B L p = 2 → zL x 9 0 12 = if 7 < rwn B isL (L - p) p - p then 0 else rwd B p (L - p) p 0)
theorem r_tok (D : Nat) {B : Nat → Nat} {L p : Nat} {x : qm_Hp} {x1 x2 : qm_AV} (hB : BYM B L x) (hp : p ≤ L) (h8 : zI x 9 0 8 = nI p) : ∃ x', qm_evB (D + 2) jM_nextToken 2 [qP 9 0, x1, x2] [] x = some (none, x') ∧ NF Sx x x' ∧ RTK B L p x' := by
  have hL := hB.2.1
  have F1 := NF_u (NF_refl Sx x) 9 (nI p) (by unfold Sx; omega)
  have hB1 : BYM B L (uI x 9 0 9 (nI p)) := BYM_u hB 9 _ (by decide)
  have h81 : zI (uI x 9 0 9 (nI p)) 9 0 8 = nI p := by rw [zI_uI, if_neg (by omega)]; exact h8
  by_cases q : p < L
  · have by1 := r_byY (D + 1) hB1 q
    have hb := (hB.2.2 p q).2
    by_cases hd : isD (B p) = true
    · have hl : ¬ isL (B p) = true := fun g => isLD g hd
      have F2 := NF_u (NF_u F1 10 (nI 1) (by unfold Sx; omega)) 11 (nI 0) (by unfold Sx; omega)
      obtain ⟨s', e, F, g8, g11⟩ := nd_l D (x1 := qI (nI (B p))) (x2 := x2) (L - p) p 0 (uI (uI (uI x 9 0 9 (nI p)) 9 0 10 (nI 1)) 9 0 11 (nI 0)) (by omega) (BYM_u (BYM_u hB1 10 _ (by decide)) 11 _ (by decide)) (by rw [zI_uI, if_neg (by omega), zI_uI, if_neg (by omega)]; exact h81) (by rw [zI_uI, if_pos ⟨rfl, rfl, rfl⟩]) (Nat.zero_le _)
      have er : rtk B L p = 1 := by unfold rtk; rw [if_neg (by omega), if_pos hd]
      have et : (tk0 B L p).2.2 = rwn B isD (L - p) p := by unfold tk0; rw [if_neg (by omega), if_neg hl, if_pos hd]
      refine ⟨s', (ng_d (D + 1) (by omega) hb h8 by1 (r_isDY D _ hd)).trans e, NF_tr F2 (NF_w (fun j hj => by unfold Sx; omega) F), ?_, by rw [et]; exact g8, ?_, fun _ => g11, fun g => absurd (er.symm.trans g) (by decide)⟩
      · rw [F.1 9 0 9 (by omega), zI_uI, if_neg (by omega), zI_uI, if_neg (by omega), zI_uI, if_pos ⟨rfl, rfl, rfl⟩]
      · rw [er, F.1 9 0 10 (by omega), zI_uI, if_neg (by omega), zI_uI, if_pos ⟨rfl, rfl, rfl⟩]
    · by_cases hl : isL (B p) = true
      · have F2 : NF Sx x (uL (uI (uI x 9 0 9 (nI p)) 9 0 10 (nI 2)) 9 0 12 0) := NF_tr (NF_u F1 10 (nI 2) (by unfold Sx; omega)) ⟨fun _ _ _ _ => rfl, fun k i j' q => by rw [zL_uL, if_neg (fun g => q ⟨g.1, g.2.2⟩)], fun _ _ _ => rfl⟩
        obtain ⟨s', e, F, g8, g12⟩ := nl_l D (f := p) (x1 := qI (nI (B p))) (x2 := x2) (L - p) p 0 (uL (uI (uI x 9 0 9 (nI p)) 9 0 10 (nI 2)) 9 0 12 0) (by omega) (Nat.le_refl _) (BYM_NF (by unfold Sx; omega) F2 hB) (by rw [zI_uL, zI_uI, if_neg (by omega)]; exact h81) (by rw [zI_uL, zI_uI, if_neg (by omega), zI_uI, if_pos ⟨rfl, rfl, rfl⟩]) (by rw [zL_uL, if_pos ⟨rfl, rfl, rfl⟩])
        have er : rtk B L p = 2 := by unfold rtk; rw [if_neg (by omega), if_neg hd, if_pos hl]
        have et : (tk0 B L p).2.2 = rwn B isL (L - p) p := by unfold tk0; rw [if_neg (by omega), if_pos hl]
        refine ⟨s', (ng_l (D + 1) (by omega) hb h8 by1 (r_isDN D _ hb hd) (r_isLY D _ hl)).trans e, NF_tr F2 (NF_w (fun j hj => by unfold Sx; omega) F), ?_, by rw [et]; exact g8, ?_, fun g => absurd (er.symm.trans g) (by decide), fun _ => g12⟩
        · rw [F.1 9 0 9 (by omega), zI_uL, zI_uI, if_neg (by omega), zI_uI, if_pos ⟨rfl, rfl, rfl⟩]
        · rw [er, F.1 9 0 10 (by omega), zI_uL, zI_uI, if_pos ⟨rfl, rfl, rfl⟩]
      · have eg := ng_g (D + 1) (x1 := x1) (x2 := x2) (by omega : p ≤ 300) hb h8 by1 (r_isDN D _ hb hd) (r_isLN D _ hb hl)
        have fin : ∀ t (y : qm_Hp), rtk B L p = t → t ≠ 1 → t ≠ 2 → qm_evB (D + 2) jM_nextToken 10 [qP 9 0, qI (nI (B p)), x2] [] (uI x 9 0 9 (nI p)) = some (none, y) → NF Sx (uI x 9 0 9 (nI p)) y → zI y 9 0 9 = nI p → zI y 9 0 8 = nI (tk0 B L p).2.2 → zI y 9 0 10 = nI t → ∃ x', qm_evB (D + 2) jM_nextToken 2 [qP 9 0, x1, x2] [] x = some (none, x') ∧ NF Sx x x' ∧ RTK B L p x' := fun t y er n1 n2 e F g9 g8 g10 => ⟨y, eg.trans e, NF_tr F1 F, g9, g8, by rw [er]; exact g10, fun g => absurd (er.symm.trans g) n1, fun g => absurd (er.symm.trans g) n2⟩
        have G9 : ∀ a b, zI (uI (uI (uI x 9 0 9 (nI p)) 9 0 8 a) 9 0 10 b) 9 0 9 = nI p := fun a b => by rw [zI_uI, if_neg (by omega), zI_uI, if_neg (by omega), zI_uI, if_pos ⟨rfl, rfl, rfl⟩]
        have FF : ∀ a b, NF Sx (uI x 9 0 9 (nI p)) (uI (uI (uI x 9 0 9 (nI p)) 9 0 8 a) 9 0 10 b) := fun a b => NF_u (NF_u (NF_refl Sx _) 8 a (by unfold Sx; omega)) 10 b (by unfold Sx; omega)
        by_cases h60 : B p = 60 ∨ B p = 62
        · have bb : BYM B L (uI (uI (uI x 9 0 9 (nI p)) 9 0 8 (nI (p + 1))) 9 0 10 (nI (B p))) := BYM_u (BYM_u hB1 8 _ (by decide)) 10 _ (by decide)
          by_cases h1 : p + 1 < L ∧ B (p + 1) = 61
          · have by2 := r_byY (D + 1) bb h1.1
            rw [h1.2] at by2
            have et : (tk0 B L p).2.2 = p + 2 := by
              unfold tk0
              rw [if_neg (by omega), if_neg hl, if_neg hd]
              by_cases k : B p = 60
              · rw [if_pos ⟨h1, k⟩]
              · rw [if_neg (fun g => k g.2), if_pos ⟨h1, by omega⟩]
            have er : rtk B L p = if B p = 60 then 4 else 5 := by
              unfold rtk
              rw [if_neg (by omega), if_neg hd, if_neg hl]
              by_cases k : B p = 60
              · rw [if_pos ⟨h1, k⟩, if_pos k]
              · rw [if_neg (fun g => k g.2), if_pos ⟨h1, by omega⟩, if_neg k]
            refine fin _ _ er (by by_cases k : B p = 60 <;> simp only [k, if_true, if_false] <;> decide) (by by_cases k : B p = 60 <;> simp only [k, if_true, if_false] <;> decide) (ns_y (D + 1) (by omega) h81 h60 by2) (NF_u (NF_u (FF _ _) 8 _ (by unfold Sx; omega)) 10 _ (by unfold Sx; omega)) ?_ ?_ ?_
            · rw [zI_uI, if_neg (by omega), zI_uI, if_neg (by omega)]; exact G9 _ _
            · rw [et, zI_uI, if_neg (by omega), zI_uI, if_pos ⟨rfl, rfl, rfl⟩]
            · rw [zI_uI, if_pos ⟨rfl, rfl, rfl⟩]
          · have et : (tk0 B L p).2.2 = p + 1 := by unfold tk0; rw [if_neg (by omega), if_neg hl, if_neg hd, if_neg (fun g => h1 g.1), if_neg (fun g => h1 g.1)]
            have er : rtk B L p = B p := by
              unfold rtk
              rw [if_neg (by omega), if_neg hd, if_neg hl, if_neg (fun g => h1 g.1), if_neg (fun g => h1 g.1), if_neg (fun g => (sgb_13 _ hb).1 g (by omega))]
            have by2 : ∃ c : Int32, ¬ c = nI 61 ∧ qm_evM (D + 1) jM_byteAt [qP 9 0, qI (nI (p + 1))] (uI (uI (uI x 9 0 9 (nI p)) 9 0 8 (nI (p + 1))) 9 0 10 (nI (B p))) = some (some (qI c), (uI (uI (uI x 9 0 9 (nI p)) 9 0 8 (nI (p + 1))) 9 0 10 (nI (B p)))) := by
              by_cases k : p + 1 < L
              · exact ⟨_, fun g => h1 ⟨k, (nI_eq (by have := (hB.2.2 (p + 1) k).2; omega) (by decide)).mp g⟩, r_byY (D + 1) bb k⟩
              · have e : p + 1 = L := by omega
                refine ⟨N1, by decide, ?_⟩
                have := r_byN (D + 1) bb
                rw [← e] at this
                exact this
            obtain ⟨c, hc, by2⟩ := by2
            exact fin _ _ er (by omega) (by omega) (ns_n (D + 1) (by omega) h81 h60 hc by2) (FF _ _) (G9 _ _) (by rw [et, zI_uI, if_neg (by omega), zI_uI, if_pos ⟨rfl, rfl, rfl⟩]) (by rw [zI_uI, if_pos ⟨rfl, rfl, rfl⟩])
        · have et : (tk0 B L p).2.2 = p + 1 := by unfold tk0; rw [if_neg (by omega), if_neg hl, if_neg hd, if_neg (fun g => h60 (Or.inl g.2)), if_neg (fun g => h60 (Or.inr g.2))]
          by_cases hs : B p = 61 ∨ B p = 35 ∨ B p = 43 ∨ B p = 45 ∨ B p = 42 ∨ B p = 47 ∨ B p = 40 ∨ B p = 41 ∨ B p = 59 ∨ B p = 44
          · have er : rtk B L p = B p := by
              unfold rtk
              rw [if_neg (by omega), if_neg hd, if_neg hl, if_neg (fun g => h60 (Or.inl g.2)), if_neg (fun g => h60 (Or.inr g.2)), if_neg (fun g => (sgb_13 _ hb).1 g (Or.inr (Or.inr hs)))]
            exact fin _ _ er (by omega) (by omega) (ns_a (D + 2) (by omega) h81 hs) (FF _ _) (G9 _ _) (by rw [et, zI_uI, if_neg (by omega), zI_uI, if_pos ⟨rfl, rfl, rfl⟩]) (by rw [zI_uI, if_pos ⟨rfl, rfl, rfl⟩])
          · have er : rtk B L p = 3 := by
              unfold rtk
              rw [if_neg (by omega), if_neg hd, if_neg hl, if_neg (fun g => h60 (Or.inl g.2)), if_neg (fun g => h60 (Or.inr g.2)), if_pos ((sgb_13 _ hb).2 (fun g => by rcases g with g | g | g; exact h60 (Or.inl g); exact h60 (Or.inr g); exact hs g))]
            exact fin _ _ er (by decide) (by decide) (ns_o (D + 2) (by omega) hb h81 (fun g => h60 (Or.inl g)) (fun g => h60 (Or.inr g)) hs) (FF _ _) (G9 _ _) (by rw [et, zI_uI, if_neg (by omega), zI_uI, if_pos ⟨rfl, rfl, rfl⟩]) (by rw [zI_uI, if_pos ⟨rfl, rfl, rfl⟩])
  · have e : p = L := by omega
    subst e
    have er : rtk B p p = 0 := by unfold rtk; rw [if_pos (Nat.le_refl _)]
    have et : (tk0 B p p).2.2 = p := by unfold tk0; rw [if_pos (Nat.le_refl _)]
    refine ⟨_, ng_e (D + 1) hL h8 (r_byN (D + 1) hB1), NF_u F1 10 _ (by unfold Sx; omega), ?_, ?_, ?_, fun g => absurd (er.symm.trans g) (by decide), fun g => absurd (er.symm.trans g) (by decide)⟩
    · rw [zI_uI, if_neg (by omega), zI_uI, if_pos ⟨rfl, rfl, rfl⟩]
    · rw [et, zI_uI, if_neg (by omega)]; exact h81
    · rw [er, zI_uI, if_pos ⟨rfl, rfl, rfl⟩]
