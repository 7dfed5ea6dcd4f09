section QSA
variable {p : Program} {l : Launch} {e : Env} {R : Room} {s : State} {m : MethodId} {args : Array Value} {below : List Frame} {meth : Method} {c : Code} {cells slots : Nat} {Q : State → Prop} {H : Heap} {locs : List Loc}
variable {d B0 sb sa sv L mi : Nat} {xs : Nat → Int32} {dC : Nat → ClassId} {dI : Nat → Nat → Nat} {cs : Nat × Nat × Nat × Nat × Nat} {pc n : Nat} {als : Array Slot} {ls st ls' st' : List qm_AV} {h h' : qm_Hp} {x : Instr}
theorem so_iald (X : qm_Cx p R s m args c cells slots d mi B0 sb sa sv L xs dC dI cs) (hw : qm_Wd s B0 L xs dC dI cs h H locs) (hl : qm_Lo mi B0 sb sa als ls) (ho : qm_So st) (hd : decode (mC mi) pc = .ok (.iaload, 1)) (ha : qa_iald ls st h = some (.inl (ls', st', h'))) (kk : ∀ (H1 : Heap) (locs1 : List Loc) (als1 : Array Slot), qm_Wd s B0 L xs dC dI cs h' H1 locs1 → qm_Lo mi B0 sb sa als1 ls' → qm_So st' → W p l e R s m args below meth c H1 locs1 cells slots Q (F0 m (pc + 1) als1 (st'.map (qm_cv B0 sb sa)))) : W p l e R s m args below meth c H locs cells slots Q (F0 m pc als (st.map (qm_cv B0 sb sa))) := by
  unfold qa_iald at ha
  rcases st with _ | ⟨v, _ | ⟨v2, r⟩⟩
  · cases ha
  · rcases v with v | v | ⟨q', i'⟩ <;> cases ha
  · rcases v with j | v | ⟨q', i'⟩
    · rcases v2 with v2 | v2 | ⟨q, i⟩
      · cases ha
      · cases ha
      · replace ha : (if j < 0 ∨ qm_ilen h q ≤ j.toNatClampNeg then none else some (.inl (ls, qI (zI h q i j.toNatClampNeg) :: r, h)) : Option qm_Act) = some (.inl (ls', st', h')) := ha
        split at ha
        · cases ha
        · next hg =>
          cases ha
          by_cases h80 : q = 80
          · subst h80
            have hi : i = 0 := Nat.lt_one_iff.mp (qm_okV_lt ho.t.h (by decide))
            subst hi
            have hL : qm_ilen h 80 = L := by
              show (zI h 82 0 0).toNatClampNeg = L
              rw [hw.2.2.2.2.2, nI_clamp X.2.2.2.2.2.1.2.2.2.2.1]
            rw [hL] at hg
            have hlt : j.toNatClampNeg < L := Nat.not_le.mp (fun z => hg (Or.inr z))
            have k2 := kk H locs als hw hl (ho.t.t.cons trivial)
            rw [List.map_cons] at k2
            have e : qm_cv B0 sb sa (qI (zI h 80 0 j.toNatClampNeg)) = .int (xs j.toNatClampNeg) := by rw [hw.2.2.2.2.1 _ hlt]; rfl
            rw [e] at k2
            have Ev := X.2.2.2.2.2.1
            exact va_sld X.1 X.2.1 Ev.2.2.1 (Nat.lt_of_lt_of_le Ev.2.2.2.1 Ev.2.2.2.2.2.1) (Nat.not_le.mpr Ev.2.2.2.1) hw.2.2.1 hg hd k2
          · rw [qm_ilen_z h80] at hg
            have hp : 0 < qm_ilen qm_z q := Nat.lt_of_le_of_lt (Nat.zero_le _) (Nat.not_le.mp (fun z => hg (Or.inr z)))
            have hz := qm_ilen_pos hp
            have hi := qm_okV_lt ho.t.h hz.1
            have he := qm_W_at (B0 := B0) (cs := cs) (h := h) hi h80 hz.2.1
            rw [qm_cell_i hp] at he
            rw [List.map_cons, List.map_cons, qm_cv_P hz.1 h80 hz.2.1]
            exact va_iald X.1 X.2.1 X.2.2.2.2.2.1.1 hw.1 (qm_ad q i) 0 he rfl hg hd (kk H locs als hw hl (ho.t.t.cons trivial))
    · cases ha
    · cases ha
theorem so_lald (X : qm_Cx p R s m args c cells slots d mi B0 sb sa sv L xs dC dI cs) (hw : qm_Wd s B0 L xs dC dI cs h H locs) (hl : qm_Lo mi B0 sb sa als ls) (ho : qm_So st) (hd : decode (mC mi) pc = .ok (.laload, 1)) (ha : qa_lald ls st h = some (.inl (ls', st', h'))) (kk : ∀ (H1 : Heap) (locs1 : List Loc) (als1 : Array Slot), qm_Wd s B0 L xs dC dI cs h' H1 locs1 → qm_Lo mi B0 sb sa als1 ls' → qm_So st' → W p l e R s m args below meth c H1 locs1 cells slots Q (F0 m (pc + 1) als1 (st'.map (qm_cv B0 sb sa)))) : W p l e R s m args below meth c H locs cells slots Q (F0 m pc als (st.map (qm_cv B0 sb sa))) := by
  unfold qa_lald at ha
  rcases st with _ | ⟨v, _ | ⟨v2, r⟩⟩
  · cases ha
  · rcases v with v | v | ⟨q', i'⟩ <;> cases ha
  · rcases v with j | v | ⟨q', i'⟩
    · rcases v2 with v2 | v2 | ⟨q, i⟩
      · cases ha
      · cases ha
      · replace ha : (if j < 0 ∨ qm_llen q ≤ j.toNatClampNeg then none else some (.inl (ls, qL (zL h q i j.toNatClampNeg) :: r, h)) : Option qm_Act) = some (.inl (ls', st', h')) := ha
        split at ha
        · cases ha
        · next hg =>
          cases ha
          have h66 : q = 66 := by
            apply Classical.byContradiction
            intro hn
            have : qm_llen q = 0 := by
              unfold qm_llen
              split
              · exact absurd rfl hn
              · rfl
            exact hg (Or.inr (by rw [this]; exact Nat.zero_le _))
          subst h66
          have hi := qm_okV_lt ho.t.h (by decide)
          have he := qm_W_at (B0 := B0) (cs := cs) (h := h) hi (by decide) (by decide)
          rw [qm_cell_l] at he
          rw [List.map_cons, List.map_cons, qm_cv_P (k := 66) (by decide) (by decide) (by decide)]
          exact va_lald X.1 X.2.1 X.2.2.2.2.2.1.1 hw.1 (qm_ad 66 i) 1 he rfl hg hd (kk H locs als hw hl (ho.t.t.cons trivial))
    · cases ha
    · cases ha
theorem so_bald (X : qm_Cx p R s m args c cells slots d mi B0 sb sa sv L xs dC dI cs) (hw : qm_Wd s B0 L xs dC dI cs h H locs) (hl : qm_Lo mi B0 sb sa als ls) (ho : qm_So st) (hd : decode (mC mi) pc = .ok (.baload, 1)) (ha : qa_bald ls st h = some (.inl (ls', st', h'))) (kk : ∀ (H1 : Heap) (locs1 : List Loc) (als1 : Array Slot), qm_Wd s B0 L xs dC dI cs h' H1 locs1 → qm_Lo mi B0 sb sa als1 ls' → qm_So st' → W p l e R s m args below meth c H1 locs1 cells slots Q (F0 m (pc + 1) als1 (st'.map (qm_cv B0 sb sa)))) : W p l e R s m args below meth c H locs cells slots Q (F0 m pc als (st.map (qm_cv B0 sb sa))) := by
  unfold qa_bald at ha
  rcases st with _ | ⟨v, _ | ⟨v2, r⟩⟩
  · cases ha
  · rcases v with v | v | ⟨q', i'⟩ <;> cases ha
  · rcases v with j | v | ⟨q', i'⟩
    · rcases v2 with v2 | v2 | ⟨q, i⟩
      · cases ha
      · cases ha
      · replace ha : (if j < 0 ∨ qm_blen q ≤ j.toNatClampNeg then none else some (.inl (ls, qI (zI h q i j.toNatClampNeg) :: r, h)) : Option qm_Act) = some (.inl (ls', st', h')) := ha
        split at ha
        · cases ha
        · next hg =>
          cases ha
          have hb : q = 67 ∨ q = 76 := by
            apply Classical.byContradiction
            intro hn
            have : qm_blen q = 0 := by
              unfold qm_blen
              split
              · exact absurd (Or.inl rfl) hn
              · exact absurd (Or.inr rfl) hn
              · rfl
            exact hg (Or.inr (by rw [this]; exact Nat.zero_le _))
          have h0 : q ≠ 0 := by rcases hb with rfl | rfl <;> decide
          have h80 : q ≠ 80 := by rcases hb with rfl | rfl <;> decide
          have h81 : q ≠ 81 := by rcases hb with rfl | rfl <;> decide
          have hi := qm_okV_lt ho.t.h h0
          have he := qm_W_at (B0 := B0) (cs := cs) (h := h) hi h80 h81
          rw [qm_cell_b hb] at he
          rw [List.map_cons, List.map_cons, qm_cv_P h0 h80 h81]
          exact va_zald X.1 X.2.1 X.2.2.2.2.2.1.1 hw.1 (qm_ad q i) 2 he rfl hg hd (kk H locs als hw hl (ho.t.t.cons trivial))
    · cases ha
    · cases ha
theorem so_aald (X : qm_Cx p R s m args c cells slots d mi B0 sb sa sv L xs dC dI cs) (hw : qm_Wd s B0 L xs dC dI cs h H locs) (hl : qm_Lo mi B0 sb sa als ls) (ho : qm_So st) (hd : decode (mC mi) pc = .ok (.aaload, 1)) (ha : qa_aald ls st h = some (.inl (ls', st', h'))) (kk : ∀ (H1 : Heap) (locs1 : List Loc) (als1 : Array Slot), qm_Wd s B0 L xs dC dI cs h' H1 locs1 → qm_Lo mi B0 sb sa als1 ls' → qm_So st' → W p l e R s m args below meth c H1 locs1 cells slots Q (F0 m (pc + 1) als1 (st'.map (qm_cv B0 sb sa)))) : W p l e R s m args below meth c H locs cells slots Q (F0 m pc als (st.map (qm_cv B0 sb sa))) := by
  unfold qa_aald at ha
  rcases st with _ | ⟨v, _ | ⟨v2, r⟩⟩
  · cases ha
  · rcases v with v | v | ⟨q', i'⟩ <;> cases ha
  · rcases v with j | v | ⟨q', i'⟩
    · rcases v2 with v2 | v2 | ⟨q, i⟩
      · cases ha
      · cases ha
      · replace ha : (if j < 0 ∨ qm_rlen q ≤ j.toNatClampNeg then none else some (.inl (ls, qP (qm_rel q).1 ((qm_rel q).2 + j.toNatClampNeg) :: r, h)) : Option qm_Act) = some (.inl (ls', st', h')) := ha
        split at ha
        · cases ha
        · next hg =>
          cases ha
          have hb : q = 46 ∨ q = 51 := by
            apply Classical.byContradiction
            intro hn
            have : qm_rlen q = 0 := by
              unfold qm_rlen
              split
              · exact absurd (Or.inl rfl) hn
              · exact absurd (Or.inr rfl) hn
              · rfl
            exact hg (Or.inr (by rw [this]; exact Nat.zero_le _))
          rcases hb with rfl | rfl
          · have hi := qm_okV_lt ho.t.h (by decide)
            have he := qm_W_at (B0 := B0) (cs := cs) (h := h) hi (by decide) (by decide)
            have hj : j.toNatClampNeg < 5 := Nat.not_le.mp (fun z => hg (Or.inr z))
            have hok : qm_okV (qP 3 (4 + j.toNatClampNeg)) := Or.inr (show 4 + j.toNatClampNeg < 9 by omega)
            have k2 := kk H locs als hw hl (ho.t.t.cons hok)
            rw [List.map_cons, show qm_cv B0 sb sa (qP (qm_rel 46).1 ((qm_rel 46).2 + j.toNatClampNeg)) = .ref (B0 + qm_ad 3 (4 + j.toNatClampNeg)) from qm_cv_P (k := 3) (by decide) (by decide) (by decide)] at k2
            rw [List.map_cons, List.map_cons, qm_cv_P (k := 46) (by decide) (by decide) (by decide)]
            have hfl := hw.2.2.2.1.2.2 46 i j.toNatClampNeg (Or.inr hj) hi
            refine va_aldq X.1 X.2.1 X.2.2.2.2.2.1.1 hw.1 (qm_ad 46 i) 4 (C := "WoodStack$Pile") he rfl hg hd ?_
            rw [hfl]
            exact k2
          · have hi := qm_okV_lt ho.t.h (by decide)
            have he := qm_W_at (B0 := B0) (cs := cs) (h := h) hi (by decide) (by decide)
            have hj : j.toNatClampNeg < 4 := Nat.not_le.mp (fun z => hg (Or.inr z))
            have hok : qm_okV (qP 4 (0 + j.toNatClampNeg)) := Or.inr (show 0 + j.toNatClampNeg < 5 by omega)
            have k2 := kk H locs als hw hl (ho.t.t.cons hok)
            rw [List.map_cons, show qm_cv B0 sb sa (qP (qm_rel 51).1 ((qm_rel 51).2 + j.toNatClampNeg)) = .ref (B0 + qm_ad 4 (0 + j.toNatClampNeg)) from qm_cv_P (k := 4) (by decide) (by decide) (by decide)] at k2
            rw [List.map_cons, List.map_cons, qm_cv_P (k := 51) (by decide) (by decide) (by decide)]
            have hfl := hw.2.2.2.1.2.2 51 i j.toNatClampNeg (Or.inr hj) hi
            refine va_aldq X.1 X.2.1 X.2.2.2.2.2.1.1 hw.1 (qm_ad 51 i) 3 (C := "WoodStack$Text") he rfl hg hd ?_
            rw [hfl]
            exact k2
    · cases ha
    · cases ha
theorem so_iast (X : qm_Cx p R s m args c cells slots d mi B0 sb sa sv L xs dC dI cs) (hw : qm_Wd s B0 L xs dC dI cs h H locs) (hl : qm_Lo mi B0 sb sa als ls) (ho : qm_So st) (hd : decode (mC mi) pc = .ok (.iastore, 1)) (ha : qa_iast ls st h = some (.inl (ls', st', h'))) (kk : ∀ (H1 : Heap) (locs1 : List Loc) (als1 : Array Slot), qm_Wd s B0 L xs dC dI cs h' H1 locs1 → qm_Lo mi B0 sb sa als1 ls' → qm_So st' → W p l e R s m args below meth c H1 locs1 cells slots Q (F0 m (pc + 1) als1 (st'.map (qm_cv B0 sb sa)))) : W p l e R s m args below meth c H locs cells slots Q (F0 m pc als (st.map (qm_cv B0 sb sa))) := by
  unfold qa_iast at ha
  rcases st with _ | ⟨v, _ | ⟨v1, _ | ⟨v2, r⟩⟩⟩
  · cases ha
  · rcases v with v | v | ⟨q', i'⟩ <;> cases ha
  · rcases v with v | v | ⟨q', i'⟩ <;> rcases v1 with v1 | v1 | ⟨q1, i1⟩ <;> cases ha
  · rcases v with v | v | ⟨q', i'⟩
    · rcases v1 with j | v1 | ⟨q1, i1⟩
      · rcases v2 with v2 | v2 | ⟨q, i⟩
        · cases ha
        · cases ha
        · replace ha : (if (j < 0 ∨ qm_ilen h q ≤ j.toNatClampNeg) ∨ q = 80 then none else some (.inl (ls, r, uI h q i j.toNatClampNeg v)) : Option qm_Act) = some (.inl (ls', st', h')) := ha
          split at ha
          · cases ha
          · next hg =>
            cases ha
            have h80 : q ≠ 80 := fun z => hg (Or.inr z)
            have hg : ¬ (j < 0 ∨ qm_ilen h q ≤ j.toNatClampNeg) := fun z => hg (Or.inl z)
            rw [qm_ilen_z h80] at hg
            have hp : 0 < qm_ilen qm_z q := Nat.lt_of_le_of_lt (Nat.zero_le _) (Nat.not_le.mp (fun z => hg (Or.inr z)))
            have hz := qm_ilen_pos hp
            have hi := qm_okV_lt ho.t.t.h hz.1
            have he := qm_W_at (B0 := B0) (cs := cs) (h := h) hi h80 hz.2.1
            rw [qm_cell_i hp] at he
            rw [List.map_cons, List.map_cons, List.map_cons, qm_cv_P hz.1 h80 hz.2.1]
            refine va_iast X.1 X.2.1 X.2.2.2.2.2.1.1 hw.1 hw.2.1 hw.2.2.1 (qm_ad q i) 0 he rfl hg hd (fun H1 locs1 p1 p2 p3 => ?_)
            refine kk H1 locs1 als (hw.wI hi h80 hz.2.1 ⟨qm_fk_arr (qm_arr_ge hp), qm_rlen_0 hp⟩ ?_ p1 p2 p3) hl ho.t.t.t
            rw [qm_cell_i hp]
            congr 4
            funext a
            rw [zI_uI]
            simp [upd]
      · rcases v2 with v2 | v2 | ⟨q, i⟩ <;> cases ha
      · rcases v2 with v2 | v2 | ⟨q, i⟩ <;> cases ha
    · rcases v1 with v1 | v1 | ⟨q1, i1⟩ <;> rcases v2 with v2 | v2 | ⟨q, i⟩ <;> cases ha
    · rcases v1 with v1 | v1 | ⟨q1, i1⟩ <;> rcases v2 with v2 | v2 | ⟨q, i⟩ <;> cases ha
theorem so_bast (X : qm_Cx p R s m args c cells slots d mi B0 sb sa sv L xs dC dI cs) (hw : qm_Wd s B0 L xs dC dI cs h H locs) (hl : qm_Lo mi B0 sb sa als ls) (ho : qm_So st) (hd : decode (mC mi) pc = .ok (.bastore, 1)) (ha : qa_bast ls st h = some (.inl (ls', st', h'))) (kk : ∀ (H1 : Heap) (locs1 : List Loc) (als1 : Array Slot), qm_Wd s B0 L xs dC dI cs h' H1 locs1 → qm_Lo mi B0 sb sa als1 ls' → qm_So st' → W p l e R s m args below meth c H1 locs1 cells slots Q (F0 m (pc + 1) als1 (st'.map (qm_cv B0 sb sa)))) : W p l e R s m args below meth c H locs cells slots Q (F0 m pc als (st.map (qm_cv B0 sb sa))) := by
  unfold qa_bast at ha
  rcases st with _ | ⟨v, _ | ⟨v1, _ | ⟨v2, r⟩⟩⟩
  · cases ha
  · rcases v with v | v | ⟨q', i'⟩ <;> cases ha
  · rcases v with v | v | ⟨q', i'⟩ <;> rcases v1 with v1 | v1 | ⟨q1, i1⟩ <;> cases ha
  · rcases v with v | v | ⟨q', i'⟩
    · rcases v1 with j | v1 | ⟨q1, i1⟩
      · rcases v2 with v2 | v2 | ⟨q, i⟩
        · cases ha
        · cases ha
        · replace ha : (if (j < 0 ∨ qm_blen q ≤ j.toNatClampNeg) ∨ ¬ (v = 0 ∨ v = 1) then none else some (.inl (ls, r, uI h q i j.toNatClampNeg v)) : Option qm_Act) = some (.inl (ls', st', h')) := ha
          split at ha
          · cases ha
          · next hg =>
            cases ha
            have hv : v = 0 ∨ v = 1 := Classical.byContradiction fun z => hg (Or.inr z)
            have hg : ¬ (j < 0 ∨ qm_blen q ≤ j.toNatClampNeg) := fun z => hg (Or.inl z)
            have hb : q = 67 ∨ q = 76 := by
              apply Classical.byContradiction
              intro hn
              have : qm_blen q = 0 := by
                unfold qm_blen
                split
                · exact absurd (Or.inl rfl) hn
                · exact absurd (Or.inr rfl) hn
                · rfl
              exact hg (Or.inr (by rw [this]; exact Nat.zero_le _))
            have h0 : q ≠ 0 := by rcases hb with rfl | rfl <;> decide
            have h80 : q ≠ 80 := by rcases hb with rfl | rfl <;> decide
            have h81 : q ≠ 81 := by rcases hb with rfl | rfl <;> decide
            have hi := qm_okV_lt ho.t.t.h h0
            have he := qm_W_at (B0 := B0) (cs := cs) (h := h) hi h80 h81
            rw [qm_cell_b hb] at he
            rw [List.map_cons, List.map_cons, List.map_cons, qm_cv_P h0 h80 h81]
            refine va_zast X.1 X.2.1 X.2.2.2.2.2.1.1 hw.1 hw.2.1 hw.2.2.1 (qm_ad q i) 2 he rfl hg hd (fun H1 locs1 p1 p2 p3 => ?_)
            refine kk H1 locs1 als (hw.wI hi h80 h81 ⟨qm_fk_arr (by rcases hb with rfl | rfl <;> decide), by rcases hb with rfl | rfl <;> rfl⟩ ?_ p1 p2 p3) hl ho.t.t.t
            rw [qm_cell_b hb]
            have hn : vp_nar .boolean v = v := by rcases hv with rfl | rfl <;> rfl
            rw [hn]
            congr 4
            funext a
            rw [zI_uI]
            simp [upd]
      · rcases v2 with v2 | v2 | ⟨q, i⟩ <;> cases ha
      · rcases v2 with v2 | v2 | ⟨q, i⟩ <;> cases ha
    · rcases v1 with v1 | v1 | ⟨q1, i1⟩ <;> rcases v2 with v2 | v2 | ⟨q, i⟩ <;> cases ha
    · rcases v1 with v1 | v1 | ⟨q1, i1⟩ <;> rcases v2 with v2 | v2 | ⟨q, i⟩ <;> cases ha
theorem so_last (X : qm_Cx p R s m args c cells slots d mi B0 sb sa sv L xs dC dI cs) (hw : qm_Wd s B0 L xs dC dI cs h H locs) (hl : qm_Lo mi B0 sb sa als ls) (ho : qm_So st) (hd : decode (mC mi) pc = .ok (.lastore, 1)) (ha : qa_last ls st h = some (.inl (ls', st', h'))) (kk : ∀ (H1 : Heap) (locs1 : List Loc) (als1 : Array Slot), qm_Wd s B0 L xs dC dI cs h' H1 locs1 → qm_Lo mi B0 sb sa als1 ls' → qm_So st' → W p l e R s m args below meth c H1 locs1 cells slots Q (F0 m (pc + 1) als1 (st'.map (qm_cv B0 sb sa)))) : W p l e R s m args below meth c H locs cells slots Q (F0 m pc als (st.map (qm_cv B0 sb sa))) := by
  unfold qa_last at ha
  rcases st with _ | ⟨v, _ | ⟨v1, _ | ⟨v2, r⟩⟩⟩
  · cases ha
  · rcases v with v | v | ⟨q', i'⟩ <;> cases ha
  · rcases v with v | v | ⟨q', i'⟩ <;> rcases v1 with v1 | v1 | ⟨q1, i1⟩ <;> cases ha
  · rcases v with v | v | ⟨q', i'⟩
    · rcases v1 with v1 | v1 | ⟨q1, i1⟩ <;> rcases v2 with v2 | v2 | ⟨q, i⟩ <;> cases ha
    · rcases v1 with j | v1 | ⟨q1, i1⟩
      · rcases v2 with v2 | v2 | ⟨q, i⟩
        · cases ha
        · cases ha
        · replace ha : (if j < 0 ∨ qm_llen q ≤ j.toNatClampNeg then none else some (.inl (ls, r, uL h q i j.toNatClampNeg v)) : Option qm_Act) = some (.inl (ls', st', h')) := ha
          split at ha
          · cases ha
          · next hg =>
            cases ha
            have h66 : q = 66 := by
              apply Classical.byContradiction
              intro hn
              have : qm_llen q = 0 := by
                unfold qm_llen
                split
                · exact absurd rfl hn
                · rfl
              exact hg (Or.inr (by rw [this]; exact Nat.zero_le _))
            subst h66
            have hi := qm_okV_lt ho.t.t.h (by decide)
            have he := qm_W_at (B0 := B0) (cs := cs) (h := h) hi (by decide) (by decide)
            rw [qm_cell_l] at he
            rw [List.map_cons, List.map_cons, List.map_cons, qm_cv_P (k := 66) (by decide) (by decide) (by decide)]
            refine va_last X.1 X.2.1 X.2.2.2.2.2.1.1 hw.1 hw.2.1 hw.2.2.1 (qm_ad 66 i) 1 he rfl hg hd (fun H1 locs1 p1 p2 p3 => ?_)
            refine kk H1 locs1 als (hw.wL hi (by decide) (by decide) ?_ p1 p2 p3) hl ho.t.t.t
            rw [qm_cell_l]
            congr 5
            funext a
            rw [zL_uL]
            simp [vp_updL]
      · rcases v2 with v2 | v2 | ⟨q, i⟩ <;> cases ha
      · rcases v2 with v2 | v2 | ⟨q, i⟩ <;> cases ha
    · rcases v1 with v1 | v1 | ⟨q1, i1⟩ <;> rcases v2 with v2 | v2 | ⟨q, i⟩ <;> cases ha
theorem so_alen (X : qm_Cx p R s m args c cells slots d mi B0 sb sa sv L xs dC dI cs) (hw : qm_Wd s B0 L xs dC dI cs h H locs) (hl : qm_Lo mi B0 sb sa als ls) (ho : qm_So st) (hd : decode (mC mi) pc = .ok (.arraylength, 1)) (ha : qa_alen ls st h = some (.inl (ls', st', h'))) (kk : ∀ (H1 : Heap) (locs1 : List Loc) (als1 : Array Slot), qm_Wd s B0 L xs dC dI cs h' H1 locs1 → qm_Lo mi B0 sb sa als1 ls' → qm_So st' → W p l e R s m args below meth c H1 locs1 cells slots Q (F0 m (pc + 1) als1 (st'.map (qm_cv B0 sb sa)))) : W p l e R s m args below meth c H locs cells slots Q (F0 m pc als (st.map (qm_cv B0 sb sa))) := by
  unfold qa_alen at ha
  rcases st with _ | ⟨v, r⟩
  · cases ha
  · rcases v with v | v | ⟨q, i⟩
    · cases ha
    · cases ha
    · replace ha : (if q = 35 ∨ q = 42 ∨ q = 54 ∨ q = 55 ∨ q = 80 then some (.inl (ls, qI (Int32.ofNat (qm_ilen h q)) :: r, h)) else none : Option qm_Act) = some (.inl (ls', st', h')) := ha
      split at ha
      · next hg =>
        cases ha
        by_cases h80 : q = 80
        · subst h80
          have hL : qm_ilen h 80 = L := by
            show (zI h 82 0 0).toNatClampNeg = L
            rw [hw.2.2.2.2.2, nI_clamp X.2.2.2.2.2.1.2.2.2.2.1]
          have k2 := kk H locs als hw hl (ho.t.cons trivial)
          rw [hL] at k2
          have Ev := X.2.2.2.2.2.1
          exact va_slen X.1 X.2.1 Ev.2.2.1 (Nat.lt_of_lt_of_le Ev.2.2.2.1 Ev.2.2.2.2.2.1) (Nat.not_le.mpr Ev.2.2.2.1) hw.2.2.1 hd k2
        · have hp : 0 < qm_ilen qm_z q := by
            rcases hg with rfl | rfl | rfl | rfl | rfl
            · decide
            · decide
            · decide
            · decide
            · exact absurd rfl h80
          have hz := qm_ilen_pos hp
          have hi := qm_okV_lt ho.h hz.1
          have he := qm_W_at (B0 := B0) (cs := cs) (h := h) hi h80 hz.2.1
          rw [qm_cell_i hp] at he
          have k2 := kk H locs als hw hl (ho.t.cons trivial)
          rw [qm_ilen_z h80] at k2
          rw [List.map_cons, qm_cv_P hz.1 h80 hz.2.1]
          exact va_alen X.1 X.2.1 X.2.2.2.2.2.1.1 hw.1 (qm_ad q i) 0 he rfl rfl hd k2
      · cases ha
theorem so_max (X : qm_Cx p R s m args c cells slots d mi B0 sb sa sv L xs dC dI cs) (hw : qm_Wd s B0 L xs dC dI cs h H locs) (hl : qm_Lo mi B0 sb sa als ls) (ho : qm_So st) {idx : Nat} (hm : (mN mi, idx, 81) ∈ qm_ilk) (hd : decode (mC mi) pc = .ok (.invokestatic idx, 3)) (ha : qa_m2 (fun x y => if x < y then y else x) ls st h = some (.inl (ls', st', h'))) (kk : ∀ (H1 : Heap) (locs1 : List Loc) (als1 : Array Slot), qm_Wd s B0 L xs dC dI cs h' H1 locs1 → qm_Lo mi B0 sb sa als1 ls' → qm_So st' → W p l e R s m args below meth c H1 locs1 cells slots Q (F0 m (pc + 3) als1 (st'.map (qm_cv B0 sb sa)))) : W p l e R s m args below meth c H locs cells slots Q (F0 m pc als (st.map (qm_cv B0 sb sa))) := by
  unfold qa_m2 at ha
  rcases st with _ | ⟨v, _ | ⟨v2, r⟩⟩
  · cases ha
  · rcases v with v | v | ⟨q', i'⟩ <;> cases ha
  · rcases v with v | v | ⟨q', i'⟩
    · rcases v2 with v2 | v2 | ⟨q, i⟩
      · replace ha : (if qm_wid r ≤ 8 then some (.inl (ls, qI ((fun x y => if x < y then y else x) v2 v) :: r, h)) else none : Option qm_Act) = some (.inl (ls', st', h')) := ha
        split at ha
        · next hg =>
          cases ha
          exact va_mmax X.1 X.2.1 (by rw [X.2.2.1]; exact hl.1.1.symm) X.2.2.2.1 (X.2.2.2.2.1 _ (il_ok_81 _ hm rfl).tb) (X.2.2.2.2.1 _ is_81.tb) (X.2.2.2.2.1 _ ii_M.tb) (X.2.2.2.2.1 _ icw_81.tb) (by have := X.2.2.2.2.2.2.2.2.1; omega) (by rw [qm_wid_cat]; have := X.2.2.2.2.2.2.2.2.2; omega) X.2.2.2.2.2.2.1 X.2.2.2.2.2.2.2.1 hd (kk H locs als hw hl (ho.t.t.cons trivial))
        · cases ha
      · cases ha
      · cases ha
    · rcases v2 with v2 | v2 | ⟨q, i⟩ <;> cases ha
    · rcases v2 with v2 | v2 | ⟨q, i⟩ <;> cases ha
theorem so_min (X : qm_Cx p R s m args c cells slots d mi B0 sb sa sv L xs dC dI cs) (hw : qm_Wd s B0 L xs dC dI cs h H locs) (hl : qm_Lo mi B0 sb sa als ls) (ho : qm_So st) {idx : Nat} (hm : (mN mi, idx, 82) ∈ qm_ilk) (hd : decode (mC mi) pc = .ok (.invokestatic idx, 3)) (ha : qa_m2 (fun x y => if y < x then y else x) ls st h = some (.inl (ls', st', h'))) (kk : ∀ (H1 : Heap) (locs1 : List Loc) (als1 : Array Slot), qm_Wd s B0 L xs dC dI cs h' H1 locs1 → qm_Lo mi B0 sb sa als1 ls' → qm_So st' → W p l e R s m args below meth c H1 locs1 cells slots Q (F0 m (pc + 3) als1 (st'.map (qm_cv B0 sb sa)))) : W p l e R s m args below meth c H locs cells slots Q (F0 m pc als (st.map (qm_cv B0 sb sa))) := by
  unfold qa_m2 at ha
  rcases st with _ | ⟨v, _ | ⟨v2, r⟩⟩
  · cases ha
  · rcases v with v | v | ⟨q', i'⟩ <;> cases ha
  · rcases v with v | v | ⟨q', i'⟩
    · rcases v2 with v2 | v2 | ⟨q, i⟩
      · replace ha : (if qm_wid r ≤ 8 then some (.inl (ls, qI ((fun x y => if y < x then y else x) v2 v) :: r, h)) else none : Option qm_Act) = some (.inl (ls', st', h')) := ha
        split at ha
        · next hg =>
          cases ha
          exact va_mmin X.1 X.2.1 (by rw [X.2.2.1]; exact hl.1.1.symm) X.2.2.2.1 (X.2.2.2.2.1 _ (il_ok_82 _ hm rfl).tb) (X.2.2.2.2.1 _ is_82.tb) (X.2.2.2.2.1 _ ii_M.tb) (X.2.2.2.2.1 _ icw_82.tb) (by have := X.2.2.2.2.2.2.2.2.1; omega) (by rw [qm_wid_cat]; have := X.2.2.2.2.2.2.2.2.2; omega) X.2.2.2.2.2.2.1 X.2.2.2.2.2.2.2.1 hd (kk H locs als hw hl (ho.t.t.cons trivial))
        · cases ha
      · cases ha
      · cases ha
    · rcases v2 with v2 | v2 | ⟨q, i⟩ <;> cases ha
    · rcases v2 with v2 | v2 | ⟨q, i⟩ <;> cases ha
theorem so_maxl (X : qm_Cx p R s m args c cells slots d mi B0 sb sa sv L xs dC dI cs) (hw : qm_Wd s B0 L xs dC dI cs h H locs) (hl : qm_Lo mi B0 sb sa als ls) (ho : qm_So st) {idx : Nat} (hm : (mN mi, idx, 84) ∈ qm_ilk) (hd : decode (mC mi) pc = .ok (.invokestatic idx, 3)) (ha : qa_lm2 (fun x y => if y < x then x else y) ls st h = some (.inl (ls', st', h'))) (kk : ∀ (H1 : Heap) (locs1 : List Loc) (als1 : Array Slot), qm_Wd s B0 L xs dC dI cs h' H1 locs1 → qm_Lo mi B0 sb sa als1 ls' → qm_So st' → W p l e R s m args below meth c H1 locs1 cells slots Q (F0 m (pc + 3) als1 (st'.map (qm_cv B0 sb sa)))) : W p l e R s m args below meth c H locs cells slots Q (F0 m pc als (st.map (qm_cv B0 sb sa))) := by
  unfold qa_lm2 at ha
  rcases st with _ | ⟨v, _ | ⟨v2, r⟩⟩
  · cases ha
  · rcases v with v | v | ⟨q', i'⟩ <;> cases ha
  · rcases v with v | v | ⟨q', i'⟩
    · rcases v2 with v2 | v2 | ⟨q, i⟩ <;> cases ha
    · rcases v2 with v2 | v2 | ⟨q, i⟩
      · cases ha
      · replace ha : (if qm_wid r ≤ 8 then some (.inl (ls, qL ((fun x y => if y < x then x else y) v2 v) :: r, h)) else none : Option qm_Act) = some (.inl (ls', st', h')) := ha
        split at ha
        · next hg =>
          cases ha
          exact va_mmax_long X.1 X.2.1 (by rw [X.2.2.1]; exact hl.1.1.symm) X.2.2.2.1 (X.2.2.2.2.1 _ (il_ok_84 _ hm rfl).tb) (X.2.2.2.2.1 _ is_84.tb) (X.2.2.2.2.1 _ ii_M.tb) (X.2.2.2.2.1 _ icw_84.tb) (by have := X.2.2.2.2.2.2.2.2.1; omega) (by rw [qm_wid_cat]; have := X.2.2.2.2.2.2.2.2.2; omega) X.2.2.2.2.2.2.1 X.2.2.2.2.2.2.2.1 hd (kk H locs als hw hl (ho.t.t.cons trivial))
        · cases ha
      · cases ha
    · rcases v2 with v2 | v2 | ⟨q, i⟩ <;> cases ha
theorem so_minl (X : qm_Cx p R s m args c cells slots d mi B0 sb sa sv L xs dC dI cs) (hw : qm_Wd s B0 L xs dC dI cs h H locs) (hl : qm_Lo mi B0 sb sa als ls) (ho : qm_So st) {idx : Nat} (hm : (mN mi, idx, 85) ∈ qm_ilk) (hd : decode (mC mi) pc = .ok (.invokestatic idx, 3)) (ha : qa_lm2 (fun x y => if y < x then y else x) ls st h = some (.inl (ls', st', h'))) (kk : ∀ (H1 : Heap) (locs1 : List Loc) (als1 : Array Slot), qm_Wd s B0 L xs dC dI cs h' H1 locs1 → qm_Lo mi B0 sb sa als1 ls' → qm_So st' → W p l e R s m args below meth c H1 locs1 cells slots Q (F0 m (pc + 3) als1 (st'.map (qm_cv B0 sb sa)))) : W p l e R s m args below meth c H locs cells slots Q (F0 m pc als (st.map (qm_cv B0 sb sa))) := by
  unfold qa_lm2 at ha
  rcases st with _ | ⟨v, _ | ⟨v2, r⟩⟩
  · cases ha
  · rcases v with v | v | ⟨q', i'⟩ <;> cases ha
  · rcases v with v | v | ⟨q', i'⟩
    · rcases v2 with v2 | v2 | ⟨q, i⟩ <;> cases ha
    · rcases v2 with v2 | v2 | ⟨q, i⟩
      · cases ha
      · replace ha : (if qm_wid r ≤ 8 then some (.inl (ls, qL ((fun x y => if y < x then y else x) v2 v) :: r, h)) else none : Option qm_Act) = some (.inl (ls', st', h')) := ha
        split at ha
        · next hg =>
          cases ha
          exact va_mmin_long X.1 X.2.1 (by rw [X.2.2.1]; exact hl.1.1.symm) X.2.2.2.1 (X.2.2.2.2.1 _ (il_ok_85 _ hm rfl).tb) (X.2.2.2.2.1 _ is_85.tb) (X.2.2.2.2.1 _ ii_M.tb) (X.2.2.2.2.1 _ icw_85.tb) (by have := X.2.2.2.2.2.2.2.2.1; omega) (by rw [qm_wid_cat]; have := X.2.2.2.2.2.2.2.2.2; omega) X.2.2.2.2.2.2.1 X.2.2.2.2.2.2.2.1 hd (kk H locs als hw hl (ho.t.t.cons trivial))
        · cases ha
      · cases ha
    · rcases v2 with v2 | v2 | ⟨q, i⟩ <;> cases ha
theorem so_abs (X : qm_Cx p R s m args c cells slots d mi B0 sb sa sv L xs dC dI cs) (hw : qm_Wd s B0 L xs dC dI cs h H locs) (hl : qm_Lo mi B0 sb sa als ls) (ho : qm_So st) {idx : Nat} (hm : (mN mi, idx, 83) ∈ qm_ilk) (hd : decode (mC mi) pc = .ok (.invokestatic idx, 3)) (ha : qa_abs ls st h = some (.inl (ls', st', h'))) (kk : ∀ (H1 : Heap) (locs1 : List Loc) (als1 : Array Slot), qm_Wd s B0 L xs dC dI cs h' H1 locs1 → qm_Lo mi B0 sb sa als1 ls' → qm_So st' → W p l e R s m args below meth c H1 locs1 cells slots Q (F0 m (pc + 3) als1 (st'.map (qm_cv B0 sb sa)))) : W p l e R s m args below meth c H locs cells slots Q (F0 m pc als (st.map (qm_cv B0 sb sa))) := by
  unfold qa_abs at ha
  rcases st with _ | ⟨v, r⟩
  · cases ha
  · rcases v with v | v | ⟨q, i⟩
    · replace ha : (if qm_wid r ≤ 8 then some (.inl (ls, qI (if 0 ≤ v then v else 0 - v) :: r, h)) else none : Option qm_Act) = some (.inl (ls', st', h')) := ha
      split at ha
      · next hg =>
        cases ha
        exact va_mabs X.1 X.2.1 (by rw [X.2.2.1]; exact hl.1.1.symm) X.2.2.2.1 (X.2.2.2.2.1 _ (il_ok_83 _ hm rfl).tb) (X.2.2.2.2.1 _ is_83.tb) (X.2.2.2.2.1 _ ii_M.tb) (X.2.2.2.2.1 _ icw_83.tb) (by have := X.2.2.2.2.2.2.2.2.1; omega) (by rw [qm_wid_cat]; have := X.2.2.2.2.2.2.2.2.2; omega) X.2.2.2.2.2.2.1 X.2.2.2.2.2.2.2.1 hd (kk H locs als hw hl (ho.t.cons trivial))
      · cases ha
    · cases ha
    · cases ha
theorem so_copy (X : qm_Cx p R s m args c cells slots d mi B0 sb sa sv L xs dC dI cs) (hw : qm_Wd s B0 L xs dC dI cs h H locs) (hl : qm_Lo mi B0 sb sa als ls) (ho : qm_So st) {idx : Nat} (hm : (mN mi, idx, 86) ∈ qm_ilk) (hd : decode (mC mi) pc = .ok (.invokestatic idx, 3)) (ha : qa_copy ls st h = some (.inl (ls', st', h'))) (kk : ∀ (H1 : Heap) (locs1 : List Loc) (als1 : Array Slot), qm_Wd s B0 L xs dC dI cs h' H1 locs1 → qm_Lo mi B0 sb sa als1 ls' → qm_So st' → W p l e R s m args below meth c H1 locs1 cells slots Q (F0 m (pc + 3) als1 (st'.map (qm_cv B0 sb sa)))) : W p l e R s m args below meth c H locs cells slots Q (F0 m pc als (st.map (qm_cv B0 sb sa))) := by
  have h9 : nativeFrameWords "java/lang/System" "arraycopy" 5 ≤ 100 := by decide +kernel
  unfold qa_copy at ha
  split at ha
  · next n0 dp q' i' sp q i r =>
    split at ha
    · cases ha
    · next hg =>
      have g1 : ¬ sp < 0 := fun z => hg (Or.inl (Or.inl z))
      have g2 : ¬ dp < 0 := fun z => hg (Or.inl (Or.inr (Or.inl z)))
      have g3 : ¬ n0 < 0 := fun z => hg (Or.inl (Or.inr (Or.inr z)))
      have g4 : sp.toNatClampNeg + n0.toNatClampNeg ≤ qm_ilen h q := Nat.not_lt.mp (fun z => hg (Or.inr (Or.inl z)))
      have g5 : dp.toNatClampNeg + n0.toNatClampNeg ≤ qm_ilen h q' := Nat.not_lt.mp (fun z => hg (Or.inr (Or.inr (Or.inl z))))
      have g6 : q ≠ 80 := fun z => hg (Or.inr (Or.inr (Or.inr (Or.inl z))))
      have g7 : q' ≠ 80 := fun z => hg (Or.inr (Or.inr (Or.inr (Or.inr (Or.inl z)))))
      have g8 : qm_wid r ≤ 8 := Nat.not_lt.mp (fun z => hg (Or.inr (Or.inr (Or.inr (Or.inr (Or.inr (Or.inl z)))))))
      have hq0 : ¬ qm_ilen h q = 0 := fun z => hg (Or.inr (Or.inr (Or.inr (Or.inr (Or.inr (Or.inr (Or.inl z)))))))
      have hq1 : ¬ qm_ilen h q' = 0 := fun z => hg (Or.inr (Or.inr (Or.inr (Or.inr (Or.inr (Or.inr (Or.inr z)))))))
      rw [qm_ilen_z g6] at g4 hq0
      rw [qm_ilen_z g7] at g5 hq1
      cases ha
      have hq0 : 0 < qm_ilen qm_z q := Nat.pos_of_ne_zero hq0
      have hq1 : 0 < qm_ilen qm_z q' := Nat.pos_of_ne_zero hq1
      have z0 := qm_ilen_pos hq0
      have z1 := qm_ilen_pos hq1
      have i1 := qm_okV_lt ho.t.t.h z1.1
      have i0 := qm_okV_lt ho.t.t.t.t.h z0.1
      have e0 := qm_W_at (B0 := B0) (cs := cs) (h := h) i0 g6 z0.2.1
      have e1 := qm_W_at (B0 := B0) (cs := cs) (h := h) i1 g7 z1.2.1
      rw [qm_cell_i hq0] at e0
      rw [qm_cell_i hq1] at e1
      have g9 := X.2.2.2.2.2.2.2.2.2
      rw [List.map_cons, List.map_cons, List.map_cons, List.map_cons, List.map_cons, qm_cv_P z1.1 g7 z1.2.1, qm_cv_P z0.1 g6 z0.2.1]
      refine va_copyi X.1 X.2.1 (by rw [X.2.2.1]; exact hl.1.1.symm) X.2.2.2.1 (X.2.2.2.2.1 _ (il_ok_86 _ hm rfl).tb) (X.2.2.2.2.1 _ in_86.tb) (X.2.2.2.2.1 _ is_86.tb) (X.2.2.2.2.1 _ ii_S.tb) X.2.2.2.2.2.1.1 hw.1 hw.2.1 hw.2.2.1 (qm_ad q i) (qm_ad q' i') 0 0 e0 e1 rfl rfl rfl g1 g2 g3 g4 g5 (fun _ _ => rfl) (by have := X.2.2.2.2.2.2.2.2.1; omega) (by rw [qm_wid_cat]; omega) hd (fun H1 locs1 p1 p2 p3 => ?_)
      refine kk H1 locs1 als (hw.wC i1 g7 z1.2.1 ⟨qm_arr_ge hq1, qm_rlen_0 hq1⟩ ?_ p1 p2 p3) hl ho.t.t.t.t.t
      rw [qm_cell_i hq1]
      congr 4
      funext a
      rw [zI_uC]
      by_cases ha : dp.toNatClampNeg ≤ a ∧ a < dp.toNatClampNeg + n0.toNatClampNeg
      · rw [if_pos ⟨rfl, rfl, ha⟩, pk_cpy_in ha.1 ha.2]
      · rw [if_neg (fun z => ha z.2.2), pk_cpy_out (by omega)]
  · cases ha
end QSA
