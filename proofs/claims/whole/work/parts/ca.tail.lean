/-! the reference's constructor: its width, its copy -/
theorem hb0 : ∀ m, qm_bpc m 0 = 0 ∨ m = 241 := by
  intro m
  by_cases h : m < 242
  · exact (show ∀ m, m < 242 → qm_bpc m 0 = 0 ∨ m = 241 by decide +kernel) m h
  · left
    have h9 : qm_bpcs.length = 242 := by decide +kernel
    have e : qm_bpcs.getD m [] = [] := by
      rw [List.getD_eq_getElem?_getD, List.getElem?_eq_none (by omega)]
      rfl
    unfold qm_bpc
    rw [e]
    rfl
section QNT
variable {p : Program} {l : Launch} {e : Env} {R : Room} {s : State} {m : MethodId} {args : Array Value} {below : List Frame} {meth : Method} {c : Code} {cells slots : Nat} {Q : State → Prop} {H : Heap} {locs : List Loc}
variable {B0 sb sa sv L : Nat} {xs : Nat → Int32} {dC : Nat → ClassId} {dI : Nat → Nat → Nat} {cs : Nat × Nat × Nat × Nat × Nat} {als : Array Slot} {h h' : qm_Hp} {rest : List Value}
theorem m_clamp (X : qn_X p s m args c 55 B0 sb sa sv L xs dC dI cs) {w v : Int32} (hl : als[1]? = some (.val (.int w))) (hv : (if nI 2 ≤ w then (if w ≤ nI 6 then w else nI 6) else nI 2) = v) (kk : W p l e R s m args below meth c H locs cells slots Q (F0 m 168 als (.int v :: rest))) : W p l e R s m args below meth c H locs cells slots Q (F0 m 147 als rest) := by
  refine lv_iload_n X.1 X.2.1 dec_55_147 rfl hl ?_
  refine lv_iconst (v := nI 2) X.1 X.2.1 dec_55_148 (by decide) ?_
  refine lv_icmp_ge (tgt := 156) X.1 X.2.1 dec_55_149 rfl (fun h1 => ?_) (fun h1 => ?_)
  · rw [if_pos h1] at hv
    refine lv_iload_n X.1 X.2.1 dec_55_156 rfl hl ?_
    refine lv_bipush (v := nI 6) X.1 X.2.1 dec_55_157 (by decide) ?_
    refine lv_icmp_le (tgt := 167) X.1 X.2.1 dec_55_159 rfl (fun h2 => ?_) (fun h2 => ?_)
    · rw [if_pos h2] at hv
      subst hv
      exact lv_iload_n X.1 X.2.1 dec_55_167 rfl hl kk
    · rw [if_neg h2] at hv
      subst hv
      refine lv_bipush (v := nI 6) X.1 X.2.1 dec_55_162 (by decide) ?_
      exact lv_goto (tgt := 168) X.1 X.2.1 dec_55_164 rfl kk
  · rw [if_neg h1] at hv
    subst hv
    refine lv_iconst (v := nI 2) X.1 X.2.1 dec_55_152 (by decide) ?_
    exact lv_goto (tgt := 168) X.1 X.2.1 dec_55_153 rfl kk
theorem qn_W.all (hw : qn_W s B0 dC dI cs 155 h H locs) (hok : qm_okH h ∧ (∀ j, j < L → zI h 80 0 j = xs j) ∧ zI h 82 0 0 = nI L) : qm_Wd s B0 L xs dC dI cs h H locs := by
  obtain ⟨h1, h2, h3, -⟩ := hw
  rw [PW_all] at h1 h2
  exact ⟨h1, h2, h3, hok⟩
theorem qn_W.of (hw : qm_Wd s B0 L xs dC dI cs h H locs) : qn_W s B0 dC dI cs 155 h H locs := by
  refine ⟨?_, ?_, hw.2.2.1, fun q h1 h2 => absurd h2 (by omega)⟩
  · rw [PW_all]; exact hw.1
  · rw [PW_all]; exact hw.2.1
theorem m_tail (X : qn_X p s m args c 55 B0 sb sa sv L xs dC dI cs) (hw : qn_W s B0 dC dI cs 155 h H locs) (hok : qm_okH h ∧ (∀ j, j < L → zI h 80 0 j = xs j) ∧ zI h 82 0 0 = nI L) (hR : cells ≤ R.cells ∧ slots ≤ R.slots ∧ 5 ≤ R.frames ∧ 320 ≤ R.locals) {lv : List (Nat × Value)} (hl : lv_has als (qm_maxL 55) lv) (kk : ∀ H1 locs1, qn_W s B0 dC dI cs 155 (uC h 61 0 (420 * 0) 61 0 (420 * 1) 420) H1 locs1 → W p l e R s m args below meth c H1 locs1 cells slots Q (F0 m (218 + 3) als [])) : W p l e R s m args below meth c H locs cells slots Q (F0 m 218 als [.int (nI 1), .int (nI 0), .ref (B0 + qm_ad 9 0)]) := by
  have Xq : qm_Cx p R s m args c cells slots (0 + 1) 55 B0 sb sa sv L xs dC dI cs := ⟨X.1, X.2.1, X.2.2.1, X.2.2.2.1, X.2.2.2.2.1, X.2.2.2.2.2.1, hR⟩
  have hlo : qm_Lo 55 B0 sb sa als [qU, qU, qU] := ⟨⟨hl.1, hl.2.1, fun q hq => by cases hq⟩, rfl, fun v hv => by
    rcases List.mem_cons.mp hv with rfl | hv
    · exact Or.inl rfl
    rcases List.mem_cons.mp hv with rfl | hv
    · exact Or.inl rfl
    rcases List.mem_cons.mp hv with rfl | hv
    · exact Or.inl rfl
    cases hv⟩
  have hrun := m_copy 0 h 0 1 (by decide) (by decide) (by decide)
  rw [e_M_copy] at hrun
  obtain ⟨n, hn⟩ := qm_ev_iff.mp hrun
  have ho : qm_So [qI (nI 1), qI (nI 0), qP 9 0] := qm_So.cons trivial (qm_So.cons trivial (qm_So.cons (show qm_okV (qP 9 0) from Or.inr (by decide)) (fun v hv => by cases hv)))
  have key := so_call (v := 0) (k := 9) (a := 3) (f := 56) (st := [qI (nI 1), qI (nI 0), qP 9 0]) (p := p) (l := l) (e := e) (R := R) (s := s) (m := m) (args := args) (below := below) (meth := meth) (c := c) (cells := cells) (slots := slots) (Q := Q) qk_ok hb0 qk_maxL (qm_sound qk_ok hb0 qk_maxL n) Xq (hw.all hok) hlo ho dec_55_218 (by decide +kernel) (by decide) (by decide) (Or.inr rfl) (by decide) hn (fun H1 locs1 hw1 => kk H1 locs1 (qn_W.of hw1))
  exact key.2
end QNT
