/-! constructors: fields and rows of a world in the making -/
theorem qm_il4 (k : Nat) : qm_ilen qm_z k ≤ 4000 := by
  unfold qm_ilen
  split <;> first | decide | omega
section QN2
variable {p : Program} {l : Launch} {e : Env} {R : Room} {s : State} {m : MethodId} {args : Array Value} {below : List Frame} {meth : Method} {c : Code} {cells slots : Nat} {Q : State → Prop} {H : Heap} {locs : List Loc}
variable {B0 sb sa sv L mi N : Nat} {xs : Nat → Int32} {dC : Nat → ClassId} {dI : Nat → Nat → Nat} {cs : Nat × Nat × Nat × Nat × Nat} {pc : Nat} {als : Array Slot} {h h' : qm_Hp} {rest : List Value} {g : JFrame}
/-- a field set, final or not -/
theorem n_put (X : qn_X p s m args c mi B0 sb sa sv L xs dC dI cs) (hw : qn_W s B0 dC dI cs N h H locs) {k i f idx : Nat} (hm : qn_FL mi idx k f) (hi : i < qm_cnt k) (hN : qm_ad k i < N) {v : Value} (hfin : (qm_T k f).2.2.2 = false ∨ (meth.name = "<init>" ∧ qm_R k = qm_cls (mN mi))) (hn : narrow (qm_Ty k f) v = v) (hfit : fits (qm_Ty k f) v = true) (hv : qm_fv B0 h' k i f = v) (ho : ∀ g, g ≠ f → qm_fv B0 h' k i g = qm_fv B0 h k i g) (hc : ∀ a b, ¬ (a = k ∧ b = i) → qm_cell B0 cs h' a b = qm_cell B0 cs h a b) (hZ : qn_Z N h') (hd : decode (mC mi) pc = .ok (.putfield idx, 3))
    (kk : ∀ H1 locs1, qn_W s B0 dC dI cs N h' H1 locs1 → W p l e R s m args below meth c H1 locs1 cells slots Q (F0 m (pc + 3) als rest)) : W p l e R s m args below meth c H locs cells slots Q (F0 m pc als (v :: .ref (B0 + qm_ad k i) :: rest)) := by
  obtain ⟨hb, h19, hf, hT⟩ := hm
  have h80 : k ≠ 80 := by omega
  have h81 : k ≠ 81 := by omega
  have he := PW_at (B0 := B0) (cs := cs) (h := h) hi h80 h81 hN
  rw [qm_cell_o h19] at he
  have hts := X.2.2.2.2.1
  have hsame : ∀ x, s.fieldFound? (qm_T k f).1 (qm_T k f).2.1 (qm_T k f).2.2.1 = some x → s.fieldFound? (qm_R k) (qm_T k f).2.1 (qm_T k f).2.2.1 = some x := fun x hx => by rw [hT] at hx; exact hx
  have fin : ∀ (H1 : Heap) (locs1 : List Loc), va_P (dC, dI) qm_clss ((PW B0 cs N h).set (qm_ad k i) (B0 + qm_ad k i, .inr (qm_ci k, ((List.range (qm_nf k)).map (qm_fv B0 h k i)).set f v))) H1 → va_D (fun q => B0 ≤ q) ((PW B0 cs N h).set (qm_ad k i) (B0 + qm_ad k i, .inr (qm_ci k, ((List.range (qm_nf k)).map (qm_fv B0 h k i)).set f v))) → va_S (fun q => B0 ≤ q) s.heap H1 locs1 → W p l e R s m args below meth c H1 locs1 cells slots Q (F0 m (pc + 3) als rest) := fun H1 locs1 p1 p2 p3 => by
    refine kk H1 locs1 (hw.set hi h80 h81 ?_ hc hZ p1 p2 p3)
    rw [qm_cell_o h19]
    exact congrArg (fun z => Sum.inr (qm_ci k, z)) (qm_fields_set hf hv ho).symm
  by_cases q : (qm_T k f).2.2.2 = false
  · exact va_put X.1 X.2.1 hts (qm_lay_in h19) (qm_Ty k) (qm_Ty_ok h19) (qm_nm_ok h19) X.2.2.2.1 X.2.2.2.2.2.1.1 hw.1 hw.2.1 hw.2.2.1 (qm_ad k i) he (qm_clss_at h19) f hf (hts _ hb.tb) hsame q (ty := qm_Ty k f) (v := v) (qm_Ty_ok h19 f hf) hn hfit (by simpa using hf) hd fin
  · obtain ⟨hin, hR⟩ := hfin.resolve_left q
    exact va_putF X.1 X.2.1 hts (qm_lay_in h19) (qm_Ty k) (qm_Ty_ok h19) (qm_nm_ok h19) X.2.2.2.1 X.2.2.2.2.2.1.1 hw.1 hw.2.1 hw.2.2.1 (qm_ad k i) he (qm_clss_at h19) f hf (hts _ hb.tb) hsame (by simpa using q) hin (hT.trans hR) (ty := qm_Ty k f) (v := v) (qm_Ty_ok h19 f hf) hn hfit (by simpa using hf) hd fin
theorem fv_ne {k i f g : Nat} {v : Int32} (hg : g ≠ f) : qm_fv B0 (uI h k i f v) k i g = qm_fv B0 h k i g := by
  have e9 : zI (uI h k i f v) k i g = zI h k i g := by rw [zI_uI, if_neg (fun z => hg z.2.2)]
  unfold qm_fv
  rw [e9]
  rfl
/-- an int, or a boolean -/
theorem n_putI (X : qn_X p s m args c mi B0 sb sa sv L xs dC dI cs) (hw : qn_W s B0 dC dI cs N h H locs) {k i f idx : Nat} (hm : qn_FL mi idx k f) (hi : i < qm_cnt k) (hN : qm_ad k i < N) {v : Int32} (hk : qm_fk k f = 0 ∨ (qm_fk k f = 1 ∧ v = 0)) (hfin : (qm_T k f).2.2.2 = false ∨ (meth.name = "<init>" ∧ qm_R k = qm_cls (mN mi))) (hd : decode (mC mi) pc = .ok (.putfield idx, 3))
    (kk : ∀ H1 locs1, qn_W s B0 dC dI cs N (uI h k i f v) H1 locs1 → W p l e R s m args below meth c H1 locs1 cells slots Q (F0 m (pc + 3) als rest)) : W p l e R s m args below meth c H locs cells slots Q (F0 m pc als (.int v :: .ref (B0 + qm_ad k i) :: rest)) := by
  have hm' := hm
  obtain ⟨hb, h19, hf, hT⟩ := hm'
  have hty := qm_fk_ty k (by omega) f (Nat.lt_of_lt_of_le hf qm_nf_le)
  refine n_put X hw hm hi hN hfin ?_ ?_ ?_ (fun g hg => fv_ne hg) (fun a b hn => qm_cell_uI hn) (hw.2.2.2.uI hN f v) hd kk
  · rcases hk with q | ⟨q, rfl⟩
    · rw [hty.1 q]; rfl
    · rw [hty.2.1 q]; rfl
  · rcases hk with q | ⟨q, rfl⟩
    · rw [hty.1 q]; rfl
    · rw [hty.2.1 q]; rfl
  · have e9 : zI (uI h k i f v) k i f = v := by rw [zI_uI, if_pos ⟨rfl, rfl, rfl⟩]
    rcases hk with q | ⟨q, _⟩ <;> simp only [qm_fv, q, e9]
/-- a final reference -/
theorem n_putR (X : qn_X p s m args c mi B0 sb sa sv L xs dC dI cs) (hw : qn_W s B0 dC dI cs N h H locs) {k i f idx a : Nat} (hm : qn_FL mi idx k f) (hi : i < qm_cnt k) (hN : qm_ad k i < N) (hk : qm_fk k f = 3) (ha : qm_ad (qm_ft k f).1 ((qm_ft k f).2.1 * i + (qm_ft k f).2.2) = a) (hn : narrow (qm_Ty k f) (.ref (B0 + a)) = .ref (B0 + a)) (hfit : fits (qm_Ty k f) (.ref (B0 + a)) = true) (hfin : meth.name = "<init>" ∧ qm_R k = qm_cls (mN mi)) (hd : decode (mC mi) pc = .ok (.putfield idx, 3))
    (kk : ∀ H1 locs1, qn_W s B0 dC dI cs N (uI h k i f 1) H1 locs1 → W p l e R s m args below meth c H1 locs1 cells slots Q (F0 m (pc + 3) als rest)) : W p l e R s m args below meth c H locs cells slots Q (F0 m pc als (.ref (B0 + a) :: .ref (B0 + qm_ad k i) :: rest)) := by
  refine n_put X hw hm hi hN (Or.inr hfin) hn hfit ?_ (fun g hg => fv_ne hg) (fun a b hn => qm_cell_uI hn) (hw.2.2.2.uI hN f 1) hd kk
  have e9 : zI (uI h k i f 1) k i f = 1 := by rw [zI_uI, if_pos ⟨rfl, rfl, rfl⟩]
  unfold qm_fv
  rw [hk, e9, ha]
  exact if_neg (by decide)
/-- a reference that changes -/
theorem n_putM (X : qn_X p s m args c mi B0 sb sa sv L xs dC dI cs) (hw : qn_W s B0 dC dI cs N h H locs) {k i f idx : Nat} {q : Nat × Nat} {v : Value} (hm : qn_FL mi idx k f) (hi : i < qm_cnt k) (hN : qm_ad k i < N) (hk : qm_fk k f = 4) (hv : qm_cv B0 0 0 (qP q.1 q.2) = v) (hn : narrow (qm_Ty k f) v = v) (hfit : fits (qm_Ty k f) v = true) (hfin : (qm_T k f).2.2.2 = false) (hd : decode (mC mi) pc = .ok (.putfield idx, 3))
    (kk : ∀ H1 locs1, qn_W s B0 dC dI cs N (uP h k i f q) H1 locs1 → W p l e R s m args below meth c H1 locs1 cells slots Q (F0 m (pc + 3) als rest)) : W p l e R s m args below meth c H locs cells slots Q (F0 m pc als (v :: .ref (B0 + qm_ad k i) :: rest)) := by
  refine n_put X hw hm hi hN (Or.inl hfin) hn hfit ?_ (fun g hg => ?_) (fun a b hn => qm_cell_uP hn) (hw.2.2.2.uP hN f q) hd kk
  · have e9 : zP (uP h k i f q) k i f = q := by rw [zP_uP, if_pos ⟨rfl, rfl, rfl⟩]
    unfold qm_fv
    rw [hk, e9]
    exact hv
  · have e9 : zP (uP h k i f q) k i g = zP h k i g := by rw [zP_uP, if_neg (fun z => hg z.2.2)]
    unfold qm_fv
    rw [e9]
    rfl
theorem n_iast (X : qn_X p s m args c mi B0 sb sa sv L xs dC dI cs) (hw : qn_W s B0 dC dI cs N h H locs) {k i j : Nat} {x : Int32} (hk : j < qm_ilen qm_z k) (hj : j < 4000) (hi : i < qm_cnt k) (h80 : k ≠ 80) (h81 : k ≠ 81) (hN : qm_ad k i < N) (hd : decode (mC mi) pc = .ok (.iastore, 1))
    (kk : ∀ H1 locs1, qn_W s B0 dC dI cs N (uI h k i j x) H1 locs1 → W p l e R s m args below meth c H1 locs1 cells slots Q (F0 m (pc + 1) als rest)) : W p l e R s m args below meth c H locs cells slots Q (F0 m pc als (.int x :: .int (nI j) :: .ref (B0 + qm_ad k i) :: rest)) := by
  have hp : 0 < qm_ilen qm_z k := by omega
  have he := PW_at (B0 := B0) (cs := cs) (h := h) hi h80 h81 hN
  rw [qm_cell_i hp] at he
  have hl : qm_ilen qm_z k ≤ 4000 := qm_il4 k
  refine va_iast X.1 X.2.1 X.2.2.2.2.2.1.1 hw.1 hw.2.1 hw.2.2.1 (qm_ad k i) 0 he rfl (vp_in_nI hk (by omega)) hd (fun H1 locs1 p1 p2 p3 => ?_)
  refine kk H1 locs1 (hw.set hi h80 h81 ?_ (fun a b hn => qm_cell_uI hn) (hw.2.2.2.uI hN j x) p1 p2 p3)
  rw [qm_cell_i hp, nI_clamp (by omega)]
  congr 4
  funext a
  rw [zI_uI]
  simp [upd]
end QN2
