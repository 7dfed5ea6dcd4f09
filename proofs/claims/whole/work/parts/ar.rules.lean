/-! the reference reads a clause as the pile of deeds does -/
theorem tk_end {B : Nat → Nat} {L p : Nat} (hB : ∀ j, j < L → B j < 256) (hp : p ≤ L) : (tk0 B L p).2.2 ≤ L := by
  by_cases q : p < L
  · exact ((tk0_b hB).2.2 q).2
  · have e : tk0 B L p = (41, 0, p) := by unfold tk0; rw [if_pos (by omega)]
    rw [e]
    exact hp
theorem skp_le (B : Nat → Nat) {L p : Nat} (hp : p ≤ L) : skp B L p ≤ L := by
  have := (rwn_b B isS (L - p) p).2
  unfold skp
  omega
theorem stt_le {B : Nat → Nat} {L : Nat} (hB : ∀ j, j < L → B j < 256) : ∀ i, stt B L i ≤ L
  | 0 => skp_le B (Nat.zero_le _)
  | i + 1 => skp_le B (tk_end hB (stt_le hB i))
def XB (B : Nat → Nat) (L tx a : Nat) (x0 : qm_Hp) : Prop := BYM B L x0 ∧ zI x0 9 0 13 = nI (720 * tx) ∧ zI x0 9 0 21 = nI a ∧ tx < 4 ∧ a ≤ 5
def PS (x0 : qm_Hp) (B : Nat → Nat) (L tx w0 i : Nat) (wh : Bool) (pl : List Nat) (out : List (Nat × Nat)) (x : qm_Hp) : Prop := MF tx w0 x0 x ∧ RTK B L (stt B L i) x ∧ PO tx w0 x pl out ∧ zI x 9 0 20 = nI (eI wh)
theorem BYM_MF {tx w0 : Nat} {B : Nat → Nat} {L : Nat} {x x' : qm_Hp} (h : MF tx w0 x x') (g : BYM B L x) : BYM B L x' := ⟨(h.1 9 0 5 (by unfold MFp; omega)).trans g.1, g.2.1, fun j hj => ⟨(h.1 63 0 j (by unfold MFp; omega)).trans (g.2.2 j hj).1, (g.2.2 j hj).2⟩⟩
theorem MF_13 {tx w0 : Nat} {x x' : qm_Hp} (h : MF tx w0 x x') : zI x' 9 0 13 = zI x 9 0 13 ∧ zI x' 9 0 21 = zI x 9 0 21 := ⟨h.1 9 0 13 (by unfold MFp; omega), h.1 9 0 21 (by unfold MFp; omega)⟩
theorem PO_eq {tx w0 : Nat} {x x' : qm_Hp} {pl : List Nat} {out : List (Nat × Nat)} (e9 : ∀ j, j = 15 ∨ j = 18 ∨ j = 19 → zI x' 9 0 j = zI x 9 0 j) (e64 : ∀ j, zI x' 64 0 j = zI x 64 0 j) (e62 : ∀ j, zI x' 62 0 j = zI x 62 0 j) (h : PO tx w0 x pl out) : PO tx w0 x' pl out := ⟨(e9 15 (by omega)).trans h.1, (e9 18 (by omega)).trans h.2.1, PLs_eq (fun j _ => e64 j) h.2.2.1, (e9 19 (by omega)).trans h.2.2.2.1, cdM_eq e62 h.2.2.2.2⟩
theorem RTK_eq {B : Nat → Nat} {L p : Nat} {x x' : qm_Hp} (e : ∀ j, 8 ≤ j → j ≤ 11 → zI x' 9 0 j = zI x 9 0 j) (eL : zL x' 9 0 12 = zL x 9 0 12) (h : RTK B L p x) : RTK B L p x' := ⟨(e 9 (by decide) (by decide)).trans h.1, (e 8 (by decide) (by decide)).trans h.2.1, (e 10 (by decide) (by decide)).trans h.2.2.1, fun g => (e 11 (by decide) (by decide)).trans (h.2.2.2.1 g), fun g => eL.trans (h.2.2.2.2 g)⟩
theorem nx_PS (D : Nat) {x0 y : qm_Hp} {B : Nat → Nat} {L tx w0 a i : Nat} {wh : Bool} {pl : List Nat} {out : List (Nat × Nat)} (hX : XB B L tx a x0) (F : MF tx w0 x0 y) (h8 : zI y 9 0 8 = nI (tk0 B L (stt B L i)).2.2) (P : PO tx w0 y pl out) (h20 : zI y 9 0 20 = nI (eI wh)) : ∃ x', qm_evM (D + 2) jM_nextToken [qP 9 0] y = some (none, x') ∧ PS x0 B L tx w0 (i + 1) wh pl out x' := by
  have hB := hX.1
  have hb : ∀ j, j < L → B j < 256 := fun j hj => (hB.2.2 j hj).2
  obtain ⟨x', e, N, R⟩ := r_next D (BYM_MF F hB) (tk_end hb (stt_le hb i)) h8
  have k : ∀ k i j, k ≠ 9 ∨ 12 ≤ j → zI x' k i j = zI y k i j := fun k i j q => N.1 k i j (by unfold Sx; omega)
  exact ⟨x', e, MF_tr F (MF_NF N), R, PO_eq (fun j _ => k 9 0 j (by omega)) (fun j => k 64 0 j (by omega)) (fun j => k 62 0 j (by omega)) P, (k 9 0 20 (by omega)).trans h20⟩
theorem wh_PS (D : Nat) {x0 x : qm_Hp} {B : Nat → Nat} {L tx w0 a i : Nat} {wh : Bool} {pl : List Nat} {out : List (Nat × Nat)} (hX : XB B L tx a x0) (h : PS x0 B L tx w0 i wh pl out x) (h5 : ∀ c, c ∈ pl → c < 50) (hl : pl.length ≤ 160) (hw : w0 + out.length + pl.length ≤ 300) : ∃ x', qm_evM (D + 2) jM_whole [qP 9 0] x = some (none, x') ∧ PS x0 B L tx w0 i true (sett 7 pl out).1 (sett 7 pl out).2 x' := by
  obtain ⟨F, R, P, _⟩ := h
  obtain ⟨x', e, S, P'⟩ := r_whole D hX.2.2.2.1 P ((MF_13 F).1.trans hX.2.1) h5 hl hw
  have k : ∀ j, j ≠ 15 → j ≠ 18 → j ≠ 19 → zI x' 9 0 j = zI (uI x 9 0 20 (nI 1)) 9 0 j := fun j h1 h2 h3 => S.1 9 0 j (by unfold SFp; omega)
  refine ⟨x', e, MF_tr F (MF_tr (MF_u 9 0 20 _ (by unfold MFp; omega)) (SF_MF S)), RTK_eq (fun j h1 h2 => ?_) (S.2.1 9 0 12) R, P', ?_⟩
  · rw [k j (by omega) (by omega) (by omega), zI_uI, if_neg (by omega)]
  · rw [k 20 (by decide) (by decide) (by decide), zI_uI, if_pos ⟨rfl, rfl, rfl⟩]; rfl
def FIN (x0 : qm_Hp) (B : Nat → Nat) (L tx w0 : Nat) (R : PR) (x' : qm_Hp) : Prop := MF tx w0 x0 x' ∧ RTK B L (stt B L R.2.1) x' ∧ (R.1 = 0 → zI x' 9 0 15 = nI (w0 + R.2.2.length) ∧ zI x' 9 0 19 = nI 0 ∧ cdM (fun j => zI x' 62 0 (720 * tx + 110 + j)) w0 R.2.2)
def QH (d : Nat) (x0 : qm_Hp) (B : Nat → Nat) (L tx w0 : Nat) (e : Bool) (R : PR) : QQ := fun i wh pl out => ∀ x x3, PS x0 B L tx w0 i wh pl out x → ∃ x', qm_evB (d + 7) jM_parsed 1 [qP 9 0, qI (nI (eI e)), qI (nI 1), x3] [] x = some (some (qI (nI R.1)), x') ∧ FIN x0 B L tx w0 R x'
def FH (R : PR) : Nat → Nat → Prop := fun f j => R.1 = f ∧ R.2.1 = j
def ZH (R : PR) : Nat → List (Nat × Nat) → Prop := fun j out => R.1 = 0 ∧ R.2.1 = j ∧ R.2.2 = out
theorem fin_f {x0 x : qm_Hp} {B : Nat → Nat} {L tx w0 i f : Nat} {wh : Bool} {pl : List Nat} {out : List (Nat × Nat)} {R : PR} (h : PS x0 B L tx w0 i wh pl out x) (hF : FH R f i) (hf : f ≠ 0) : FIN x0 B L tx w0 R x := ⟨h.1, by rw [hF.2]; exact h.2.1, fun g => absurd (hF.1.symm.trans g) hf⟩
/-- a fault found by beginOne -/
theorem q_f {d : Nat} {x0 x x1 : qm_Hp} {B : Nat → Nat} {L tx w0 i j f : Nat} {e : Bool} {wh : Bool} {pl pl' : List Nat} {out out' : List (Nat × Nat)} {R : PR} {x3 : qm_AV} (h : PS x0 B L tx w0 i false pl out x) (h1 : PS x0 B L tx w0 j wh pl' out' x1) (hF : FH R f j) (hf : 1 ≤ f ∧ f ≤ 9) (bg : qm_evM (d + 6) jM_beginOne [qP 9 0, qI (nI (eI e))] x = some (some (qI (nI f)), x1)) : ∃ x', qm_evB (d + 7) jM_parsed 1 [qP 9 0, qI (nI (eI e)), qI (nI 1), x3] [] x = some (some (qI (nI R.1)), x') ∧ FIN x0 B L tx w0 R x' :=
  ⟨x1, by rw [hF.1]; exact pz_f (d + 6) hf h.2.2.2 bg, fin_f h1 hF (by omega)⟩
theorem q_g {d : Nat} {x0 x x1 : qm_Hp} {B : Nat → Nat} {L tx w0 i j : Nat} {e : Bool} {wh : Bool} {pl pl' : List Nat} {out out' : List (Nat × Nat)} {R : PR} {x3 : qm_AV} (h : PS x0 B L tx w0 i false pl out x) (h1 : PS x0 B L tx w0 j wh pl' out' x1) (hQ : QH d x0 B L tx w0 e R j wh pl' out') (bg : qm_evM (d + 6) jM_beginOne [qP 9 0, qI (nI (eI e))] x = some (some (qI (nI 0)), x1)) : ∃ x', qm_evB (d + 7) jM_parsed 1 [qP 9 0, qI (nI (eI e)), qI (nI 1), x3] [] x = some (some (qI (nI R.1)), x') ∧ FIN x0 B L tx w0 R x' := by
  obtain ⟨x', e', g⟩ := hQ x1 (qI (nI 0)) h1
  exact ⟨x', (pz_g (d + 6) h.2.2.2 bg).trans e', g⟩
theorem q_b {d : Nat} {x0 x x1 : qm_Hp} {B : Nat → Nat} {L tx w0 i j : Nat} {e : Bool} {wh : Bool} {pl pl' : List Nat} {out out' : List (Nat × Nat)} {R : PR} {x3 : qm_AV} (h : PS x0 B L tx w0 i true pl out x) (h1 : PS x0 B L tx w0 j wh pl' out' x1) (hQ : QH d x0 B L tx w0 e R j wh pl' out') (bh : qm_evM (d + 6) jM_behindOne [qP 9 0, qI (nI (eI e))] x = some (some (qI (nI 1)), x1)) : ∃ x', qm_evB (d + 7) jM_parsed 1 [qP 9 0, qI (nI (eI e)), qI (nI 1), x3] [] x = some (some (qI (nI R.1)), x') ∧ FIN x0 B L tx w0 R x' := by
  obtain ⟨x', e', g⟩ := hQ x1 x3 h1
  exact ⟨x', (pz_b (d + 6) h.2.2.2 bh).trans e', g⟩
theorem TT_40 {t : Nat} (h : TT 40 t) : t = 1 := by unfold TT at h; omega
theorem PS_RK {x0 x : qm_Hp} {B : Nat → Nat} {L tx w0 a i : Nat} {wh : Bool} {pl : List Nat} {out : List (Nat × Nat)} (hX : XB B L tx a x0) (h : PS x0 B L tx w0 i wh pl out x) : RK (TKr B L i) (VLr B L i) x := RTK_RK (fun j hj => (hX.1.2.2 j hj).2) h.2.1
/-- a number or a name: written, the next token, whole -/
theorem em_PS {d : Nat} {x0 x : qm_Hp} {B : Nat → Nat} {L tx w0 a i : Nat} {pl : List Nat} {out : List (Nat × Nat)} (hX : XB B L tx a x0) (h : PS x0 B L tx w0 i false pl out x) (h5 : ∀ c, c ∈ pl → c < 50) (hl : pl.length ≤ 60) (hw : w0 + out.length + pl.length < 300) (o v : Nat) : ∃ x1 x2 x3, qm_evM (d + 5) jM_emit [qP 9 0, qI (nI o), qI (nI v)] x = some (none, x1) ∧ qm_evM (d + 5) jM_nextToken [qP 9 0] x1 = some (none, x2) ∧ qm_evM (d + 5) jM_whole [qP 9 0] x2 = some (none, x3) ∧ PS x0 B L tx w0 (i + 1) true (sett 7 pl (out ++ [(o, v)])).1 (sett 7 pl (out ++ [(o, v)])).2 x3 := by
  obtain ⟨F, R, P, h20⟩ := id h
  have em1 := r_emit (d + 5) hX.2.2.2.1 (by omega) ((MF_13 F).1.trans hX.2.1) P.1 o v
  have z : ∀ j, j ≠ 15 → zI (hmm x tx (w0 + out.length) o v) 9 0 j = zI x 9 0 j := fun j hj => by rw [hmm_z, if_neg (by omega), if_neg (by omega), if_neg (by omega)]
  obtain ⟨x2, e2, P2⟩ := nx_PS (d + 3) (i := i) (wh := false) hX (MF_tr F (MF_em (u := w0 + out.length) ⟨by omega, by omega⟩ o v)) ((z 8 (by decide)).trans R.2.1) (PO_em P) ((z 20 (by decide)).trans h20)
  obtain ⟨x3, e3, P3⟩ := wh_PS (d + 3) hX P2 h5 (by omega) (by rw [List.length_append]; show w0 + (out.length + 1) + pl.length ≤ 300; omega)
  exact ⟨_, x2, x3, em1, e2, e3, P3⟩
theorem ru_1 {d : Nat} {x0 : qm_Hp} {B : Nat → Nat} {L tx w0 a E : Nat} {e : Bool} {R : PR} (hX : XB B L tx a x0) (hE : TKr B L E = 41) (hE3 : E ≤ 300) : RU1 (TKr B L) (VLr B L) a E w0 (QH d x0 B L tx w0 e R) (FH R) := by
  have lt : ∀ i, i ≤ E → TKr B L i ≠ 41 → i < E := fun i h1 h2 => by
    by_cases q : i = E
    · exact absurd (by rw [q]; exact hE) h2
    · omega
  refine ⟨fun i pl out hB hT hv hQ x x3 h => ?_, fun i pl out hB hT hv hF x x3 h => ?_, fun i pl out hB hT hn hQ x x3 h => ?_, fun i pl out hB hT hn hF x x3 h => ?_⟩
  · have hk := PS_RK hX h
    have nm := r_nameOf d hk
    rw [hT] at hk nm
    rw [if_neg (by decide)] at nm
    obtain ⟨t, h10, tt, hn, -⟩ := hk
    have t1 := TT_40 tt
    subst t1
    obtain ⟨n, h11, _, hn⟩ := hn rfl
    have en : n = VLr B L i := by omega
    subst en
    have hi := lt i hB.2.2.2.1 (by omega)
    obtain ⟨x1, x2, x3', e1, e2, e3, P⟩ := em_PS (d := d) hX h hB.2.2.2.2 hB.1 (by have := hB.2.2.1; omega) 0 (VLr B L i)
    exact q_g h P hQ (bg_num (d + 5) h10 h11 hv nm e1 e2 e3)
  · have hk := PS_RK hX h
    rw [hT] at hk
    obtain ⟨t, h10, tt, hn, -⟩ := hk
    have t1 := TT_40 tt
    subst t1
    obtain ⟨n, h11, n2, hn⟩ := hn rfl
    exact q_f h h hF (by decide) (bg_2 (d + 6) h10 h11 ⟨by omega, n2⟩)
  · have hk := PS_RK hX h
    have nm := r_nameOf d hk
    rw [if_pos hT] at nm
    obtain ⟨t, h10, tt, -, -⟩ := hk
    have tb := TT_b tt
    have ar := TT_ar tt
    have io := r_isOf (d + 5) (x := x) (a := a) (v := TKr B L i) hX.2.2.2.2 hT ((MF_13 h.1).2.trans hX.2.2.1)
    rw [if_pos hn] at io
    have hi := lt i hB.2.2.2.1 (by omega)
    obtain ⟨x1, x2, x3', e1, e2, e3, P⟩ := em_PS (d := d) hX h hB.2.2.2.2 hB.1 (by have := hB.2.2.1; omega) 1 (TKr B L i)
    exact q_g h P hQ (bg_nm (d + 5) h10 ⟨tb.1, fun g => by have := ar.2.2.2.2.2.2.2.2.1 g; omega⟩ hT nm io e1 e2 e3)
  · have hk := PS_RK hX h
    have nm := r_nameOf d hk
    rw [if_pos hT] at nm
    obtain ⟨t, h10, tt, -, -⟩ := hk
    have tb := TT_b tt
    have ar := TT_ar tt
    have io := r_isOf (d + 5) (x := x) (a := a) (v := TKr B L i) hX.2.2.2.2 hT ((MF_13 h.1).2.trans hX.2.2.1)
    rw [if_neg hn] at io
    exact q_f h h hF (by decide) (bg_5 (d + 5) h10 ⟨tb.1, fun g => by have := ar.2.2.2.2.2.2.2.2.1 g; omega⟩ hT nm io)
/-- an opening pushed -/
theorem psh_PO {tx w0 m : Nat} {x : qm_Hp} {pl : List Nat} {out : List (Nat × Nat)} (h : PO tx w0 x pl out) (hm : m = 2 ∨ m = 20 ∨ 40 ≤ m) : PO tx w0 (uI (uI (uI x 9 0 19 (nI (oc pl + 1))) 64 0 pl.length (nI m)) 9 0 18 (nI (pl.length + 1))) (m :: pl) out := by
  refine ⟨?_, ?_, ⟨?_, PLs_eq (fun j hj => ?_) h.2.2.1⟩, ?_, cdM_eq (fun j => ?_) h.2.2.2.2⟩
  · rw [zI_uI, if_neg (by omega), zI_uI, if_neg (by omega), zI_uI, if_neg (by omega)]; exact h.1
  · rw [zI_uI, if_pos ⟨rfl, rfl, rfl⟩]; rfl
  · rw [zI_uI, if_neg (by omega), zI_uI, if_pos ⟨rfl, rfl, rfl⟩]
  · rw [zI_uI, if_neg (by omega), zI_uI, if_neg (by omega), zI_uI, if_neg (by omega)]
  · rw [zI_uI, if_neg (by omega), zI_uI, if_neg (by omega), zI_uI, if_pos ⟨rfl, rfl, rfl⟩, oc_o hm]
  · rw [zI_uI, if_neg (by omega), zI_uI, if_neg (by omega), zI_uI, if_neg (by omega)]
theorem psh_PS {d : Nat} {x0 x : qm_Hp} {B : Nat → Nat} {L tx w0 a i m : Nat} {pl : List Nat} {out : List (Nat × Nat)} (hX : XB B L tx a x0) (h : PS x0 B L tx w0 i false pl out x) (hm : m = 2 ∨ m = 20 ∨ 40 ≤ m) : ∃ x', qm_evM (d + 2) jM_nextToken [qP 9 0] (uI (uI (uI x 9 0 19 (nI (oc pl + 1))) 64 0 pl.length (nI m)) 9 0 18 (nI (pl.length + 1))) = some (none, x') ∧ PS x0 B L tx w0 (i + 1) false (m :: pl) out x' := by
  obtain ⟨F, R, P, h20⟩ := h
  have z : ∀ j, j ≠ 18 → j ≠ 19 → zI (uI (uI (uI x 9 0 19 (nI (oc pl + 1))) 64 0 pl.length (nI m)) 9 0 18 (nI (pl.length + 1))) 9 0 j = zI x 9 0 j := fun j h1 h2 => by rw [zI_uI, if_neg (by omega), zI_uI, if_neg (by omega), zI_uI, if_neg (by omega)]
  exact nx_PS d (i := i) (wh := false) hX (MF_tr F (MF_tr (MF_tr (MF_u 9 0 19 _ (by unfold MFp; omega)) (MF_u 64 0 _ _ (by unfold MFp; omega))) (MF_u 9 0 18 _ (by unfold MFp; omega)))) ((z 8 (by decide) (by decide)).trans R.2.1) (psh_PO P hm) ((z 20 (by decide) (by decide)).trans h20)
