/-! the reference reads a clause as the pile of deeds does: behind a part; parsed -/
theorem psh2_PO {tx w0 m : Nat} {x : qm_Hp} {pl : List Nat} {out : List (Nat × Nat)} (h : PO tx w0 x pl out) (hm : ¬ (m = 2 ∨ m = 20 ∨ 40 ≤ m)) : PO tx w0 (uI (uI (uI x 64 0 pl.length (nI m)) 9 0 18 (nI (pl.length + 1))) 9 0 20 (nI 0)) (m :: pl) out := by
  refine ⟨?_, ?_, ⟨?_, PLs_eq (fun j hj => ?_) h.2.2.1⟩, ?_, cdM_eq (fun j => ?_) h.2.2.2.2⟩
  · rw [zI_uI, if_neg (by omega), zI_uI, if_neg (by omega), zI_uI, if_neg (by omega)]; exact h.1
  · rw [zI_uI, if_neg (by omega), zI_uI, if_pos ⟨rfl, rfl, rfl⟩]; rfl
  · rw [zI_uI, if_neg (by omega), zI_uI, if_neg (by omega), zI_uI, if_pos ⟨rfl, rfl, rfl⟩]
  · rw [zI_uI, if_neg (by omega), zI_uI, if_neg (by omega), zI_uI, if_neg (by omega)]
  · rw [zI_uI, if_neg (by omega), zI_uI, if_neg (by omega), zI_uI, if_neg (by omega), oc_n hm]; exact h.2.2.2.1
  · rw [zI_uI, if_neg (by omega), zI_uI, if_neg (by omega), zI_uI, if_neg (by omega)]
theorem cm_PO {tx w0 m : Nat} {x : qm_Hp} {rest : List Nat} {out : List (Nat × Nat)} (h : PO tx w0 x (m :: rest) out) (hm : 40 ≤ m) : PO tx w0 (uI (uI x 64 0 rest.length (nI (m + 2))) 9 0 20 (nI 0)) ((m + 2) :: rest) out := by
  refine ⟨?_, ?_, ⟨?_, PLs_eq (fun j hj => ?_) h.2.2.1.2⟩, ?_, cdM_eq (fun j => ?_) h.2.2.2.2⟩
  · rw [zI_uI, if_neg (by omega), zI_uI, if_neg (by omega)]; exact h.1
  · rw [zI_uI, if_neg (by omega), zI_uI, if_neg (by omega)]; exact h.2.1
  · rw [zI_uI, if_neg (by omega), zI_uI, if_pos ⟨rfl, rfl, rfl⟩]
  · rw [zI_uI, if_neg (by omega), zI_uI, if_neg (by omega)]
  · rw [zI_uI, if_neg (by omega), zI_uI, if_neg (by omega), h.2.2.2.1, oc_o (Or.inr (Or.inr hm)), oc_o (Or.inr (Or.inr (by omega)))]
  · rw [zI_uI, if_neg (by omega), zI_uI, if_neg (by omega)]
theorem ru_31 {d : Nat} {x0 x : qm_Hp} {B : Nat → Nat} {L tx w0 a E i : Nat} {e : Bool} {R : PR} {pl : List Nat} {out : List (Nat × Nat)} {x3 : qm_AV} (hX : XB B L tx a x0) (hE3 : E ≤ 300) (hB : BD w0 E i pl out) (hb : BT (TKr B L) e i pl) (hQ : QH d x0 B L tx w0 e R (i + 1) false (opt (TKr B L i) :: (sett (rk (opt (TKr B L i))) pl out).1) (sett (rk (opt (TKr B L i))) pl out).2) (h : PS x0 B L tx w0 i true pl out x) : ∃ x', qm_evB (d + 7) jM_parsed 1 [qP 9 0, qI (nI (eI e)), qI (nI 1), x3] [] x = some (some (qI (nI R.1)), x') ∧ FIN x0 B L tx w0 R x' := by
  obtain ⟨b1, b2, b3, b4, b5⟩ := id hB
  have hk := PS_RK hX h
  have bt := r_btwY (d + 3) (Tk := TKr B L) hk h.2.2.1.2.1 h.2.2.1.2.2.1 b5 (by omega) hb
  have mkB := bh_mk (D := d + 5) h.2.2.1.2.1 h.2.2.1.2.2.1 b5 b1 bt
  obtain ⟨o1, o2, o3, o4⟩ := BT_opt hb
  generalize opt (TKr B L i) = o at *
  have ra := r_rank (d + 5) x (show o < 50 by omega)
  obtain ⟨x1, e1, S1, P1⟩ := r_settle (d + 4) (r := rk o) hX.2.2.2.1 ⟨o4, rk_7 o⟩ h.2.2.1 ((MF_13 h.1).1.trans hX.2.1) b5 (by omega) (by omega)
  have sl := sett_l (rk o) pl out
  have pu := r_push (d + 5) (x := x1) (by omega : (sett (rk o) pl out).1.length < 160) P1.2.1 o
  have PS1 := PS_SF h S1 P1
  have z : ∀ j, j ≠ 18 → j ≠ 20 → zI (uI (uI (uI x1 64 0 (sett (rk o) pl out).1.length (nI o)) 9 0 18 (nI ((sett (rk o) pl out).1.length + 1))) 9 0 20 (nI 0)) 9 0 j = zI x1 9 0 j := fun j h1 h2 => by rw [zI_uI, if_neg (by omega), zI_uI, if_neg (by omega), zI_uI, if_neg (by omega)]
  obtain ⟨x4, nx, P4⟩ := nx_PS (d + 3) (i := i) (wh := false) hX (MF_tr PS1.1 (MF_tr (MF_tr (MF_u 64 0 _ _ (by unfold MFp; omega)) (MF_u 9 0 18 _ (by unfold MFp; omega))) (MF_u 9 0 20 _ (by unfold MFp; omega)))) ((z 8 (by decide) (by decide)).trans PS1.2.1.2.1) (psh2_PO P1 o3) (by rw [zI_uI, if_pos ⟨rfl, rfl, rfl⟩]; rfl)
  by_cases m0 : mkd pl = 0
  · exact q_b h P4 hQ ((mkB.1 m0).trans (bh_o (d + 5) (by omega) ra e1 pu nx))
  · exact q_b h P4 hQ ((mkB.2 m0).trans (bh_o (d + 5) (by omega) ra e1 pu nx))
theorem ru_32 {d : Nat} {x0 x : qm_Hp} {B : Nat → Nat} {L tx w0 a E i m : Nat} {e : Bool} {R : PR} {pd rest : List Nat} {out : List (Nat × Nat)} {x3 : qm_AV} (hX : XB B L tx a x0) (hE3 : E ≤ 300) (hB : BD w0 E i (pd ++ m :: rest) out) (hT : TKr B L i = 54) (hp : ∀ c, c ∈ pd → c < 40) (hm : m = 40 ∨ m = 43 ∨ m = 44) (hQ : QH d x0 B L tx w0 e R (i + 1) true (sett 7 rest (out ++ em pd ++ xt m)).1 (sett 7 rest (out ++ em pd ++ xt m)).2) (h : PS x0 B L tx w0 i true (pd ++ m :: rest) out x) : ∃ x', qm_evB (d + 7) jM_parsed 1 [qP 9 0, qI (nI (eI e)), qI (nI 1), x3] [] x = some (some (qI (nI R.1)), x') ∧ FIN x0 B L tx w0 R x' := by
  obtain ⟨b1, b2, b3, b4, b5⟩ := id hB
  have hm40 : 40 ≤ m := by omega
  have hk := PS_RK hX h
  have s5 := sc_54 (Or.inl hT)
  have bt := r_btwN (d + 3) (Tk := TKr B L) (e := e) hk h.2.2.1.2.1 h.2.2.1.2.2.1 b5 (by omega) s5.1 (fun _ _ _ => s5.2.1) (fun _ _ _ => s5.2.2)
  have mkB := (bh_mk (D := d + 5) h.2.2.1.2.1 h.2.2.1.2.2.1 b5 b1 bt).2 (by rw [mkd_app hm40 rest pd hp]; omega)
  rw [mkd_app hm40 rest pd hp, mki_app hm40 rest pd hp] at mkB
  obtain ⟨t, h10, tt, -, -⟩ := hk
  rw [hT] at tt
  have t1 : t = 41 := TT_s tt (by decide)
  subst t1
  obtain ⟨x1, e1, S1, P1⟩ := se_mk (d := d) hX h hB hE3 hm40 hp
  obtain ⟨⟨g18, g19⟩, P2, S2⟩ := PO_pop P1 hm40
  have PS2 := PS_SF (PS_SF h S1 P1) S2 P2
  have el : (pd ++ m :: rest).length = pd.length + (rest.length + 1) := by rw [List.length_append, List.length_cons]
  have eo : (out ++ em pd).length = out.length + pd.length := by rw [List.length_append, em_len]
  have r5 : ∀ c, c ∈ rest → c < 50 := fun c hc => b5 c (List.mem_append_right _ (List.mem_cons_of_mem _ hc))
  have ee : ∀ o v, qm_evM (d + 5) jM_emit [qP 9 0, qI (nI o), qI (nI v)] (uI (uI x1 9 0 18 (nI rest.length)) 9 0 19 (nI (oc rest))) = some (none, hmm (uI (uI x1 9 0 18 (nI rest.length)) 9 0 19 (nI (oc rest))) tx (w0 + (out ++ em pd).length) o v) := fun o v => r_emit (d + 5) hX.2.2.2.1 (by omega) ((MF_13 PS2.1).1.trans hX.2.1) P2.1 o v
  have pe : ∀ o v, PS x0 B L tx w0 i true rest (out ++ em pd ++ [(o, v)]) (hmm (uI (uI x1 9 0 18 (nI rest.length)) 9 0 19 (nI (oc rest))) tx (w0 + (out ++ em pd).length) o v) := fun o v => PS_SF PS2 (SF_em (u := w0 + (out ++ em pd).length) ⟨by omega, by omega⟩ o v) (PO_em P2)
  have hl1 : ∀ o v, (out ++ em pd ++ [((o, v) : Nat × Nat)]).length = out.length + pd.length + 1 := fun o v => by rw [List.length_append, eo]; rfl
  rcases hm with g | g | g <;> subst g
  · rw [show xt 40 = [] from rfl, List.append_nil] at hQ
    obtain ⟨x5, x6, w, nx, P6⟩ := wn_PS (d := d) hX PS2 r5 (by omega) (by omega)
    exact q_b h P6 hQ (mkB.trans (bh_c0 (d + 5) h10 e1 g18 g19 w nx))
  · rw [show xt 43 = [(7, 0)] from rfl] at hQ
    obtain ⟨x5, x6, w, nx, P6⟩ := wn_PS (d := d) hX (pe 7 0) r5 (by omega) (by rw [hl1]; omega)
    exact q_b h P6 hQ (mkB.trans (bh_c3 (d + 5) h10 e1 g18 g19 (ee 7 0) w nx))
  · rw [show xt 44 = [(8, 0)] from rfl] at hQ
    obtain ⟨x5, x6, w, nx, P6⟩ := wn_PS (d := d) hX (pe 8 0) r5 (by omega) (by rw [hl1]; omega)
    exact q_b h P6 hQ (mkB.trans (bh_c4 (d + 5) h10 e1 g18 g19 (ee 8 0) w nx))
theorem ru_33 {d : Nat} {x0 x : qm_Hp} {B : Nat → Nat} {L tx w0 a E i m : Nat} {e : Bool} {R : PR} {pd rest : List Nat} {out : List (Nat × Nat)} {x3 : qm_AV} (hX : XB B L tx a x0) (hE3 : E ≤ 300) (hB : BD w0 E i (pd ++ m :: rest) out) (hT : TKr B L i = 55) (hp : ∀ c, c ∈ pd → c < 40) (hm : m = 41 ∨ m = 42) (hQ : QH d x0 B L tx w0 e R (i + 1) false ((m + 2) :: rest) (out ++ em pd)) (h : PS x0 B L tx w0 i true (pd ++ m :: rest) out x) : ∃ x', qm_evB (d + 7) jM_parsed 1 [qP 9 0, qI (nI (eI e)), qI (nI 1), x3] [] x = some (some (qI (nI R.1)), x') ∧ FIN x0 B L tx w0 R x' := by
  obtain ⟨b1, b2, b3, b4, b5⟩ := id hB
  have hm40 : 40 ≤ m := by omega
  have hk := PS_RK hX h
  have s5 := sc_54 (Or.inr hT)
  have bt := r_btwN (d + 3) (Tk := TKr B L) (e := e) hk h.2.2.1.2.1 h.2.2.1.2.2.1 b5 (by omega) s5.1 (fun _ _ _ => s5.2.1) (fun _ _ _ => s5.2.2)
  have mkB := (bh_mk (D := d + 5) h.2.2.1.2.1 h.2.2.1.2.2.1 b5 b1 bt).2 (by rw [mkd_app hm40 rest pd hp]; omega)
  rw [mkd_app hm40 rest pd hp, mki_app hm40 rest pd hp] at mkB
  obtain ⟨t, h10, tt, -, -⟩ := hk
  rw [hT] at tt
  have t1 : t = 44 := TT_s tt (by decide)
  subst t1
  obtain ⟨x1, e1, S1, P1⟩ := se_mk (d := d) hX h hB hE3 hm40 hp
  have PS1 := PS_SF h S1 P1
  have el : (pd ++ m :: rest).length = pd.length + (rest.length + 1) := by rw [List.length_append, List.length_cons]
  have z : ∀ j, j ≠ 20 → zI (uI (uI x1 64 0 rest.length (nI (m + 2))) 9 0 20 (nI 0)) 9 0 j = zI x1 9 0 j := fun j h1 => by rw [zI_uI, if_neg (by omega), zI_uI, if_neg (by omega)]
  obtain ⟨x4, nx, P4⟩ := nx_PS (d + 3) (i := i) (wh := false) hX (MF_tr PS1.1 (MF_tr (MF_u 64 0 _ _ (by unfold MFp; omega)) (MF_u 9 0 20 _ (by unfold MFp; omega)))) ((z 8 (by decide)).trans PS1.2.1.2.1) (cm_PO P1 hm40) (by rw [zI_uI, if_pos ⟨rfl, rfl, rfl⟩]; rfl)
  exact q_b h P4 hQ (mkB.trans (bh_m (d + 5) (by omega) hm h10 e1 nx))
/-- behind a part nothing goes on -/
theorem bh_st {d : Nat} {x0 x : qm_Hp} {B : Nat → Nat} {L tx w0 a E i : Nat} {e : Bool} {pl : List Nat} {out : List (Nat × Nat)} (hX : XB B L tx a x0) (hB : BD w0 E i pl out) (hs : SC (TKr B L) e i pl) (h : PS x0 B L tx w0 i true pl out x) : qm_evM (d + 6) jM_behindOne [qP 9 0, qI (nI (eI e))] x = some (some (qI (nI 0)), x) := by
  obtain ⟨b1, b2, b3, b4, b5⟩ := id hB
  obtain ⟨s1, s2, s3, s4, s5⟩ := hs
  have hk := PS_RK hX h
  have bt := r_btwN (d + 3) (Tk := TKr B L) (e := e) hk h.2.2.1.2.1 h.2.2.1.2.2.1 b5 (by omega) s1 s2 s3
  have mkB := bh_mk (D := d + 5) h.2.2.1.2.1 h.2.2.1.2.2.1 b5 b1 bt
  obtain ⟨t, h10, tt, -, -⟩ := hk
  have tb := TT_b tt
  have ar := TT_ar tt
  by_cases m0 : mkd pl = 0
  · exact (mkB.1 m0).trans (bh_nN (d + 6) h10 tb.1)
  · have hm := PLs_mk h.2.2.1.2.2.1 m0
    exact (mkB.2 m0).trans (bh_nk (d + 6) h10 tb.1 (b5 _ hm.2.2) (fun g => s4 (ar.2.2.2.2.2.1 g)) (fun g => s5 (ar.2.2.2.2.2.2.1 g)))
theorem ru_3 {d : Nat} {x0 : qm_Hp} {B : Nat → Nat} {L tx w0 a E : Nat} {e : Bool} {R : PR} (hX : XB B L tx a x0) (hE3 : E ≤ 300) : RU3 (TKr B L) E w0 e (QH d x0 B L tx w0 e R) (FH R) (ZH R) := by
  refine ⟨fun i pl out hB hb hQ x x3 h => ru_31 hX hE3 hB hb hQ h, fun i pd m rest out hB hT hp hm hQ x x3 h => ru_32 hX hE3 hB hT hp hm hQ h, fun i pd m rest out hB hT hp hm hQ x x3 h => ru_33 hX hE3 hB hT hp hm hQ h, fun i pl out hB hs hc hF x x3 h => ?_, fun i pl out hB hs m0 hc hZ x x3 h => ?_⟩
  · have ps := pz_s (d + 6) (x3 := x3) h.2.2.2 (bh_st (d := d) hX hB hs h)
    obtain ⟨b1, b2, b3, b4, b5⟩ := id hB
    have mk := r_marker (d + 6) h.2.2.1.2.1 h.2.2.1.2.2.1 b5 (by omega)
    refine ⟨x, ?_, fin_f h hF (by decide)⟩
    rw [hF.1]
    refine ps.trans ?_
    by_cases m0 : mkd pl = 0
    · rw [show mkI pl = N1 from if_pos m0] at mk
      rcases hc with g | ⟨g1, g2⟩
      · exact absurd m0 g
      · have ic := r_isCompared (d + 5) h.2.2.1.2.1 h.2.2.1.2.2.1 b5 (by omega)
        rw [g2] at ic
        subst g1
        exact pz_c (d + 6) mk ic
    · rw [show mkI pl = nI (mki pl) from if_neg m0] at mk
      exact pz_m (d + 6) (by have := mki_l pl; omega) mk
  · have ps := pz_s (d + 6) (x3 := x3) h.2.2.2 (bh_st (d := d) hX hB hs h)
    obtain ⟨b1, b2, b3, b4, b5⟩ := id hB
    have mk := r_marker (d + 6) h.2.2.1.2.1 h.2.2.1.2.2.1 b5 (by omega)
    rw [show mkI pl = N1 from if_pos m0] at mk
    obtain ⟨x1, e1, S1, P1⟩ := r_settle (d + 5) (r := 1) hX.2.2.2.1 (by decide) h.2.2.1 ((MF_13 h.1).1.trans hX.2.1) b5 (by omega) (by omega)
    have PS1 := PS_SF h S1 P1
    obtain ⟨z1, z2, z3⟩ := hZ
    refine ⟨x1, ?_, PS1.1, by rw [z2]; exact PS1.2.1, fun _ => ⟨by rw [z3]; exact P1.1, ?_, by rw [z3]; exact P1.2.2.2.2⟩⟩
    · rw [z1]
      refine ps.trans ?_
      cases e with
      | false => exact pz_e0 (d + 6) mk e1
      | true =>
        have ic := r_isCompared (d + 5) h.2.2.1.2.1 h.2.2.1.2.2.1 b5 (by omega)
        rw [hc rfl] at ic
        exact pz_e1 (d + 6) mk ic e1
    · have := P1.2.2.2.1
      rw [sett1_nil pl out m0] at this
      exact this
/-- a clause's part is read -/
theorem r_parsed (d : Nat) {x : qm_Hp} {B : Nat → Nat} {L tx w0 a E i : Nat} {e : Bool} (hX : XB B L tx a x) (hE : TKr B L E = 41) (hE3 : E ≤ 300) (hi : i ≤ E) (hw : w0 ≤ i) (hR : RTK B L (stt B L i) x) (h15 : zI x 9 0 15 = nI w0) (h19 : zI x 9 0 19 = nI 0) : ∃ x', qm_evM (d + 7) jM_parsed [qP 9 0, qI (nI (eI e))] x = some (some (qI (nI (pp (TKr B L) (VLr B L) a 3020 0 (if e = true then 0 else 3) 0 i).1)), x') ∧ FIN x B L tx w0 (pp (TKr B L) (VLr B L) a 3020 0 (if e = true then 0 else 3) 0 i) x' := by
  have h9 : (pp (TKr B L) (VLr B L) a 3020 0 (if e = true then 0 else 3) 0 i).1 ≠ 9 := by
    refine pp_fuel (Vl := VLr B L) (a := a) hE 3020 0 _ 0 i hi (by decide) (by cases e <;> decide) (Or.inl rfl) ?_
    rw [if_pos rfl]
    omega
  generalize hr : pp (TKr B L) (VLr B L) a 3020 0 (if e = true then 0 else 3) 0 i = R at *
  have Q := op_run (Q := QH d x B L tx w0 e R) (F := FH R) (Z := ZH R) hE (ru_1 hX hE hE3) (ru_2 hX) (ru_3 hX hE3) hi hw hr.symm h9 (fun g => ⟨g, rfl, rfl⟩) (fun _ => ⟨rfl, rfl⟩)
  have z : ∀ j, j ≠ 18 → j ≠ 20 → zI (uI (uI x 9 0 18 (nI 0)) 9 0 20 (nI 0)) 9 0 j = zI x 9 0 j := fun j h1 h2 => by rw [zI_uI, if_neg (by omega), zI_uI, if_neg (by omega)]
  have P0 : PS x B L tx w0 i false [] [] (uI (uI x 9 0 18 (nI 0)) 9 0 20 (nI 0)) := by
    refine ⟨MF_tr (MF_u 9 0 18 _ (by unfold MFp; omega)) (MF_u 9 0 20 _ (by unfold MFp; omega)), RTK_eq (fun j h1 h2 => z j (by omega) (by omega)) rfl hR, ⟨(z 15 (by decide) (by decide)).trans h15, ?_, trivial, (z 19 (by decide) (by decide)).trans h19, trivial⟩, ?_⟩
    · rw [zI_uI, if_neg (by omega), zI_uI, if_pos ⟨rfl, rfl, rfl⟩]; rfl
    · rw [zI_uI, if_pos ⟨rfl, rfl, rfl⟩]; rfl
  obtain ⟨x', e', g⟩ := Q _ qU P0
  exact ⟨x', (pz_0 (d + 7)).trans e', g⟩
