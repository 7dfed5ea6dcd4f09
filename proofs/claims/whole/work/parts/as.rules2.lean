/-! the reference reads a clause as the pile of deeds does: openings, what stands behind -/
theorem TT_w {T t : Nat} (h : TT T t) (hT : T < 30) : t = 2 := by
  by_cases q : t = 2
  · exact q
  · have := (TT_b h).2.2.1 q
    omega
theorem ru_2 {d : Nat} {x0 : qm_Hp} {B : Nat → Nat} {L tx w0 a E : Nat} {e : Bool} {R : PR} (hX : XB B L tx a x0) : RU2 (TKr B L) E w0 e (QH d x0 B L tx w0 e R) (FH R) := by
  have op : ∀ i pl out m x, PS x0 B L tx w0 i false pl out x → BD w0 E i pl out → OPN (TKr B L) e i pl m → ∀ (r : Int32) x1, qm_evM (d + 5) jM_opensBy [qP 9 0, qI (nI m)] x = some (some (qI r), x1) → qm_evM (d + 6) jM_beginOne [qP 9 0, qI (nI (eI e))] x = some (some (qI r), x1) := fun i pl out m x h hB hO r x1 ho => by
    have hk := PS_RK hX h
    have nm := r_nameOf d hk
    have hk2 := hk
    obtain ⟨t, h10, tt, -, -⟩ := hk
    rcases hO with ⟨hT, rfl⟩ | ⟨hT, rfl⟩ | ⟨hT, ha, rfl⟩
    · rw [hT] at tt nm
      rw [if_neg (by decide)] at nm
      have t1 : t = 40 := TT_s tt (by decide)
      subst t1
      exact (bg_8 (d + 5) h10 (by decide) nm).trans (b8_40 (d + 5) h10 ho)
    · rw [hT] at tt nm
      rw [if_neg (by decide)] at nm
      have t1 : t = 45 := TT_s tt (by decide)
      subst t1
      exact (bg_8 (d + 5) h10 (by decide) nm).trans (b8_45 (d + 5) h10 ho)
    · rw [hT] at tt nm hk2
      rw [if_neg (by decide)] at nm
      have t1 : t = 2 := TT_w tt (by decide)
      subst t1
      have ia := r_askY (d + 4) h.2.2.1.2.1 h.2.2.1.2.2.1 hB.2.2.2.2 (by have := hB.1; omega) ha
      exact (bg_8 (d + 5) h10 (by decide) nm).trans ((b8_w (d + 5) hk2 h10 (by decide) (by decide) (by decide)).trans (b12_y (d + 5) hk2 ia ho))
  have om : ∀ i m, OPN (TKr B L) e i m i → True := fun _ _ _ => trivial
  have mO : ∀ i pl m, OPN (TKr B L) e i pl m → m = 40 ∨ m = 2 ∨ m = 20 := fun i pl m hO => by
    rcases hO with ⟨_, h⟩ | ⟨_, h⟩ | ⟨_, _, h⟩ <;> omega
  have mm : ∀ i pl out x, PS x0 B L tx w0 i false pl out x → TKr B L i = 24 ∨ TKr B L i = 25 → ∀ (r : Int32) x1, qm_evM (d + 5) jM_opensBy [qP 9 0, qI (nI (TKr B L i + 17))] x = some (some (qI r), x1) → qm_evM (d + 6) jM_beginOne [qP 9 0, qI (nI (eI e))] x = some (some (qI r), x1) := fun i pl out x h hT r x1 ho => by
    have hk := PS_RK hX h
    have nm := r_nameOf d hk
    have hk2 := hk
    obtain ⟨t, h10, tt, -, -⟩ := hk
    rcases hT with hT | hT
    · rw [hT] at tt nm hk2 ho
      rw [if_neg (by decide)] at nm
      have t1 : t = 2 := TT_w tt (by decide)
      subst t1
      exact (bg_8 (d + 5) h10 (by decide) nm).trans (b8_24 (d + 5) hk2 h10 (by decide) ho)
    · rw [hT] at tt nm hk2 ho
      rw [if_neg (by decide)] at nm
      have t1 : t = 2 := TT_w tt (by decide)
      subst t1
      exact (bg_8 (d + 5) h10 (by decide) nm).trans (b8_25 (d + 5) hk2 h10 (by decide) ho)
  refine ⟨fun i pl out m hB hO hc hQ x x3 h => ?_, fun i pl out m hB hO hc hF x x3 h => ?_, fun i pl out hB hT h53 hF x x3 h => ?_, fun i pl out hB hT h53 hc hF x x3 h => ?_, fun i pl out hB hT h53 hc hQ x x3 h => ?_, fun i pl out hB h40 h17 hmm' h53 h50 h26 hF x x3 h => ?_⟩
  · have hm := mO i pl m hO
    obtain ⟨x1, nx, P1⟩ := psh_PS (d := d + 2) hX h (m := m) (by omega)
    exact q_g h P1 hQ (op i pl out m x h hB hO _ x1 (r_opY (d + 4) hm hc (by have := hB.1; omega) h.2.2.1.2.1 h.2.2.1.2.2.2.1 nx))
  · have hm := mO i pl m hO
    have h19 := h.2.2.1.2.2.2.1
    rw [show oc pl = 8 by have := hB.2.1; omega] at h19
    exact q_f h h hF (by decide) (op i pl out m x h hB hO _ x (r_opF (d + 5) hm h19))
  · obtain ⟨x1, nx, P1⟩ := nx_PS (d + 2) (i := i) hX h.1 h.2.1.2.1 h.2.2.1 h.2.2.2
    obtain ⟨t, h10, tt, -, -⟩ := PS_RK hX P1
    have tb := TT_b tt
    have ar := TT_ar tt
    exact q_f h P1 hF (by decide) (mm i pl out x h hT _ x1 (r_opm1 (d + 4) (by omega) nx h10 ⟨tb.1, fun g => h53 (ar.2.2.2.2.1 g)⟩))
  · obtain ⟨x1, nx, P1⟩ := nx_PS (d + 2) (i := i) hX h.1 h.2.1.2.1 h.2.2.1 h.2.2.2
    obtain ⟨t, h10, tt, -, -⟩ := PS_RK hX P1
    rw [h53] at tt
    have t1 : t = 40 := TT_s tt (by decide)
    subst t1
    have h19 := P1.2.2.1.2.2.2.1
    rw [show oc pl = 8 by have := hB.2.1; omega] at h19
    exact q_f h P1 hF (by decide) (mm i pl out x h hT _ x1 (r_opmF (d + 4) (by omega) nx h10 h19))
  · obtain ⟨x1, nx, P1⟩ := nx_PS (d + 2) (i := i) hX h.1 h.2.1.2.1 h.2.2.1 h.2.2.2
    obtain ⟨t, h10, tt, -, -⟩ := PS_RK hX P1
    rw [h53] at tt
    have t1 : t = 40 := TT_s tt (by decide)
    subst t1
    obtain ⟨x2, nx2, P2⟩ := psh_PS (d := d + 2) hX P1 (m := TKr B L i + 17) (by omega)
    exact q_g h P2 hQ (mm i pl out x h hT _ x2 (r_opmY (d + 4) (by omega) hc (by have := hB.1; omega) nx h10 P1.2.2.1.2.1 P1.2.2.1.2.2.2.1 nx2))
  · have hk := PS_RK hX h
    have nm := r_nameOf d hk
    rw [if_neg h17] at nm
    have hk2 := hk
    obtain ⟨t, h10, tt, -, -⟩ := hk
    have tb := TT_b tt
    have ar := TT_ar tt
    have w8 := b8_w (d + 5) (e := eI e) hk2 h10 ⟨tb.1, fun g => h53 (ar.2.2.2.2.1 g), fun g => h50 (ar.2.1 g)⟩ (by omega) (by omega)
    have g8 := bg_8 (d + 5) (e := eI e) h10 ⟨tb.1, fun g => h40 (ar.2.2.2.2.2.2.2.2.1 g)⟩ nm
    by_cases q : TKr B L i = 26
    · have ia := r_askN (d + 4) h.2.2.1.2.1 h.2.2.1.2.2.1 hB.2.2.2.2 (by have := hB.1; omega) (h26 q)
      rw [q] at hk2
      exact q_f h h hF (by decide) (g8.trans (w8.trans (b12_f (d + 5) hk2 ia)))
    · exact q_f h h hF (by decide) (g8.trans (w8.trans (b12_n (d + 5) hk2 q)))
theorem PLs_mk {x : qm_Hp} : ∀ {p : List Nat}, PLs x p → mkd p ≠ 0 → zI x 64 0 (mki p) = nI (mkd p) ∧ mki p < p.length ∧ mkd p ∈ p
  | [], _, h => absurd rfl h
  | c :: p, h, hm => by
    by_cases q : 40 ≤ c
    · have e1 : mkd (c :: p) = c := if_pos q
      have e2 : mki (c :: p) = p.length := if_pos q
      rw [e1, e2]
      exact ⟨h.1, by rw [List.length_cons]; omega, List.mem_cons_self ..⟩
    · have e1 : mkd (c :: p) = mkd p := if_neg q
      have e2 : mki (c :: p) = mki p := if_neg q
      rw [e1] at hm
      obtain ⟨g1, g2, g3⟩ := PLs_mk h.2 hm
      rw [e1, e2]
      exact ⟨g1, by rw [List.length_cons]; omega, List.mem_cons_of_mem _ g3⟩
theorem mki_app {m : Nat} (hm : 40 ≤ m) (rest : List Nat) : ∀ p, (∀ c, c ∈ p → c < 40) → mki (p ++ m :: rest) = rest.length
  | [], _ => if_pos hm
  | c :: p, h => by
    show (if 40 ≤ c then (p ++ m :: rest).length else mki (p ++ m :: rest)) = _
    have := h c (List.mem_cons_self ..)
    rw [if_neg (by omega)]
    exact mki_app hm rest p (fun c' h' => h c' (List.mem_cons_of_mem _ h'))
theorem BT_opt {Tk : Nat → Nat} {e : Bool} {i : Nat} {pl : List Nat} (h : BT Tk e i pl) : 3 ≤ opt (Tk i) ∧ opt (Tk i) < 40 ∧ ¬ (opt (Tk i) = 2 ∨ opt (Tk i) = 20 ∨ 40 ≤ opt (Tk i)) ∧ 1 ≤ rk (opt (Tk i)) := by
  have k : opt (Tk i) < 40 ∧ ¬ (opt (Tk i) = 2 ∨ opt (Tk i) = 20 ∨ 40 ≤ opt (Tk i)) ∧ 3 ≤ opt (Tk i) := by
    rcases h with h | ⟨_, _, _, h⟩ | ⟨_, _, _, h⟩
    · have := opt_l (t := Tk i) rfl (by omega)
      have := opt_ar h
      omega
    · have := opt_ask h
      omega
    · have := opt_l (t := Tk i) rfl (by omega)
      have := opt_lo h
      omega
  exact ⟨k.2.2, k.1, k.2.1, rk_1 _ k.1⟩
theorem sett1_nil : ∀ (pl : List Nat) (out : List (Nat × Nat)), mkd pl = 0 → (sett 1 pl out).1 = []
  | [], _, _ => rfl
  | c :: p, out, h => by
    have h : (if 40 ≤ c then c else mkd p) = 0 := h
    by_cases q : 40 ≤ c
    · rw [if_pos q] at h; omega
    · rw [if_neg q] at h
      have e : sett 1 (c :: p) out = sett 1 p (out ++ [(c, 0)]) := if_pos (rk_1 c (by omega))
      rw [e]
      exact sett1_nil p _ h
/-- what stands behind: where the pile's marker lies -/
theorem bh_mk {D : Nat} {x : qm_Hp} {pl : List Nat} {e : Nat} {bo : Int32} (h18 : zI x 9 0 18 = nI pl.length) (hp : PLs x pl) (h5 : ∀ c, c ∈ pl → c < 50) (hl : pl.length ≤ 60) (bt : qm_evM D jM_betweenOf [qP 9 0, qI (nI e)] x = some (some (qI bo), x)) : (mkd pl = 0 → qm_evM (D + 1) jM_behindOne [qP 9 0, qI (nI e)] x = qm_evB (D + 1) jM_behindOne 2 [qP 9 0, qI (nI e), qI bo, qI N1, qU] [qI N1] x) ∧ (mkd pl ≠ 0 → qm_evM (D + 1) jM_behindOne [qP 9 0, qI (nI e)] x = qm_evB (D + 1) jM_behindOne 2 [qP 9 0, qI (nI e), qI bo, qI (nI (mki pl)), qU] [qI (nI (mkd pl))] x) := by
  have mk := r_marker D h18 hp h5 (by omega)
  refine ⟨fun m0 => ?_, fun m0 => ?_⟩
  · rw [show mkI pl = N1 from if_pos m0] at mk
    exact bh_0 D bt mk
  · rw [show mkI pl = nI (mki pl) from if_neg m0] at mk
    obtain ⟨g1, g2, _⟩ := PLs_mk hp m0
    exact bh_1 D (by omega) bt mk g1
/-- the pile settled down to its marker -/
theorem se_mk {d : Nat} {x0 x : qm_Hp} {B : Nat → Nat} {L tx w0 a i m E : Nat} {pd rest : List Nat} {out : List (Nat × Nat)} (hX : XB B L tx a x0) (h : PS x0 B L tx w0 i true (pd ++ m :: rest) out x) (hB : BD w0 E i (pd ++ m :: rest) out) (hE3 : E ≤ 300) (hm : 40 ≤ m) (hp : ∀ c, c ∈ pd → c < 40) : ∃ x1, qm_evM (d + 5) jM_settle [qP 9 0, qI (nI 1)] x = some (none, x1) ∧ SF tx w0 x x1 ∧ PO tx w0 x1 (m :: rest) (out ++ em pd) := by
  have hw := hB.2.2.1
  have hi := hB.2.2.2.1
  obtain ⟨x1, e1, S1, P1⟩ := r_settle (d + 4) (r := 1) hX.2.2.2.1 (by decide) h.2.2.1 ((MF_13 h.1).1.trans hX.2.1) hB.2.2.2.2 (by have := hB.1; omega) (by omega)
  rw [sett_app (r := 1) (old := m :: rest) (fun c p g => by injection g with g1 g2; rw [← g1, rk_m hm]; decide) pd out (fun c hc => rk_1 c (hp c hc))] at P1
  exact ⟨x1, e1, S1, P1⟩
theorem PS_SF {x0 x x1 : qm_Hp} {B : Nat → Nat} {L tx w0 i : Nat} {wh : Bool} {pl pl' : List Nat} {out out' : List (Nat × Nat)} (h : PS x0 B L tx w0 i wh pl out x) (S : SF tx w0 x x1) (P : PO tx w0 x1 pl' out') : PS x0 B L tx w0 i wh pl' out' x1 := by
  have k : ∀ j, j ≠ 15 → j ≠ 18 → j ≠ 19 → zI x1 9 0 j = zI x 9 0 j := fun j h1 h2 h3 => S.1 9 0 j (by unfold SFp; omega)
  exact ⟨MF_tr h.1 (SF_MF S), RTK_eq (fun j h1 h2 => k j (by omega) (by omega) (by omega)) (S.2.1 9 0 12) h.2.1, P, (k 20 (by decide) (by decide) (by decide)).trans h.2.2.2⟩
/-- the marker taken off -/
theorem PO_pop {tx w0 m : Nat} {x : qm_Hp} {rest : List Nat} {out : List (Nat × Nat)} (h : PO tx w0 x (m :: rest) out) (hm : 40 ≤ m) : (zI x 9 0 18 = nI (rest.length + 1) ∧ zI x 9 0 19 = nI (oc rest + 1)) ∧ PO tx w0 (uI (uI x 9 0 18 (nI rest.length)) 9 0 19 (nI (oc rest))) rest out ∧ SF tx w0 x (uI (uI x 9 0 18 (nI rest.length)) 9 0 19 (nI (oc rest))) := by
  refine ⟨⟨h.2.1, by rw [h.2.2.2.1, oc_o (Or.inr (Or.inr hm))]⟩, ⟨?_, ?_, PLs_eq (fun j _ => ?_) h.2.2.1.2, ?_, cdM_eq (fun j => ?_) h.2.2.2.2⟩, SF_tr (SF_u 9 0 18 _ (by unfold SFp; omega)) (SF_u 9 0 19 _ (by unfold SFp; omega))⟩
  · rw [zI_uI, if_neg (by omega), zI_uI, if_neg (by omega)]; exact h.1
  · rw [zI_uI, if_neg (by omega), zI_uI, if_pos ⟨rfl, rfl, rfl⟩]
  · rw [zI_uI, if_neg (by omega), zI_uI, if_neg (by omega)]
  · rw [zI_uI, if_pos ⟨rfl, rfl, rfl⟩]
  · rw [zI_uI, if_neg (by omega), zI_uI, if_neg (by omega)]
theorem wn_PS {d : Nat} {x0 x : qm_Hp} {B : Nat → Nat} {L tx w0 a i : Nat} {wh : Bool} {pl : List Nat} {out : List (Nat × Nat)} (hX : XB B L tx a x0) (h : PS x0 B L tx w0 i wh pl out x) (h5 : ∀ c, c ∈ pl → c < 50) (hl : pl.length ≤ 160) (hw : w0 + out.length + pl.length ≤ 300) : ∃ x3 x4, qm_evM (d + 5) jM_whole [qP 9 0] x = some (none, x3) ∧ qm_evM (d + 5) jM_nextToken [qP 9 0] x3 = some (none, x4) ∧ PS x0 B L tx w0 (i + 1) true (sett 7 pl out).1 (sett 7 pl out).2 x4 := by
  obtain ⟨x3, e3, P3⟩ := wh_PS (d + 3) hX h h5 hl hw
  obtain ⟨x4, e4, P4⟩ := nx_PS (d + 3) (i := i) hX P3.1 P3.2.1.2.1 P3.2.2.1 P3.2.2.2
  exact ⟨x3, x4, e3, e4, P4⟩
theorem sc_54 {T : Nat} (h : T = 54 ∨ T = 55) : (lvl T ≠ 3 ∧ lvl T ≠ 4) ∧ ¬ (43 ≤ T ∧ T ≤ 48) ∧ lvl T ≠ 0 ∧ lvl T ≠ 1 := by
  rcases h with h | h <;> subst h <;> decide
