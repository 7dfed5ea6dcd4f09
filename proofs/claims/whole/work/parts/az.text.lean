/-! call: text -/
theorem pClause_le {Tk Vl : Nat → Nat} {E i : Nat} {τ : TX} (hE : Tk E = 41) (hi : i ≤ E) (h : (pClause Tk Vl τ i).1 = 0) : (pClause Tk Vl τ i).2.1 ≤ E := by
  unfold pClause at h ⊢
  by_cases q : 17 ≤ Tk i ∧ Tk i ≤ 23
  · rw [if_pos q] at h ⊢
    by_cases q4 : Tk i - 17 < 5 ∧ fnd τ (Tk i - 17) < τ.1
    · rw [if_pos q4]; exact hi
    · rw [if_neg q4] at h ⊢
      by_cases q6 : 20 ≤ τ.1
      · rw [if_pos q6]; exact hi
      · rw [if_neg q6] at h ⊢
        have hi1 : i + 1 ≤ E := by
          by_cases k : i = E
          · rw [k, hE] at q; omega
          · omega
        exact le_sq (le_body (Vl := Vl) hE hi1).1 (fun j hj => le_want hE (by decide) hj)
  · rw [if_neg q]; exact hi
theorem pAll_ok {Tk Vl : Nat → Nat} {E : Nat} (hE : Tk E = 41) (hE3 : E ≤ 300) : ∀ n τ i, i ≤ E → (pAll Tk Vl n τ i).1 = 0 → OKT τ → OKT (pAll Tk Vl n τ i).2.2
  | 0, _, _, _, h, _ => absurd h (show ¬ (9 : Nat) = 0 by decide)
  | n + 1, τ, i, hi, h, hO => by
    unfold pAll at h ⊢
    by_cases q : Tk i = 41
    · rw [if_pos q]; exact hO
    · rw [if_neg q] at h ⊢
      by_cases g : (pClause Tk Vl τ i).1 = 0
      · rw [if_pos g] at h ⊢
        have ok := pClause_ok hE hE3 hi g hO
        exact pAll_ok hE hE3 n _ _ (pClause_le hE hi g) h ok.1
      · rw [if_neg g] at h
        exact absurd h g
theorem TM_loc {s s' : qm_Hp} {t : Nat} {τ : TX} (hτ : τ.1 ≤ 20) (e : ∀ j, 720 * t ≤ j → j < 720 * t + 720 → zI s' 62 0 j = zI s 62 0 j) (h : TM s t τ) : TM s' t τ := by
  refine ⟨(e _ (by omega) (by omega)).trans h.1, fun k hk => ?_⟩
  obtain ⟨h1, h2, h3⟩ := h.2 k hk
  refine ⟨(e _ (by omega) (by omega)).trans h1, fun q i hi => (e _ (by omega) (by omega)).trans (h2 q i hi), fun q => ?_⟩
  obtain ⟨fm, a1, a2, a3, a4⟩ := h3 q
  exact ⟨fm, (e _ (by omega) (by omega)).trans a1, (e _ (by omega) (by omega)).trans a2, a3, cdM_cong (fun p h1 h2 => e _ (by omega) (by omega)) a4⟩
def PT (n : Nat) : Nat → Nat → Prop := fun k i => ((k = 4 ∨ (31 ≤ k ∧ k ≤ 35)) ∧ i = n) ∨ k = 6 ∨ k = 7 ∨ (43 ≤ k ∧ k ≤ 45) ∨ k = 1
theorem fp_txt {n : Nat} {s x' : qm_Hp} (F : RF n s x') : fp (PT n) s (uI (uI x' 1 0 8 (nI 1)) 1 0 7 (nI 0)) := by
  have h0 : fp (PT n) s x' := ⟨fun k i j q => F.1 k i j (fun g => q (by unfold RFp XFp at g; unfold PT; omega)), fun k i j _ => F.2.1 k i j, fun k i j q => F.2.2 k i j (fun g => q (by unfold PT; omega))⟩
  exact fp_uI (by unfold PT; omega) (fp_uI (by unfold PT; omega) h0 _ _) _ _
theorem RC_txt {s x' : qm_Hp} {w n : Nat} {y k : VW} {tp : Nat → Int32} {fd : Nat} {fa pl fa' pl' : Int32} {T : Nat → TX} (h : RC s w y k tp fd fa pl T) (hn : nt y = n) (hn4 : n < 4) (F : RF n s x') (h4 : zI x' 6 0 4 = fa') (h5 : zI x' 6 0 5 = pl') : RC (uI (uI x' 1 0 8 (nI 1)) 1 0 7 (nI 0)) w y k tp 0 fa' pl' T := by
  obtain ⟨⟨a1, a2⟩, ⟨a3, a4⟩, a5, ⟨a6, a7⟩, a9, ⟨a10, a11⟩, a12⟩ := h
  have hf := fp_txt F
  refine ⟨⟨PC_fp (fun k hk => by unfold PT; omega) hf a1, YC_fp (fun k hk => by unfold PT; omega) hf a2⟩, ⟨PC_fp (fun k hk => by unfold PT; omega) hf a3, YC_fp (fun k hk => by unfold PT; omega) hf a4⟩, fun p hp => (hf.1 3 p 0 (by unfold PT; omega)).trans (a5 p hp), ⟨by rw [zI_uI, if_pos ⟨rfl, rfl, rfl⟩], fun j hj => absurd hj (Nat.not_lt_zero _)⟩, Or.inr ⟨?_, ?_, ?_⟩, ⟨fun t ht => TC_fp (fun k hk => by unfold PT; omega) hf (a10 t ht), TC_fp (fun k hk => by unfold PT; omega) hf a11⟩, (hf.2.2 5 0 0 (by unfold PT; omega)).trans a12⟩
  · rw [zI_uI, if_neg (by omega), zI_uI, if_pos ⟨rfl, rfl, rfl⟩]
  · rw [zI_uI, if_neg (by omega), zI_uI, if_neg (by omega)]; exact h4
  · rw [zI_uI, if_neg (by omega), zI_uI, if_neg (by omega)]; exact h5
def tup (T : Nat → TX) (n : Nat) (τ : TX) : Nat → TX := fun t => if t = n then τ else T t
theorem nt_up {y : VW} {n : Nat} (hn : n < 4) : nt (vset y 0 6 (nI (n + 1))) = n + 1 := by
  unfold nt
  rw [vset_eq, nI_clamp (by omega)]
theorem RC_tx2 {s : qm_Hp} {w n : Nat} {y k : VW} {tp : Nat → Int32} {fd : Nat} {fa pl : Int32} {T : Nat → TX} {τ : TX} (h : RC s w y k tp fd fa pl T) (hn : nt y = n) (hn4 : n < 4) (hT : TC s n τ) : RC (uI s 2 0 11 (nI (n + 1))) w (vset y 0 6 (nI (n + 1))) k tp fd fa pl (tup T n τ) := by
  obtain ⟨⟨a1, a2⟩, ⟨a3, a4⟩, a5, ⟨a6, a7⟩, a9, ⟨a10, a11⟩, a12⟩ := h
  have hl : vlike w y (vset y 0 6 (nI (n + 1))) := ⟨fun i hi => vset_ne (by omega), fun c _ => vset_ne (by omega), fun f c z hf _ _ => vset_ne (by omega)⟩
  have hf : fp YP s (uI s 2 0 11 (nI (n + 1))) := yp_u _ _ (fp_refl _ _) _ _ _ (by omega)
  have hru : ru (vset y 0 6 (nI (n + 1))) = ru y := by unfold ru; rw [vset_ne (by omega)]
  have hY : YC (uI s 2 0 11 (nI (n + 1))) 0 w (vset y 0 6 (nI (n + 1))) := YC_s a2 6 (by decide) (nI (n + 1))
  refine ⟨⟨PC_like hl (PC_fp (fun k hk => by unfold YP; omega) hf a1), hY⟩, ⟨PC_fp (fun k hk => by unfold YP; omega) hf a3, YC_fp (fun k hk => by unfold YP; omega) hf a4⟩, fun p hp => (hf.1 3 p 0 (by unfold YP; omega)).trans (a5 p hp), ⟨(hf.1 1 0 7 (by unfold YP; omega)).trans a6, fun j hj => (hf.1 52 0 j (by unfold YP; omega)).trans (a7 j hj)⟩, ?_, ⟨fun t ht => ?_, TC_fp (fun k hk => by unfold YP; omega) hf a11⟩, ?_⟩
  · rw [hf.1 1 0 8 (by unfold YP; omega), hf.1 6 0 4 (by unfold YP; omega), hf.1 6 0 5 (by unfold YP; omega)]
    exact a9
  · rw [nt_up hn4] at ht
    unfold tup
    by_cases q : t = n
    · rw [if_pos q, q]; exact TC_fp (fun k hk => by unfold YP; omega) hf hT
    · rw [if_neg q]; exact TC_fp (fun k hk => by unfold YP; omega) hf (a10 t (by omega))
  · rw [hru]; exact (hf.2.2 5 0 0 (by unfold YP; omega)).trans a12
theorem RM_txt {s x' : qm_Hp} {w n : Nat} {y k : VW} {tp : Nat → Int32} {fd : Nat} {fa pl fa' pl' : Int32} {T : Nat → TX} (hw : w ≤ 6) (h : RM s w y k tp fd fa pl T) (hO : ∀ t, t < nt y → OKT (T t)) (hn : nt y = n) (F : DF n s x') : RM (uI (uI (uI x' 9 0 6 fa') 9 0 7 pl') 9 0 5 (nI 0)) w y k tp 0 fa' pl' T := by
  obtain ⟨⟨a1, a2⟩, ⟨a3, a4⟩, ⟨a5, a6⟩, ⟨a7, a8⟩, ⟨a9, a10⟩, a11⟩ := h
  have e9 : ∀ j, j = 1 ∨ j = 2 ∨ j = 27 → zI (uI (uI (uI x' 9 0 6 fa') 9 0 7 pl') 9 0 5 (nI 0)) 9 0 j = zI s 9 0 j := fun j hj => by
    rw [zI_uI, if_neg (by omega), zI_uI, if_neg (by omega), zI_uI, if_neg (by omega)]
    exact F.1 9 0 j (by unfold DFp; omega)
  have ek : ∀ k j, k = 61 ∨ k = 62 → zI (uI (uI (uI x' 9 0 6 fa') 9 0 7 pl') 9 0 5 (nI 0)) k 0 j = zI x' k 0 j := fun k j hk => by
    rw [zI_uI, if_neg (by omega), zI_uI, if_neg (by omega), zI_uI, if_neg (by omega)]
  have e61 : ∀ j, zI (uI (uI (uI x' 9 0 6 fa') 9 0 7 pl') 9 0 5 (nI 0)) 61 0 j = zI s 61 0 j := fun j => (ek 61 j (by omega)).trans (F.1 61 0 j (by unfold DFp; omega))
  refine ⟨⟨(e9 2 (by omega)).trans a1, (e9 27 (by omega)).trans a2⟩, ⟨PM_eq (e9 1 (by omega)) (fun j _ => e61 j) a3, YM_eq hw (fun j _ _ _ _ => e61 j) a4⟩, ⟨PM_eq (e9 1 (by omega)) (fun j _ => e61 j) a5, YM_eq hw (fun j _ _ _ _ => e61 j) a6⟩, ⟨by rw [zI_uI, if_pos ⟨rfl, rfl, rfl⟩], fun j hj => absurd hj (Nat.not_lt_zero _)⟩, ⟨?_, ?_⟩, fun t ht => TM_loc (hO t ht).1 (fun j h1 h2 => (ek 62 j (by omega)).trans (F.1 62 0 j (by unfold DFp; omega))) (a11 t ht)⟩
  · rw [zI_uI, if_neg (by omega), zI_uI, if_neg (by omega), zI_uI, if_pos ⟨rfl, rfl, rfl⟩]
  · rw [zI_uI, if_neg (by omega), zI_uI, if_pos ⟨rfl, rfl, rfl⟩]
theorem RM_tx2 {s : qm_Hp} {w n : Nat} {y k : VW} {tp : Nat → Int32} {fd : Nat} {fa pl : Int32} {T : Nat → TX} {τ : TX} (hw : w ≤ 6) (h : RM s w y k tp fd fa pl T) (hn : nt y = n) (hn4 : n < 4) (hT : TM s n τ) : RM (uI s 61 0 2 (nI (n + 1))) w (vset y 0 6 (nI (n + 1))) k tp fd fa pl (tup T n τ) := by
  obtain ⟨⟨a1, a2⟩, ⟨a3, a4⟩, ⟨a5, a6⟩, ⟨a7, a8⟩, ⟨a9, a10⟩, a11⟩ := h
  have hl : vlike w y (vset y 0 6 (nI (n + 1))) := ⟨fun i hi => vset_ne (by omega), fun c _ => vset_ne (by omega), fun f c z hf _ _ => vset_ne (by omega)⟩
  have e : ∀ j, j ≠ 2 → zI (uI s 61 0 2 (nI (n + 1))) 61 0 j = zI s 61 0 j := fun j hj => by rw [zI_uI, if_neg (by omega)]
  have hY := YM_u hw a4 0 6 2 (by unfold ymn; omega) (nI (n + 1))
  rw [Nat.zero_add] at hY
  refine ⟨⟨a1, a2⟩, ⟨PM_like hl ⟨a3.1, ⟨(e _ (by omega)).trans a3.2.1.1, (e _ (by omega)).trans a3.2.1.2.1, (e _ (by omega)).trans a3.2.1.2.2.1, (e _ (by omega)).trans a3.2.1.2.2.2.1, (e _ (by omega)).trans a3.2.1.2.2.2.2⟩, fun c hc => (e _ (by omega)).trans (a3.2.2.1 c hc), fun f c z hf' hc hz => (e _ (by omega)).trans (a3.2.2.2 f c z hf' hc hz)⟩, hY⟩, ⟨PM_eq (s := s) (s' := uI s 61 0 2 (nI (n + 1))) rfl (fun j hj => e j (by omega)) a5, YM_eq hw (fun j h1 h2 h3 h4 => e j (by omega)) a6⟩, ⟨a7, a8⟩, ⟨a9, a10⟩, fun t ht => ?_⟩
  rw [nt_up hn4] at ht
  unfold tup
  by_cases q : t = n
  · rw [if_pos q, q]; exact TM_eq (fun j => rfl) hT
  · rw [if_neg q]; exact TM_eq (fun j => rfl) (a11 t (by omega))
theorem OKG_tx2 {w n : Nat} {y k : VW} {tp : Nat → Int32} {fd : Nat} {T : Nat → TX} {τ : TX} (ok : OKG w y k tp fd T) (en : y 0 6 = nI n) (hn : nt y = n) (hn4 : n < 4) (hT : OKT τ) : OKG w (vset y 0 6 (nI (n + 1))) k tp 0 (tup T n τ) := by
  have hl : vlike w y (vset y 0 6 (nI (n + 1))) := ⟨fun i hi => vset_ne (by omega), fun c _ => vset_ne (by omega), fun f c z hf _ _ => vset_ne (by omega)⟩
  have h := ok.1.2
  refine ⟨⟨OKP_like hl ok.1.1, ⟨by rw [vset_ne (by omega)]; exact h.1, by rw [vset_eq]; exact ⟨n + 1, by omega, by omega, rfl⟩, ?_, by rw [vset_ne (by omega)]; exact h.2.2.2.1, fun j hj i hi => by rw [vset_ne (by omega)]; exact h.2.2.2.2.1 j hj i hi, fun j hj => by rw [vset_ne (by omega)]; exact h.2.2.2.2.2.1 j hj, fun j hj => by rw [vset_ne (by omega), vset_ne (by omega)]; exact h.2.2.2.2.2.2.1 j hj, fun c hc => by rw [vset_ne (by omega)]; exact h.2.2.2.2.2.2.2 c hc⟩⟩, ok.2.1, by rw [nt_up hn4]; have := ok.2.2.1; omega, fun t ht => ?_, by decide, fun j hj => absurd hj (Nat.not_lt_zero _)⟩
  · rw [vset_eq, vset_ne (by omega)]
    rcases h.2.2.1 with g | ⟨t, u, g1, g2, g3, g4⟩
    · exact Or.inl g
    · have eu : u = n := by
        rw [en] at g2
        exact ((nI_eq (by omega) (by omega)).mp g2).symm
      exact Or.inr ⟨t, n + 1, g1, rfl, by omega, by omega⟩
  · rw [nt_up hn4] at ht
    unfold tup
    by_cases q : t = n
    · rw [if_pos q]; exact hT
    · rw [if_neg q]; exact ok.2.2.2.1 t (by omega)
theorem fpM_tx {n : Nat} {s x' : qm_Hp} (F : DF n s x') (a b c : Int32) : fp MP s (uI (uI (uI x' 9 0 6 a) 9 0 7 b) 9 0 5 c) := by
  have h0 : fp MP s x' := ⟨fun k i j q => F.1 k i j (fun g => q (by unfold DFp at g; unfold MP; omega)), fun k i j q => F.2.1 k i j (fun g => q (by unfold MP; omega)), fun k i j _ => F.2.2 k i j⟩
  exact fp_uI (by unfold MP; omega) (fp_uI (by unfold MP; omega) (fp_uI (by unfold MP; omega) h0 _ _) _ _) _ _
theorem st_text (d : Nat) : STP (d + 200) jC_text jM_text [] := by
  refine stp_rw fun s w y k tp fd fa pl T hC hM ok => ?_
  have hw := ok.1.1.1
  obtain ⟨n, _, hn4, en⟩ := ok.1.2.2.1
  have hnt : nt y = n := by unfold nt; rw [en, nI_clamp (by omega)]
  have hc11 : zI s 2 0 11 = nI n := hC.1.2.1.2.1.trans en
  have hm2 : ∀ s1, RM s1 w y k tp fd fa pl T → zI s1 61 0 2 = nI n := fun s1 g1 => g1.2.1.2.1.2.1.trans en
  by_cases q : n = 4
  · subst q
    exact nochg ok hC N1 (ct_4 (d + 199) hc11) (fun s1 g1 => mt_4 (d + 200) (hm2 s1 g1))
  · have hn : n < 4 := by omega
    have hfd := ok.2.2.2.2.1
    have hb : ∀ j, j < fd → tp j = nI (tp j).toNatClampNeg ∧ (tp j).toNatClampNeg < 256 := fun j hj => by
      obtain ⟨v, _, hv, ev⟩ := ok.2.2.2.2.2 j hj
      rw [ev, nI_clamp (by omega)]
      exact ⟨rfl, by omega⟩
    have hBY : BY (fun j => (tp j).toNatClampNeg) fd s := ⟨hfd, fun j hj => ⟨(hC.2.2.2.1.2 j hj).trans (hb j hj).1, (hb j hj).2⟩⟩
    have hBM : ∀ s1, RM s1 w y k tp fd fa pl T → BYM (fun j => (tp j).toNatClampNeg) fd s1 := fun s1 g1 => ⟨g1.2.2.2.1.1, hfd, fun j hj => ⟨(g1.2.2.2.1.2 j hj).trans (hb j hj).1, (hb j hj).2⟩⟩
    generalize (fun j => (tp j).toNatClampNeg) = B at *
    obtain ⟨x', E, e, F, hEL, hE, _, hok, hbad⟩ := c_readAll (d + 77) (t := n) hBY
    have rr := fun s1 g1 => r_readText (d + 190) (hBM s1 g1) hE (by omega : E ≤ 300) hn (hm2 s1 g1)
    have OKτ := fun g => pAll_ok (Vl := VLr B fd) hE (by omega : E ≤ 300) 21 τ0 0 (Nat.zero_le _) g okt0
    have fC : ∀ v, fp CP s (uI (uI (uI x' 1 0 8 (nI 1)) 1 0 7 (nI 0)) 2 0 11 v) ∧ fp CP s (uI (uI x' 1 0 8 (nI 1)) 1 0 7 (nI 0)) := fun v => by
      have h1 : fp CP s (uI (uI x' 1 0 8 (nI 1)) 1 0 7 (nI 0)) := fp_mono (fun k i hk => by unfold PT at hk; unfold CP; omega) (fp_txt F)
      exact ⟨fp_uI (by unfold CP; omega) h1 _ _, h1⟩
    generalize pAll (TKr B fd) (VLr B fd) 21 τ0 0 = A at *
    by_cases a0 : A.1 = 0
    · obtain ⟨hTC, h4, h5⟩ := hok a0
      refine ⟨nI n, vset y 0 6 (nI (n + 1)), k, tp, 0, nI 0, N1, tup T n A.2.2, OKG_tx2 ok en hnt hn (OKτ a0), ⟨_, ct_0 (d + 199) hn hc11 hC.2.2.2.1.1 e h4, (fC _).1, RC_tx2 (RC_txt hC hnt hn F h4 h5) hnt hn ?_⟩, fun s1 g1 => ?_⟩
      · have h1 : fp (fun k _ => k = 1) x' (uI (uI x' 1 0 8 (nI 1)) 1 0 7 (nI 0)) := fp_uI (P := fun k _ => k = 1) rfl (fp_uI (P := fun k _ => k = 1) rfl (fp_refl _ _) _ _) _ _
        exact TC_fp (fun k hk => by omega) h1 hTC
      · obtain ⟨x1, e1, F1, _, hTM, _⟩ := rr s1 g1
        rw [a0] at e1
        refine ⟨_, mt_0 (d + 199) hn (hm2 s1 g1) e1 ((F1.1 61 0 2 (by unfold DFp; omega)).trans (hm2 s1 g1)), mp_uu (fpM_tx F1 _ _ _) _ _, RM_tx2 hw.2 (RM_txt hw.2 g1 ok.2.2.2.1 hnt F1) hnt hn ?_⟩
        exact TM_eq (fun j => by rw [zI_uI, if_neg (by omega), zI_uI, if_neg (by omega), zI_uI, if_neg (by omega)]) (hTM a0)
    · obtain ⟨⟨_, h4, h5, h9⟩, _⟩ := hbad a0
      refine ⟨N1, y, k, tp, 0, nI A.1, nI (stt B fd A.2.1), T, ⟨ok.1, ok.2.1, ok.2.2.1, ok.2.2.2.1, by decide, fun j hj => absurd hj (Nat.not_lt_zero _)⟩, ⟨_, ct_f (d + 199) hn hc11 hC.2.2.2.1.1 h9 e h4, (fC 0).2, RC_txt hC hnt hn F h4 h5⟩, fun s1 g1 => ?_⟩
      obtain ⟨x1, e1, F1, _, _, h9'⟩ := rr s1 g1
      exact ⟨_, mt_f (d + 199) hn (hm2 s1 g1) h9 e1 (h9' a0), fpM_tx F1 _ _ _, RM_txt hw.2 g1 ok.2.2.2.1 hnt F1⟩
