/-! the whole run -/
theorem qm_rm_ok0 {d F Lc M : Nat} (h1 : d + 1 + 4 ≤ F) (h2 : 64 * (d + 1) + 256 ≤ Lc) (h3 : M ≤ 30) : d + 4 + 1 ≤ F ∧ 8 + (M + 11) + (64 * d + 256) ≤ Lc := by omega
theorem qm_rm_ok {d F Lc M : Nat} (h1 : d + 1 + 4 ≤ F) (h2 : 64 * (d + 1) + 256 ≤ Lc) (h3 : M ≤ 30) : (qm_rm d).frames + 1 ≤ F ∧ 8 + (M + 11) + (qm_rm d).locals ≤ Lc := qm_rm_ok0 h1 h2 h3
theorem qm_run_nil {n d m : Nat} {ls st : List qm_AV} {s : qm_Hp} : qm_run n d m [] ls st s = none := by cases n <;> rfl
theorem qm_good {f np : Nat} (hf : (f, np) ∈ qm_cp) : GoodIn qm_tb (qm_wsm f) := by
  intro w hw
  have hcw := qm_cp_ok _ hf
  rcases List.mem_cons.mp hw with rfl | hw
  · exact ⟨hcw.1.tb, good_of_word hcw.1.2⟩
  · exact ⟨hw, good_of_word (List.mem_filter.mp hw).2⟩
theorem qa_ret_form {t : Nat} {st : List qm_AV} {r : qm_Act} (h : qa_ret t st = some r) : (∃ v, st = [.inl v] ∧ r = .inr (.inr (.inr (some (qI v)))) ∧ (t = 0 ∨ (t = 3 ∧ (v = 0 ∨ v = 1)))) ∨ (∃ v, st = [.inr (.inl v)] ∧ r = .inr (.inr (.inr (some (qL v)))) ∧ t = 1) ∨ (st = [] ∧ r = .inr (.inr (.inr none)) ∧ t = 2) := by
  unfold qa_ret at h
  split at h
  · next v => exact Or.inl ⟨v, rfl, (Option.some.inj h).symm, Or.inl rfl⟩
  · next v => exact Or.inr (Or.inl ⟨v, rfl, (Option.some.inj h).symm, rfl⟩)
  · exact Or.inr (Or.inr ⟨rfl, (Option.some.inj h).symm, rfl⟩)
  · next v =>
    split at h
    · next hv => exact Or.inl ⟨v, rfl, (Option.some.inj h).symm, Or.inr ⟨rfl, hv⟩⟩
    · cases h
  · cases h
def qm_rok (rv : Option qm_AV) : Prop := ∀ q, rv ≠ some (.inr (.inr q))
theorem qm_rst_push {B0 sb sa : Nat} {rv : Option qm_AV} (hrv : qm_rok rv) {st : List qm_AV} : qm_rst rv ++ st.map (qm_cv B0 sb sa) = (qm_push rv st).map (qm_cv B0 sb sa) := by
  match rv, hrv with
  | none, _ => rfl
  | some (.inl v), _ => rfl
  | some (.inr (.inl v)), _ => rfl
  | some (.inr (.inr q)), hrv => exact absurd rfl (hrv q)
section QSO
variable {p : Program} {l : Launch} {e : Env} {R : Room} {s : State} {m : MethodId} {args : Array Value} {below : List Frame} {meth : Method} {c : Code} {cells slots : Nat} {Q : State → Prop} {H : Heap} {locs : List Loc}
variable {d B0 sb sa sv L mi : Nat} {xs : Nat → Int32} {dC : Nat → ClassId} {dI : Nat → Nat → Nat} {cs : Nat × Nat × Nat × Nat × Nat} {pc n : Nat} {als : Array Slot} {ls st ls' st' : List qm_AV} {h h' : qm_Hp} {x : Instr}
theorem so_after {stk rest : List Value} {rv : Option qm_AV} {aa : Array Value} (hr : va_Run p l e R s m args below meth c H locs cells slots 0 0 (F0 m pc als stk) rest (qm_Qc B0 L xs dC dI cs rv h' aa) (fun q => B0 ≤ q)) (hw : qm_Wd s B0 L xs dC dI cs h H locs) (hrv : qm_rok rv)
    (kk : ∀ (H1 : Heap) (locs1 : List Loc), qm_Wd s B0 L xs dC dI cs h' H1 locs1 → W p l e R s m args below meth c H1 locs1 cells slots Q (F0 m (pc + 3) als (qm_rst rv ++ rest))) : W p l e R s m args below meth c H locs cells slots Q (F0 m pc als stk) := by
  match rv, hr, hrv, kk with
  | some (.inl v), hr, _, kk =>
    exact va_calli (a := aa) hr hw.2.2.1 (fun q _ z => z) (fun q z => z) (fun r u t H1 locs1 ht al hp hB hsz hk hS => by
      have hp : r = v := hp
      subst hp
      have hB : qm_End B0 L xs dC dI cs h' u t := hB
      rw [qm_End, ht] at hB
      exact kk H1 locs1 ⟨hB.1, hB.2.1, hS, hB.2.2⟩)
  | some (.inr (.inl v)), hr, _, kk =>
    exact va_calll (a := aa) hr hw.2.2.1 (fun q _ z => z) (fun q z => z) (fun r u t H1 locs1 ht al hp hB hsz hk hS => by
      have hp : r = v := hp
      subst hp
      have hB : qm_End B0 L xs dC dI cs h' u t := hB
      rw [qm_End, ht] at hB
      exact kk H1 locs1 ⟨hB.1, hB.2.1, hS, hB.2.2⟩)
  | none, hr, _, kk =>
    exact va_callv (a := aa) hr hw.2.2.1 (fun q _ z => z) (fun q z => z) (fun u t H1 locs1 ht al hp hB hsz hk hS => by
      have hB : qm_End B0 L xs dC dI cs h' u t := hB
      rw [qm_End, ht] at hB
      exact kk H1 locs1 ⟨hB.1, hB.2.1, hS, hB.2.2⟩)
  | some (.inr (.inr q)), _, hrv, _ => exact absurd rfl (hrv q)
theorem qm_Wd.pre (X : qm_Cx p R s m args c cells slots d mi B0 sb sa sv L xs dC dI cs) (hw : qm_Wd s B0 L xs dC dI cs h H locs) {as : List qm_AV} : ∀ U : State, U.heap = H → s.WarmedH U.vm → qm_Pc B0 sb sa sv L xs dC dI cs as h (as.map (qm_cv B0 sb sa)).toArray U := by
  intro U hU hW
  refine ⟨rfl, X.2.2.2.2.2.1.warm hW (by rw [hU]; exact hw.2.2.1.1) (fun q h1 h2 => by rw [hU]; exact hw.2.2.1.2.1 q h1 h2), ?_, hw.2.1, hw.2.2.2⟩
  rw [hU]
  exact hw.1
end QSO

theorem qm_run_rok : ∀ (n d m : Nat) (c : List qm_Ins) (ls st : List qm_AV) (s : qm_Hp) (rv : Option qm_AV) (s' : qm_Hp), qm_run n d m c ls st s = some (rv, s') → qm_rok rv := by
  intro n
  induction n with
  | zero => intro d m c ls st s rv s' h; cases h
  | succ n ih =>
    intro d m c ls st s rv s' h
    cases c with
    | nil => cases h
    | cons i c =>
      rw [qm_run] at h
      cases ha : qm_act i ls st s with
      | none => rw [ha] at h; cases h
      | some r =>
        rw [ha] at h
        match r, ha, h with
        | .inl (ls', st', s1), _, h => exact ih _ _ _ _ _ _ _ _ h
        | .inr (.inl (b, st')), _, h => exact ih _ _ _ _ _ _ _ _ h
        | .inr (.inr (.inl (f, as, st'))), _, h =>
          match d, h with
          | 0, h => cases h
          | d' + 1, h =>
            dsimp only at h
            split at h
            · cases h
            · exact ih _ _ _ _ _ _ _ _ h
        | .inr (.inr (.inr rv')), ha, h =>
          cases h
          intro q hq
          subst hq
          obtain ⟨op, a, v⟩ := i
          unfold qm_act at ha
          dsimp only at ha
          split at ha
          all_goals first
            | (cases ha; done)
            | (obtain ⟨_, _, _, e⟩ := qa_load_inl _ _ ha; cases e; done)
            | (obtain ⟨_, _, _, e⟩ := qa_store_inl _ _ ha; cases e; done)
            | (obtain ⟨_, _, _, e⟩ := qa_iinc_inl _ _ ha; cases e; done)
            | (obtain ⟨_, _, _, e⟩ := qa_bin_inl _ ha; cases e; done)
            | (obtain ⟨_, _, _, e⟩ := qa_div_inl _ ha; cases e; done)
            | (obtain ⟨_, _, _, e⟩ := qa_neg_inl ha; cases e; done)
            | (obtain ⟨_, _, _, e⟩ := qa_lbin_inl _ ha; cases e; done)
            | (obtain ⟨_, _, _, e⟩ := qa_ldiv_inl ha; cases e; done)
            | (obtain ⟨_, _, _, e⟩ := qa_lneg_inl ha; cases e; done)
            | (obtain ⟨_, _, _, e⟩ := qa_lshl_inl ha; cases e; done)
            | (obtain ⟨_, _, _, e⟩ := qa_lcmp_inl ha; cases e; done)
            | (obtain ⟨_, _, _, e⟩ := qa_i2l_inl ha; cases e; done)
            | (obtain ⟨_, _, _, e⟩ := qa_l2i_inl ha; cases e; done)
            | (obtain ⟨_, _, _, e⟩ := qa_dup_inl ha; cases e; done)
            | (obtain ⟨_, _, _, e⟩ := qa_dup2_inl ha; cases e; done)
            | (obtain ⟨_, _, _, e⟩ := qa_pop_inl ha; cases e; done)
            | (obtain ⟨_, _, _, e⟩ := qa_getI_inl _ ha; cases e; done)
            | (obtain ⟨_, _, _, e⟩ := qa_getL_inl _ ha; cases e; done)
            | (obtain ⟨_, _, _, e⟩ := qa_getP_inl _ ha; cases e; done)
            | (obtain ⟨_, _, _, e⟩ := qa_getM_inl _ ha; cases e; done)
            | (obtain ⟨_, _, _, e⟩ := qa_putI_inl _ ha; cases e; done)
            | (obtain ⟨_, _, _, e⟩ := qa_putZ_inl _ ha; cases e; done)
            | (obtain ⟨_, _, _, e⟩ := qa_putL_inl _ ha; cases e; done)
            | (obtain ⟨_, _, _, e⟩ := qa_putM_inl _ ha; cases e; done)
            | (obtain ⟨_, _, _, e⟩ := qa_null_inl _ ha; cases e; done)
            | (obtain ⟨_, _, _, e⟩ := qa_iald_inl ha; cases e; done)
            | (obtain ⟨_, _, _, e⟩ := qa_iast_inl ha; cases e; done)
            | (obtain ⟨_, _, _, e⟩ := qa_lald_inl ha; cases e; done)
            | (obtain ⟨_, _, _, e⟩ := qa_last_inl ha; cases e; done)
            | (obtain ⟨_, _, _, e⟩ := qa_bald_inl ha; cases e; done)
            | (obtain ⟨_, _, _, e⟩ := qa_bast_inl ha; cases e; done)
            | (obtain ⟨_, _, _, e⟩ := qa_aald_inl ha; cases e; done)
            | (obtain ⟨_, _, _, e⟩ := qa_alen_inl ha; cases e; done)
            | (obtain ⟨_, _, _, e⟩ := qa_abs_inl ha; cases e; done)
            | (obtain ⟨_, _, _, e⟩ := qa_copy_inl ha; cases e; done)
            | (obtain ⟨_, _, _, e⟩ := qa_slen_inl ha; cases e; done)
            | (obtain ⟨_, _, _, e⟩ := qa_char_inl ha; cases e; done)
            | (obtain ⟨_, _, _, e⟩ := qa_m2_inl _ ha; cases e; done)
            | (obtain ⟨_, _, _, e⟩ := qa_lm2_inl _ ha; cases e; done)
            | (rcases qa_ret_form ha with ⟨_, _, e, _⟩ | ⟨_, _, e, _⟩ | ⟨_, e, _⟩ <;> cases e; done)
            | (unfold qa_icmp at ha; split at ha <;> (try split at ha) <;> cases ha; done)
            | (unfold qa_if at ha; split at ha <;> (try split at ha) <;> cases ha; done)
            | (unfold qa_goto at ha; split at ha <;> cases ha; done)
            | (unfold qa_tsw at ha; split at ha <;> cases ha; done)
            | (unfold qa_lsw at ha; split at ha <;> cases ha; done)
            | (unfold qa_call at ha; split at ha <;> (try split at ha) <;> cases ha; done)
section QSP
variable {p : Program} {l : Launch} {e : Env} {R : Room} {s : State} {m : MethodId} {args : Array Value} {below : List Frame} {meth : Method} {c : Code} {cells slots : Nat} {Q : State → Prop} {H : Heap} {locs : List Loc}
variable {d B0 sb sa sv L mi : Nat} {xs : Nat → Int32} {dC : Nat → ClassId} {dI : Nat → Nat → Nat} {cs : Nat × Nat × Nat × Nat × Nat} {pc n : Nat} {als : Array Slot} {ls st ls' st' : List qm_AV} {h h' : qm_Hp} {x : Instr}
theorem so_call (hk : ∀ m b, qm_blk m b = [] ∨ qk_blk m (qm_bpc m b) (qm_blk m b) = true) (hb0 : ∀ m, qm_bpc m 0 = 0 ∨ m = 241) (hML : ∀ m, m < 241 → qm_maxL m ≤ 30) {n0 : Nat} (IH : qm_SA n0) (X : qm_Cx p R s m args c cells slots (d + 1) mi B0 sb sa sv L xs dC dI cs) (hw : qm_Wd s B0 L xs dC dI cs h H locs) (hl : qm_Lo mi B0 sb sa als ls) (ho : qm_So st) {f a k : Nat} {v : Int} {rv : Option qm_AV} (hd : decode (mC mi) pc = .ok (x, n)) (hq : qkB mi pc (80, [f, a, k], v) x n = true) (hna : a ≤ st.length) (hwid : qm_wid (st.drop a) ≤ 8) (hrk : k = 0 ∨ qm_rk (st.take a).reverse = k) (hlen : (qm_lay (st.take a).reverse).length ≤ qm_maxL f) (hrun : qm_run n0 d f (qm_blk f 0) (qm_ent (qm_maxL f) (st.take a).reverse) [] h = some (rv, h'))
    (kk : ∀ (H1 : Heap) (locs1 : List Loc), qm_Wd s B0 L xs dC dI cs h' H1 locs1 → W p l e R s m args below meth c H1 locs1 cells slots Q (F0 m (pc + 3) als ((qm_push rv (st.drop a)).map (qm_cv B0 sb sa)))) : n = 3 ∧ W p l e R s m args below meth c H locs cells slots Q (F0 m pc als (st.map (qm_cv B0 sb sa))) := by
  have hrv := qm_run_rok _ _ _ _ _ _ _ _ _ hrun
  have hso : qm_So (st.take a).reverse := fun w hw => ho w (List.mem_of_mem_take (List.mem_reverse.mp hw))
  have hstk : st.map (qm_cv B0 sb sa) = ((st.take a).reverse.map (qm_cv B0 sb sa)).reverse ++ (st.drop a).map (qm_cv B0 sb sa) := by
    rw [List.map_reverse, List.reverse_reverse, ← List.map_append, List.take_append_drop]
  have hfr := X.2.2.2.2.2.2.2.2.1
  have hlo := X.2.2.2.2.2.2.2.2.2
  have hWd : 2 * (F0 m pc als (st.map (qm_cv B0 sb sa))).monitorRoom + (((st.drop a).map (qm_cv B0 sb sa)).map fun v => v.category).sum ≤ 8 := by
    rw [qm_wid_cat]
    exact (Nat.zero_add _).symm ▸ hwid
  have hcells : cells + 0 ≤ R.cells ∧ slots + 0 ≤ R.slots := ⟨X.2.2.2.2.2.2.1, X.2.2.2.2.2.2.2.1⟩
  have hpush : qm_rst rv ++ (st.drop a).map (qm_cv B0 sb sa) = (qm_push rv (st.drop a)).map (qm_cv B0 sb sa) := qm_rst_push hrv
  have aft : ∀ {aa : Array Value}, va_Run p l e R s m args below meth c H locs cells slots 0 0 (F0 m pc als (st.map (qm_cv B0 sb sa))) ((st.drop a).map (qm_cv B0 sb sa)) (qm_Qc B0 L xs dC dI cs rv h' aa) (fun q => B0 ≤ q) → W p l e R s m args below meth c H locs cells slots Q (F0 m pc als (st.map (qm_cv B0 sb sa))) := fun hr => so_after hr hw hrv (fun H1 locs1 hw1 => by rw [hpush]; exact kk H1 locs1 hw1)
  have hsize : (F0 m pc als (st.map (qm_cv B0 sb sa))).locals.size = qm_maxL mi := hl.1.1
  simp only [qkB, Bool.or_eq_true, Bool.and_eq_true, decide_eq_true_eq] at hq
  rcases hq with ⟨⟨⟨⟨⟨⟨hn, hx⟩, hf⟩, ha1⟩, hk19⟩, hR⟩, hm⟩ | ⟨⟨⟨⟨hn, hx⟩, hf⟩, hk0⟩, hm⟩
  · subst hn
    refine ⟨rfl, ?_⟩
    rw [hx] at hd
    have hcw := qm_cp_ok _ hf
    have hfM := hML f (qm_cp_lt _ hf)
    have hRm : (qm_rm d).frames + 1 ≤ R.frames ∧ 8 + (qm_maxL f + 11) + (qm_rm d).locals ≤ R.locals := qm_rm_ok hfr hlo hfM
    have hrk : qm_rk (st.take a).reverse = k := hrk.resolve_left (by omega)
    have hlen2 : (st.take a).reverse.length = a := by rw [List.length_reverse, List.length_take]; omega
    generalize hasE : (st.take a).reverse = as at hrun hlen hso hstk hrk hlen2
    rcases as with _ | ⟨r0, as'⟩
    · simp at hlen2; omega
    · rcases r0 with r0 | r0 | ⟨k0, i0⟩
      · simp only [qm_rk] at hrk; omega
      · simp only [qm_rk] at hrk; omega
      · have hrk : k0 = k := hrk
        subst hrk
        have h0 : k0 ≠ 0 := by omega
        have h80 : k0 ≠ 80 := by omega
        have h81 : k0 ≠ 81 := by omega
        have hi := qm_okV_lt (hso.h) h0
        have he := qm_W_at (B0 := B0) (cs := cs) (h := h) hi h80 h81
        rw [qm_cell_o hk19] at he
        have hrecv := va_recv X.2.2.2.2.2.1.1 hw.1 (qm_clss_at hk19) he
        have hM := qm_met hk hb0 IH l hf hlen hso hrun (B0 := B0) (sb := sb) (sa := sa) (sv := sv) (L := L) (xs := xs) (dC := dC) (dI := dI) (cs := cs)
        have hcv : (Sum.inr (Sum.inr (k0, i0)) :: as').map (qm_cv B0 sb sa) = Value.ref (B0 + qm_ad k0 i0) :: as'.map (qm_cv B0 sb sa) := by rw [List.map_cons, qm_cv_P h0 h80 h81]
        have hpre := qm_Wd.pre X hw (as := Sum.inr (Sum.inr (k0, i0)) :: as')
        rw [hcv] at hpre hstk
        have hstk : (F0 m pc als (st.map (qm_cv B0 sb sa))).stack = (as'.map (qm_cv B0 sb sa)).reverse ++ Value.ref (B0 + qm_ad k0 i0) :: (st.drop a).map (qm_cv B0 sb sa) := by
          show st.map (qm_cv B0 sb sa) = _
          rw [hstk, List.reverse_cons, List.append_assoc]
          rfl
        have hn' : (as'.map (qm_cv B0 sb sa)).length = a - 1 := by rw [List.length_map]; simp at hlen2; omega
        rw [show (qm_R k0, qm_T k0, qm_nf k0).1 = (mY f).cls from hR] at hrecv
        rcases hm with hm | hm
        · obtain ⟨⟨m1, m2, m3⟩, m4⟩ := qm_mlk_ok _ hm
          exact aft (va_runV ⟨X.1, X.2.1, X.2.2.1, X.2.2.2.1, X.2.2.2.2.1⟩ hM ⟨callB_of (a - 1) X.2.2.2.2.1 (qm_good hf) rfl rfl rfl (X.2.2.2.2.1 _ m4.tb) (X.2.2.2.2.1 _ m1.tb) ⟨hcw.2.1, hcw.2.2.1, hcw.2.2.2.2⟩ hRm, X.2.2.2.2.1 _ m2.tb, X.2.2.2.2.1 _ m3.tb⟩ ⟨qm_Pc_blind, hrecv, hpre⟩ rfl hn' hsize hstk hWd hd hcells)
        · obtain ⟨⟨m1, m2, m3⟩, m4⟩ := qm_mlk_ok _ hm
          exact aft (va_runVN ⟨X.1, X.2.1, X.2.2.1, X.2.2.2.1, X.2.2.2.2.1⟩ hM ⟨va_cnB (a - 1) X.2.2.2.2.1 (qm_good hf) rfl rfl rfl (X.2.2.2.2.2.1.2.1 _ m1) (X.2.2.2.2.1 _ m4.tb) ⟨hcw.2.1, hcw.2.2.1, hcw.2.2.2.2⟩ hRm, X.2.2.2.2.1 _ m2.tb, X.2.2.2.2.1 _ m3.tb⟩ ⟨qm_Pc_blind, hrecv, hpre⟩ rfl hn' hsize hstk hWd hd hcells)
  · subst hn
    refine ⟨rfl, ?_⟩
    rw [hx] at hd
    have hcw := qm_cp_ok _ hf
    have hfM := hML f (qm_cp_lt _ hf)
    have hRm : (qm_rm d).frames + 1 ≤ R.frames ∧ 8 + (qm_maxL f + 11) + (qm_rm d).locals ≤ R.locals := qm_rm_ok hfr hlo hfM
    have hM := qm_met hk hb0 IH l hf hlen hso hrun (B0 := B0) (sb := sb) (sa := sa) (sv := sv) (L := L) (xs := xs) (dC := dC) (dI := dI) (cs := cs)
    have hn' : ((st.take a).reverse.map (qm_cv B0 sb sa)).length = a := by rw [List.length_map, List.length_reverse, List.length_take]; omega
    rcases hm with hm | hm
    · obtain ⟨⟨m1, m2⟩, m4⟩ := qm_mlk_ok _ hm
      exact aft (va_runS ⟨X.1, X.2.1, X.2.2.1, X.2.2.2.1, X.2.2.2.2.1⟩ hM ⟨callB_of a X.2.2.2.2.1 (qm_good hf) rfl rfl rfl (X.2.2.2.2.1 _ m4.tb) (X.2.2.2.2.1 _ m1.tb) ⟨hcw.2.1, hcw.2.2.1, hcw.2.2.2.2⟩ hRm, X.2.2.2.2.1 _ m2.tb⟩ ⟨qm_Pc_blind, qm_Wd.pre X hw⟩ rfl hn' hsize hstk hWd hd hcells)
    · obtain ⟨⟨m1, m2⟩, m4⟩ := qm_mlk_ok _ hm
      exact aft (va_runSN ⟨X.1, X.2.1, X.2.2.1, X.2.2.2.1, X.2.2.2.2.1⟩ hM ⟨va_cnB a X.2.2.2.2.1 (qm_good hf) rfl rfl rfl (X.2.2.2.2.2.1.2.1 _ m1) (X.2.2.2.2.1 _ m4.tb) ⟨hcw.2.1, hcw.2.2.1, hcw.2.2.2.2⟩ hRm, X.2.2.2.2.1 _ m2.tb, trivial⟩ ⟨qm_Pc_blind, qm_Wd.pre X hw⟩ rfl hn' hsize hstk hWd hd hcells)
end QSP
/-- SOUNDNESS: every run of the machine is a run of the real one -/
theorem qm_sound (hk : ∀ m b, qm_blk m b = [] ∨ qk_blk m (qm_bpc m b) (qm_blk m b) = true) (hb0 : ∀ m, qm_bpc m 0 = 0 ∨ m = 241) (hML : ∀ m, m < 241 → qm_maxL m ≤ 30) : ∀ n, qm_SA n := by
  intro n
  induction n with
  | zero => intro d mi c0 ls st h rv h' hrun; cases hrun
  | succ n ih =>
    intro d mi c0 ls st h rv h' hrun p l e R s m args below meth c cells slots Q H locs B0 sb sa sv L xs dC dI cs pc als X hbl hw hl ho fin
    cases c0 with
    | nil => cases hrun
    | cons i c0 =>
      rw [qm_run] at hrun
      have jump : ∀ (b : Nat) (st' : List qm_AV), qm_run n d mi (qm_blk mi b) ls st' h = some (rv, h') → qm_So st' → W p l e R s m args below meth c H locs cells slots Q (F0 m (qm_bpc mi b) als (st'.map (qm_cv B0 sb sa))) := by
        intro b st' hr ho'
        rcases hk mi b with h0 | h0
        · rw [h0, qm_run_nil] at hr; cases hr
        · exact ih d mi _ ls st' h rv h' hr p l e R s m args below meth c cells slots Q H locs B0 sb sa sv L xs dC dI cs _ als X h0 hw hl ho' fin
      by_cases h64 : i.1 = 64
      · obtain ⟨op, a, v⟩ := i
        have h64 : op = 64 := h64
        subst h64
        rw [qk_blk, if_pos rfl] at hbl
        rcases a with _ | ⟨b, _ | ⟨b2, a⟩⟩
        · cases hbl
        · have hpc : qm_bpc mi b = pc := of_decide_eq_true hbl
          rw [← hpc]
          exact jump b st hrun ho
        · cases hbl
      · rw [qk_blk, if_neg h64] at hbl
        cases hdec : decode (mC mi) pc with
        | error z => rw [hdec] at hbl; cases hbl
        | ok xn =>
          obtain ⟨x, k⟩ := xn
          rw [hdec] at hbl
          simp only [Bool.and_eq_true] at hbl
          obtain ⟨hq, hrest⟩ := hbl
          cases ha : qm_act i ls st h with
          | none => rw [ha] at hrun; cases hrun
          | some r =>
            rw [ha] at hrun
            obtain ⟨op, a, v⟩ := i
            by_cases h70 : op = 70
            · subst h70
              simp only [qkB, Bool.and_eq_true, decide_eq_true_eq] at hq
              obtain ⟨⟨hn, hx⟩, hR⟩ := hq
              subst hn; rw [hx] at hdec
              rcases qa_ret_form (t := 0) ha with ⟨y, rfl, rfl, -⟩ | ⟨_, _, _, z⟩ | ⟨_, _, z⟩
              · cases hrun
                exact fin H locs als pc hw ⟨hdec, Or.inl hR⟩
              · cases z
              · cases z
            · by_cases h71 : op = 71
              · subst h71
                simp only [qkB, Bool.and_eq_true, decide_eq_true_eq] at hq
                obtain ⟨⟨hn, hx⟩, hR⟩ := hq
                subst hn; rw [hx] at hdec
                rcases qa_ret_form (t := 1) ha with ⟨_, _, _, z⟩ | ⟨y, rfl, rfl, -⟩ | ⟨_, _, z⟩
                · rcases z with z | ⟨z, _⟩ <;> cases z
                · cases hrun
                  exact fin H locs als pc hw ⟨hdec, hR⟩
                · cases z
              · by_cases h72 : op = 72
                · subst h72
                  simp only [qkB, Bool.and_eq_true, decide_eq_true_eq] at hq
                  obtain ⟨⟨hn, hx⟩, hR⟩ := hq
                  subst hn; rw [hx] at hdec
                  rcases qa_ret_form (t := 2) ha with ⟨_, _, _, z⟩ | ⟨_, _, _, z⟩ | ⟨rfl, rfl, -⟩
                  · rcases z with z | ⟨z, _⟩ <;> cases z
                  · cases z
                  · cases hrun
                    exact fin H locs als pc hw ⟨hdec, hR⟩
                · by_cases h73 : op = 73
                  · subst h73
                    simp only [qkB, Bool.and_eq_true, decide_eq_true_eq] at hq
                    obtain ⟨⟨hn, hx⟩, hR⟩ := hq
                    subst hn; rw [hx] at hdec
                    rcases qa_ret_form (t := 3) ha with ⟨y, rfl, rfl, z⟩ | ⟨_, _, _, z⟩ | ⟨_, _, z⟩
                    · rcases z with z | ⟨-, z⟩
                      · cases z
                      · cases hrun
                        exact fin H locs als pc hw ⟨hdec, Or.inr ⟨hR, z⟩⟩
                    · cases z
                    · cases z
                  · by_cases h80 : op = 80
                    · subst h80
                      have ha2 : qa_call a st = some r := ha
                      unfold qa_call at ha2
                      split at ha2
                      · next f a0 k0 =>
                        split at ha2
                        · next hg =>
                          cases ha2
                          match d, X, hrun with
                          | 0, _, hrun => cases hrun
                          | d' + 1, X, hrun =>
                            dsimp only at hrun
                            by_cases hlen : (qm_lay (st.take a0).reverse).length ≤ qm_maxL f
                            · rw [if_pos hlen] at hrun
                              cases hcal : qm_run n d' f (qm_blk f 0) (qm_ent (qm_maxL f) (st.take a0).reverse) [] h with
                              | none => rw [hcal] at hrun; cases hrun
                              | some q =>
                                rw [hcal] at hrun
                                obtain ⟨r1, h1⟩ := q
                                have hrun : qm_run n (d' + 1) mi c0 ls (qm_push r1 (st.drop a0)) h1 = some (rv, h') := hrun
                                have hr1 := qm_run_rok _ _ _ _ _ _ _ _ _ hcal
                                have key := so_call (v := v) hk hb0 hML ih X hw hl ho hdec hq hg.1 hg.2.1 hg.2.2 hlen hcal (p := p) (l := l) (e := e) (R := R) (s := s) (m := m) (args := args) (below := below) (meth := meth) (c := c) (cells := cells) (slots := slots) (Q := Q) (fun H1 locs1 hw1 => by
                                  have hk3 : k = 3 := by
                                    simp only [qkB, Bool.or_eq_true, Bool.and_eq_true, decide_eq_true_eq] at hq
                                    rcases hq with ⟨⟨⟨⟨⟨⟨hn, _⟩, _⟩, _⟩, _⟩, _⟩, _⟩ | ⟨⟨⟨⟨hn, _⟩, _⟩, _⟩, _⟩
                                    · exact hn
                                    · exact hn
                                  subst hk3
                                  refine ih (d' + 1) mi c0 ls _ h1 rv h' hrun p l e R s m args below meth c cells slots Q H1 locs1 B0 sb sa sv L xs dC dI cs (pc + 3) als X hrest hw1 hl ?_ fin
                                  match r1, hr1 with
                                  | none, _ => exact fun w hw => ho w (List.mem_of_mem_drop hw)
                                  | some (.inl w), _ => exact qm_So.cons trivial (fun w hw => ho w (List.mem_of_mem_drop hw))
                                  | some (.inr (.inl w)), _ => exact qm_So.cons trivial (fun w hw => ho w (List.mem_of_mem_drop hw))
                                  | some (.inr (.inr q)), hr1 => exact absurd rfl (hr1 q))
                                exact key.2
                            · rw [if_neg hlen] at hrun
                              cases hrun
                        · cases ha2
                      · cases ha2
                    · refine qm_one X hw hl ho hdec hq ⟨h64, h70, h71, h72, h80, h73⟩ ha ?_ ?_
                      · intro ls' st' h1 e1 H1 locs1 als1 hw1 hl1 ho1
                        subst e1
                        exact ih d mi c0 ls' st' h1 rv h' hrun p l e R s m args below meth c cells slots Q H1 locs1 B0 sb sa sv L xs dC dI cs _ als1 X hrest hw1 hl1 ho1 fin
                      · intro b st' e1 ho1
                        subst e1
                        exact jump b st' hrun ho1
