/-! WoodStackLaw.cell over a world in the making -/
def qn_c0 (L : Nat) (xs : Nat → Int32) : Int32 := if 0 < L then xs 0 else 0
def qn_Qi (B0 L : Nat) (xs : Nat → Int32) (dC : Nat → ClassId) (dI : Nat → Nat → Nat) (cs : Nat × Nat × Nat × Nat × Nat) (N : Nat) (h : qm_Hp) : Array Value → State → Outcome → State → Prop :=
  va_Qi (fun r (_ : Unit) => r = qn_c0 L xs) (fun _ t => va_P (dC, dI) qm_clss (PW B0 cs N h) t.heap ∧ va_D (fun q => B0 ≤ q) (PW B0 cs N h) ∧ qn_Z N h) (fun q => B0 ≤ q)
theorem met_cell (l : Launch) {B0 sb sa sv L : Nat} {xs : Nat → Int32} {dC : Nat → ClassId} {dI : Nat → Nat → Nat} {cs : Nat × Nat × Nat × Nat × Nat} {N : Nat} {h : qm_Hp} : Met l (mY 240) (qm_wsm 240) (qn_rm 0 0 0) (qn_Pc B0 sb sa sv L xs dC dI cs [.ref sb, .int (nI 0)] N h) (qn_Qi B0 L xs dC dI cs N h) 0 0 (fun q => B0 ≤ q) := by
  refine Met.ofW (cc := mC 240) (maxL := qm_maxL 240) (ret := mR 240) cw_240.2.2.2.1 rfl ?_
  intro p e s m args below meth c s₁ B hml hv
  obtain ⟨rfl, hE, hP, hD, hs, hZ⟩ := hv
  have hlocks := B.notSynchronized
  have hr := B.returns
  have hx := B.exec
  have hb := B.bytes
  have Ev := hE.1
  have hL : L < 2 ^ 31 := Ev.2.2.2.2.1
  have hS : va_S (fun q => B0 ≤ q) s.heap s.heap [] := va_S.rf
  have h1 : sb < s.heap.size := Nat.lt_of_lt_of_le Ev.2.2.2.1 Ev.2.2.2.2.2.1
  have h2 : ¬ (fun q => B0 ≤ q) sb := Nat.not_le.mpr Ev.2.2.2.1
  have hl : lv_has _ (qm_maxL 240) (lv_args 0 [Value.ref sb, .int (nI 0)]) := lv_entry [Value.ref sb, .int (nI 0)] (n := qm_maxL 240) (Nat.le_of_ble_eq_true rfl)
  rw [lg_entry_eq]
  generalize (lg_sl [Value.ref sb, .int (nI 0)] ++ List.replicate (qm_maxL 240 - (lg_sl [Value.ref sb, .int (nI 0)]).length) Slot.unset).toArray = als at hl ⊢
  refine lv_iload_n hx hb dec_240_0 rfl (lv_at hl 1 rfl) ?_
  refine lv_aload_n hx hb dec_240_1 rfl (lv_at hl 0 rfl) ?_
  refine va_slen hx hb Ev.2.2.1 h1 h2 hS dec_240_2 ?_
  have e0 : (nI L).toInt = L := nI_toInt (by omega)
  refine lv_icmp_ge (tgt := 12) hx hb dec_240_3 rfl (fun hh => ?_) (fun hh => ?_)
  · have hh : nI L ≤ nI 0 := hh
    have hz : ¬ 0 < L := by
      have := Int32.le_iff_toInt_le.mp hh
      rw [e0, show (nI 0).toInt = 0 by decide] at this
      omega
    refine lv_iconst (v := nI 0) hx hb dec_240_12 (by decide) ?_
    exact W.iret (v := nI 0) hx hb (by rw [hr]; rfl) (fun t ht _ => ⟨⟨nI 0, (), rfl, (if_neg hz).symm, by dsimp only; rw [ht]; exact ⟨hP, hD, hZ⟩⟩, hS.F ht⟩) (fun q hq => by cases hq) dec_240_13
  · have hh : ¬ nI L ≤ nI 0 := hh
    have hz : 0 < L := by
      refine Nat.pos_of_ne_zero fun q => hh ?_
      subst q
      exact Int32.le_iff_toInt_le.mpr (Int.le_refl _)
    refine lv_aload_n hx hb dec_240_6 rfl (lv_at hl 0 rfl) ?_
    refine lv_iload_n hx hb dec_240_7 rfl (lv_at hl 1 rfl) ?_
    refine va_sld hx hb Ev.2.2.1 h1 h2 hS (vp_in_nI hz hL) dec_240_8 ?_
    rw [nI_clamp (by decide)]
    refine lv_goto (tgt := 13) hx hb dec_240_9 rfl ?_
    exact W.iret (v := xs 0) hx hb (by rw [hr]; rfl) (fun t ht _ => ⟨⟨xs 0, (), rfl, (if_pos hz).symm, by dsimp only; rw [ht]; exact ⟨hP, hD, hZ⟩⟩, hS.F ht⟩) (fun q hq => by cases hq) dec_240_13
section QNK
variable {p : Program} {l : Launch} {e : Env} {R : Room} {s : State} {m : MethodId} {args : Array Value} {below : List Frame} {meth : Method} {c : Code} {cells slots : Nat} {Q : State → Prop} {H : Heap} {locs : List Loc}
variable {B0 sb sa sv L N : Nat} {xs : Nat → Int32} {dC : Nat → ClassId} {dI : Nat → Nat → Nat} {cs : Nat × Nat × Nat × Nat × Nat} {pc : Nat} {als : Array Slot} {h h' : qm_Hp} {rest : List Value}
theorem n_cell (X : qn_X p s m args c 241 B0 sb sa sv L xs dC dI cs) (hw : qn_W s B0 dC dI cs N h H locs) (hcn : s.heap.size + cells = B0 + N) (hN : N ≤ 155) (hR : 5 ≤ R.frames ∧ 300 ≤ R.locals) (hsz : als.size = qm_maxL 241) (hwid : (rest.map fun v => v.category).sum ≤ 8) (hc : cells ≤ R.cells ∧ slots ≤ R.slots) (hdg : decode (mC 241) pc = .ok (.invokestatic 9, 3))
    (kk : ∀ H1 locs1, qn_W s B0 dC dI cs N h H1 locs1 → W p l e R s m args below meth c H1 locs1 cells slots Q (F0 m (pc + 3) als (.int (qn_c0 L xs) :: rest))) : W p l e R s m args below meth c H locs cells slots Q (F0 m pc als (.int (nI 0) :: .ref sb :: rest)) := by
  refine n_sz X hw hN hcn fun hs => ?_
  have hts := X.2.2.2.2.1
  have hRm : (qn_rm 0 0 0).frames + 1 ≤ R.frames ∧ 8 + (qm_maxL 240 + 11) + (qn_rm 0 0 0).locals ≤ R.locals := ⟨hR.1, by show 8 + (2 + 11) + 256 ≤ _; omega⟩
  have hpre : PreS s H (qn_Pc B0 sb sa sv L xs dC dI cs [.ref sb, .int (nI 0)] N h) [.ref sb, .int (nI 0)] := ⟨qn_Pc_blind, fun U hU hW => ⟨rfl, X.2.2.2.2.2.warm hW (by rw [hU]; exact hw.2.2.1.1) (fun q h1 h2 => by rw [hU]; exact hw.2.2.1.2.1 q h1 h2), by rw [hU]; exact hw.1, hw.2.1, by rw [hU]; exact hs, hw.2.2.2⟩⟩
  have hb := callB_of (R := R) (s := s) (args := args) (own := qm_cls (mN 241)) (index := 9) (y := mY 240) (bytes := mC 240) (maxL := qm_maxL 240) (ret := mR 240) (mc := 0) (ms := 0) (rm := qn_rm 0 0 0) 2 hts (qn_good cw_240) rfl rfl rfl (hts _ mn_240.tb) (hts _ ml_240.tb) ⟨cw_240.2.1, cw_240.2.2.1, cw_240.2.2.2.2⟩ hRm
  have hrn := va_runS (As := [.ref sb, .int (nI 0)]) (rest := rest) (g := F0 m pc als (.int (nI 0) :: .ref sb :: rest)) (cells := cells) (slots := slots) (below := below) (meth := meth) (locs := locs) (e := e) ⟨X.1, X.2.1, X.2.2.1, X.2.2.2.1, hts⟩ (met_cell l (N := N) (h := h)) ⟨hb, hts _ ms_240.tb⟩ hpre rfl rfl hsz rfl ((Nat.zero_add _).symm ▸ hwid) hdg hc
  refine va_calli (a := [Value.ref sb, .int (nI 0)].toArray) hrn hw.2.2.1 (fun q _ z => z) (fun q z => z) (fun r u t H1 locs1 ht al hp hB hsz hk hS => ?_)
  have hp : r = qn_c0 L xs := hp
  subst hp
  have hB : va_P (dC, dI) qm_clss (PW B0 cs N h) t.heap ∧ va_D (fun q => B0 ≤ q) (PW B0 cs N h) ∧ qn_Z N h := hB
  rw [ht] at hB
  exact kk H1 locs1 ⟨hB.1, hB.2.1, hS, hB.2.2⟩
end QNK
