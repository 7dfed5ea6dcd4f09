/-! constructors: contracts begun, calls -/
theorem qn_good {f np : Nat} (hcw : qm_CW f np) : GoodIn qm_tb (qm_wsm f) := fun w hw => by
  rcases List.mem_cons.mp hw with rfl | h
  · exact ⟨hcw.1.tb, good_of_word hcw.1.2⟩
  · exact ⟨h, good_of_word (List.mem_filter.mp h).2⟩
theorem n_met {l : Launch} {f np d mc ms : Nat} {B0 sb sa sv L : Nat} {xs : Nat → Int32} {dC : Nat → ClassId} {dI : Nat → Nat → Nat} {cs : Nat × Nat × Nat × Nat × Nat} {as : List Value} {N N' : Nat} {h h' : qm_Hp} (hcw : qm_CW f np) (hf : f < 242) (hini : (mY f).name = "<init>") (hret : mR f = none) (hlen : (lg_sl as).length ≤ qm_maxL f)
    (body : ∀ (p : Program) (e : Env) (s : State) (m : MethodId) (below : List Frame) (meth : Method) (c : Code) (als : Array Slot), qn_X p s m as.toArray c f B0 sb sa sv L xs dC dI cs → meth.name = "<init>" → s.heap.size + 0 = B0 + N → qn_W s B0 dC dI cs N h s.heap [] → lv_has als (qm_maxL f) (lv_args 0 as) →
      (∀ (pc : Nat) (als1 : Array Slot) (H1 : Heap) (locs1 : List Loc), decode (mC f) pc = .ok (.return_, 1) → qn_W s B0 dC dI cs N' h' H1 locs1 → W p l e (qn_rm d mc ms) s m as.toArray below meth c H1 locs1 mc ms (MQ below (qn_Qc B0 dC dI cs N' h') as.toArray s mc ms (fun q => B0 ≤ q)) (F0 m pc als1 [])) →
      W p l e (qn_rm d mc ms) s m as.toArray below meth c s.heap [] 0 0 (MQ below (qn_Qc B0 dC dI cs N' h') as.toArray s mc ms (fun q => B0 ≤ q)) (F0 m 0 als [])) : qn_M l f d mc ms B0 sb sa sv L xs dC dI cs as N h N' h' := by
  refine Met.ofW (cc := mC f) (maxL := qm_maxL f) (ret := mR f) hcw.2.2.2.1 rfl ?_
  intro p e s m args below meth c s₁ B hml hv
  obtain ⟨rfl, hE, hP, hD, hs, hZ⟩ := hv
  have hlocks := B.notSynchronized
  have hr := B.returns
  have hts := atoms_spec (ws := qm_wsm f) B.pre
  have hown : s.vm.findClass (mY f).cls = some m.cls := findClass_of_methodNamed B.named
  rw [← qm_cls_ok f hf] at hown
  have hin : meth.name = "<init>" := (name_of_methodNamed B.named B.method).1.trans hini
  rw [lg_entry_eq]
  refine body p e s m below meth c _ ⟨B.exec, B.bytes, hml, hown, fun w hw => hts w (List.mem_cons_of_mem _ hw), hE⟩ hin (by omega) ⟨hP, hD, va_S.rf, hZ⟩ (lv_entry as hlen) ?_
  intro pc als1 H1 locs1 hd hw
  exact W.vret B.exec B.bytes (by rw [hr]; exact hret) (fun t ht _ => ⟨⟨(), rfl, trivial, by rw [← ht] at hw; exact ⟨hw.1, hw.2.1, hw.2.2.2⟩⟩, hw.2.2.1.F ht⟩) hw.2.2.1.2.2 hd
section QN4
variable {p : Program} {l : Launch} {e : Env} {R : Room} {s : State} {m : MethodId} {args : Array Value} {below : List Frame} {meth : Method} {c : Code} {cells slots : Nat} {Q : State → Prop} {H : Heap} {locs : List Loc}
variable {B0 sb sa sv L mi N N' : Nat} {xs : Nat → Int32} {dC : Nat → ClassId} {dI : Nat → Nat → Nat} {cs : Nat × Nat × Nat × Nat × Nat} {pc : Nat} {als : Array Slot} {h h' : qm_Hp} {rest stk : List Value} {g : JFrame}
/-- a call of a constructor -/
theorem n_call (X : qn_X p s m args c mi B0 sb sa sv L xs dC dI cs) (hw : qn_W s B0 dC dI cs N h H locs) (hcn : s.heap.size + cells = B0 + N) {f idx np d mc ms a : Nat} {As : List Value} (hM : qn_M l f d mc ms B0 sb sa sv L xs dC dI cs (.ref a :: As) N h N' h') (hN : N ≤ 155) (hcw : qm_CW f np) (hinit : (mY f).name = "<init>") (hret : mR f = none) (hini : qm_Tb (Cond.initialized (mY f).cls)) (hinst : qm_Tb (Cond.instanceMethod (mY f))) (hlk : qm_Tb (Cond.methodLink (qm_cls (mN mi)) idx (mY f)) ∨ Cond.methodLinkNest (qm_cls (mN mi)) idx (mY f) "WoodStack" ∈ qn_nest) (hR : d + 5 ≤ R.frames ∧ 8 + (qm_maxL f + 11) + (64 * d + 256) ≤ R.locals) (hAs : As.length = np) (hsz : als.size = qm_maxL mi) (hst : stk = As.reverse ++ .ref a :: rest) (hwid : (rest.map fun v => v.category).sum ≤ 8) (hc : cells + mc ≤ R.cells ∧ slots + ms ≤ R.slots) (hdg : decode (mC mi) pc = .ok (.invokespecial idx, 3))
    (kk : ∀ H1 locs1, qn_W s B0 dC dI cs N' h' H1 locs1 → W p l e R s m args below meth c H1 locs1 (cells + mc) (slots + ms) Q (F0 m (pc + 3) als rest)) : W p l e R s m args below meth c H locs cells slots Q (F0 m pc als stk) := by
  refine n_sz X hw hN hcn fun hs => ?_
  have hts := X.2.2.2.2.1
  have hRm : (qn_rm d mc ms).frames + 1 ≤ R.frames ∧ 8 + (qm_maxL f + 11) + (qn_rm d mc ms).locals ≤ R.locals := ⟨by show d + 4 + 1 ≤ _; omega, hR.2⟩
  have hpre : PreS s H (qn_Pc B0 sb sa sv L xs dC dI cs (.ref a :: As) N h) (.ref a :: As) := ⟨qn_Pc_blind, fun U hU hW => ⟨rfl, X.2.2.2.2.2.warm hW (by rw [hU]; exact hw.2.2.1.1) (fun q h1 h2 => by rw [hU]; exact hw.2.2.1.2.1 q h1 h2), by rw [hU]; exact hw.1, hw.2.1, by rw [hU]; exact hs, hw.2.2.2⟩⟩
  have aft : va_Run p l e R s m args below meth c H locs cells slots mc ms (F0 m pc als stk) rest (qn_Qc B0 dC dI cs N' h' (Value.ref a :: As).toArray) (fun q => B0 ≤ q) → W p l e R s m args below meth c H locs cells slots Q (F0 m pc als stk) := fun hr =>
    va_callv (a := (Value.ref a :: As).toArray) hr hw.2.2.1 (fun q _ z => z) (fun q z => z) (fun u t H1 locs1 ht al hp hB hsz hk hS => by
      have hB : va_P (dC, dI) qm_clss (PW B0 cs N' h') t.heap ∧ va_D (fun q => B0 ≤ q) (PW B0 cs N' h') ∧ qn_Z N' h' := hB
      rw [ht] at hB
      exact kk H1 locs1 ⟨hB.1, hB.2.1, hS, hB.2.2⟩)
  have hW : 2 * (F0 m pc als stk).monitorRoom + (rest.map fun v => v.category).sum ≤ 8 := (Nat.zero_add _).symm ▸ hwid
  rcases hlk with hlk | hlk
  · have hb := callB_of (R := R) (s := s) (args := args) (own := qm_cls (mN mi)) (index := idx) (y := mY f) (bytes := mC f) (maxL := qm_maxL f) (ret := mR f) (mc := mc) (ms := ms) (rm := qn_rm d mc ms) np hts (qn_good hcw) rfl rfl rfl (hts _ hini.tb) (hts _ hlk.tb) ⟨hcw.2.1, hcw.2.2.1, hcw.2.2.2.2⟩ hRm
    rw [hret] at hb
    exact aft (va_runI ⟨X.1, X.2.1, X.2.2.1, X.2.2.2.1, hts⟩ hM ⟨hb, hinit, hts _ hinst.tb⟩ hpre rfl hAs hsz hst hW hdg hc)
  · have hb := va_cnB (R := R) (s := s) (args := args) (own := qm_cls (mN mi)) (index := idx) (y := mY f) (bytes := mC f) (maxL := qm_maxL f) (ret := mR f) (mc := mc) (ms := ms) (rm := qn_rm d mc ms) np hts (qn_good hcw) rfl rfl rfl (X.2.2.2.2.2.2.1 _ hlk) (hts _ hini.tb) ⟨hcw.2.1, hcw.2.2.1, hcw.2.2.2.2⟩ hRm
    rw [hret] at hb
    exact aft (va_runIN (host := "WoodStack") ⟨X.1, X.2.1, X.2.2.1, X.2.2.2.1, hts⟩ hM ⟨hb, hinit, hts _ hinst.tb⟩ hpre rfl hAs hsz hst hW hdg hc)
end QN4
