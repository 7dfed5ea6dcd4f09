/-! what a state says stays over calls; a callee's locals; the whole run -/
theorem qm_ent_lv {B0 sb sa : Nat} : ∀ (as : List qm_AV) (j n : Nat) (q : Nat × Value), q ∈ qm_lv B0 sb sa j (qm_lay as ++ List.replicate n qU) → q ∈ lv_args j (as.map (qm_cv B0 sb sa))
  | [], j, n, q, h => by
    exfalso
    obtain ⟨k, v, h1, h2, -⟩ := qm_lv_mem.mp h
    have := List.eq_of_mem_replicate (show v ∈ List.replicate n qU by simpa [qm_lay] using List.mem_of_getElem? h1)
    exact h2 0 this
  | v :: r, j, n, q, h => by
    have ih := fun k => qm_ent_lv (B0 := B0) (sb := sb) (sa := sa) r k n q
    rcases v with x | x | ⟨k, i⟩
    · simp only [qm_lay, List.cons_append, qm_lv, List.mem_cons] at h
      simp only [List.map_cons, lv_args, List.mem_cons]
      rcases h with h | h
      · exact Or.inl h
      · exact Or.inr (ih _ h)
    · simp only [qm_lay, List.cons_append, qm_lv, List.mem_cons, if_pos] at h
      simp only [List.map_cons, lv_args, List.mem_cons]
      rcases h with h | h
      · exact Or.inl h
      · exact Or.inr (ih _ h)
    · simp only [qm_lay, List.cons_append, qm_lv] at h
      have hc : ¬ (qm_cv B0 sb sa (.inr (.inr (k, i)))).category = 2 := by rw [qm_cv_cat]; simp [qm_isL]
      simp only [List.map_cons, lv_args, List.mem_cons, if_neg hc]
      by_cases hk : k = 99
      · rw [if_pos hk] at h
        exact Or.inr (ih _ h)
      · rw [if_neg hk] at h
        rcases List.mem_cons.mp h with h | h
        · exact Or.inl h
        · exact Or.inr (ih _ h)
theorem qm_sl_cons (v : Value) (vs : List Value) : lg_sl (v :: vs) = (if v.category = 2 then [.val v, .second] else [.val v]) ++ lg_sl vs := by simp only [lg_sl, List.flatMap_cons]
theorem qm_lay_len {B0 sb sa : Nat} : ∀ (as : List qm_AV), (lg_sl (as.map (qm_cv B0 sb sa))).length = (qm_lay as).length
  | [] => rfl
  | v :: r => by
    have ih := qm_lay_len (B0 := B0) (sb := sb) (sa := sa) r
    rw [List.map_cons, qm_sl_cons, List.length_append, ih]
    rcases v with x | x | ⟨k, i⟩
    · rw [if_neg (by rw [qm_cv_cat]; simp [qm_isL])]
      simp only [qm_lay, List.length_cons, List.length_nil]
      omega
    · rw [if_pos (by rw [qm_cv_cat]; simp [qm_isL])]
      simp only [qm_lay, List.length_cons, List.length_nil]
      omega
    · rw [if_neg (by rw [qm_cv_cat]; simp [qm_isL])]
      simp only [qm_lay, List.length_cons, List.length_nil]
      omega
theorem qm_lay_all {P : qm_AV → Prop} (hU : P qU) : ∀ (as : List qm_AV), (∀ v ∈ as, P v) → ∀ v ∈ qm_lay as, P v
  | [], _, v, hv => by cases hv
  | w :: r, h, v, hv => by
    have ih := qm_lay_all hU r (fun u hu => h u (List.mem_cons_of_mem _ hu)) v
    have hw := h w List.mem_cons_self
    rcases w with x | x | ⟨k, i⟩
    · simp only [qm_lay, List.mem_cons] at hv
      rcases hv with rfl | hv
      · exact hw
      · exact ih hv
    · simp only [qm_lay, List.mem_cons] at hv
      rcases hv with rfl | rfl | hv
      · exact hw
      · exact hU
      · exact ih hv
    · simp only [qm_lay, List.mem_cons] at hv
      rcases hv with rfl | hv
      · exact hw
      · exact ih hv
theorem qm_Lo_entry {f B0 sb sa : Nat} {as : List qm_AV} (hlen : (qm_lay as).length ≤ qm_maxL f) (ho : qm_So as) : qm_Lo f B0 sb sa ((lg_sl (as.map (qm_cv B0 sb sa)) ++ List.replicate (qm_maxL f - (lg_sl (as.map (qm_cv B0 sb sa))).length) Slot.unset).toArray) (qm_ent (qm_maxL f) as) := by
  have h0 := lv_entry (as.map (qm_cv B0 sb sa)) (n := qm_maxL f) (by rw [qm_lay_len]; exact hlen)
  refine ⟨⟨h0.1, h0.2.1, fun q hq => h0.2.2 q (qm_ent_lv as 0 _ q hq)⟩, ?_, ?_⟩
  · simp [qm_ent]; omega
  · intro v hv
    rcases List.mem_append.mp hv with h | h
    · exact qm_lay_all (P := fun v => v = qU ∨ qm_okV v) (Or.inl rfl) as (fun w hw => Or.inr (ho w hw)) v h
    · exact Or.inl (List.eq_of_mem_replicate h)
/-- where a method returns: which instruction stands there -/
def qm_RetAt (mi pc : Nat) (rv : Option qm_AV) : Prop := match rv with
  | none => decode (mC mi) pc = .ok (.return_, 1) ∧ mR mi = none
  | some (.inl v) => decode (mC mi) pc = .ok (.ireturn, 1) ∧ (mR mi = some .int ∨ (mR mi = some .boolean ∧ (v = 0 ∨ v = 1)))
  | some (.inr (.inl _)) => decode (mC mi) pc = .ok (.lreturn, 1) ∧ mR mi = some .long
  | _ => False
def qm_rst (rv : Option qm_AV) : List Value := match rv with
  | some (.inl v) => [.int v]
  | some (.inr (.inl v)) => [.long v]
  | _ => []
/-- the machine's runs of n steps are the real machine's -/
def qm_SA (n : Nat) : Prop := ∀ (d mi : Nat) (c0 : List qm_Ins) (ls st : List qm_AV) (h : qm_Hp) (rv : Option qm_AV) (h' : qm_Hp), qm_run n d mi c0 ls st h = some (rv, h') →
  ∀ (p : Program) (l : Launch) (e : Env) (R : Room) (s : State) (m : MethodId) (args : Array Value) (below : List Frame) (meth : Method) (c : Code) (cells slots : Nat) (Q : State → Prop) (H : Heap) (locs : List Loc) (B0 sb sa sv L : Nat) (xs : Nat → Int32) (dC : Nat → ClassId) (dI : Nat → Nat → Nat) (cs : Nat × Nat × Nat × Nat × Nat) (pc : Nat) (als : Array Slot),
  qm_Cx p R s m args c cells slots d mi B0 sb sa sv L xs dC dI cs → qk_blk mi pc c0 = true → qm_Wd s B0 L xs dC dI cs h H locs → qm_Lo mi B0 sb sa als ls → qm_So st →
  (∀ (H1 : Heap) (locs1 : List Loc) (als1 : Array Slot) (pc1 : Nat), qm_Wd s B0 L xs dC dI cs h' H1 locs1 → qm_RetAt mi pc1 rv → W p l e R s m args below meth c H1 locs1 cells slots Q (F0 m pc1 als1 (qm_rst rv))) →
  W p l e R s m args below meth c H locs cells slots Q (F0 m pc als (st.map (qm_cv B0 sb sa)))
def qm_rm (d : Nat) : Room := { frames := d + 4, cells := 0, slots := 0, locals := 64 * d + 256 }
def qm_wsm (f : Nat) : List Cond := Cond.code (mY f) (mC f) (qm_maxL f) (mR f) :: qm_tb
/-- a callee's start -/
def qm_Pc (B0 sb sa sv L : Nat) (xs : Nat → Int32) (dC : Nat → ClassId) (dI : Nat → Nat → Nat) (cs : Nat × Nat × Nat × Nat × Nat) (as : List qm_AV) (h : qm_Hp) : Array Value → State → Prop :=
  va_Pc (as.map (qm_cv B0 sb sa)) (fun U => qm_Env B0 sb sa sv L xs dC dI cs U ∧ va_P (dC, dI) qm_clss (qm_W B0 cs h) U.heap ∧ va_D (fun q => B0 ≤ q) (qm_W B0 cs h) ∧ qm_okH h ∧ (∀ j, j < L → zI h 80 0 j = xs j) ∧ zI h 82 0 0 = nI L)
/-- a callee's end -/
def qm_End (B0 L : Nat) (xs : Nat → Int32) (dC : Nat → ClassId) (dI : Nat → Nat → Nat) (cs : Nat × Nat × Nat × Nat × Nat) (h' : qm_Hp) : Unit → State → Prop := fun _ t => va_P (dC, dI) qm_clss (qm_W B0 cs h') t.heap ∧ va_D (fun q => B0 ≤ q) (qm_W B0 cs h') ∧ qm_okH h' ∧ (∀ j, j < L → zI h' 80 0 j = xs j) ∧ zI h' 82 0 0 = nI L
def qm_Qc (B0 L : Nat) (xs : Nat → Int32) (dC : Nat → ClassId) (dI : Nat → Nat → Nat) (cs : Nat × Nat × Nat × Nat × Nat) (rv : Option qm_AV) (h' : qm_Hp) : Array Value → State → Outcome → State → Prop := match rv with
  | some (.inl v) => va_Qi (fun r (_ : Unit) => r = v) (qm_End B0 L xs dC dI cs h') (fun q => B0 ≤ q)
  | some (.inr (.inl v)) => va_Ql (fun r (_ : Unit) => r = v) (qm_End B0 L xs dC dI cs h') (fun q => B0 ≤ q)
  | _ => va_Qv (fun (_ : Unit) => True) (qm_End B0 L xs dC dI cs h') (fun q => B0 ≤ q)
theorem qm_cls_ok : ∀ f, f < 242 → qm_cls (mN f) = (mY f).cls := by decide +kernel
theorem qm_cp_lt : ∀ e ∈ qm_cp, e.1 < 241 := by decide +kernel
theorem qm_Pc_blind {B0 sb sa sv L : Nat} {xs : Nat → Int32} {dC : Nat → ClassId} {dI : Nat → Nat → Nat} {cs : Nat × Nat × Nat × Nat × Nat} {as : List qm_AV} {h : qm_Hp} : FrameBlind (qm_Pc B0 sb sa sv L xs dC dI cs as h) := fun a U g mk q => ⟨q.1, qm_Env.to (U := U) rfl rfl q.2.1, q.2.2⟩
theorem qm_met {n : Nat} (hk : ∀ m b, qm_blk m b = [] ∨ qk_blk m (qm_bpc m b) (qm_blk m b) = true) (hb0 : ∀ m, qm_bpc m 0 = 0 ∨ m = 241) (IH : qm_SA n) (l : Launch) {d f np : Nat} {as : List qm_AV} {h h' : qm_Hp} {rv : Option qm_AV} (hf : (f, np) ∈ qm_cp) (hlen : (qm_lay as).length ≤ qm_maxL f) (hso : qm_So as) (hrun : qm_run n d f (qm_blk f 0) (qm_ent (qm_maxL f) as) [] h = some (rv, h'))
    {B0 sb sa sv L : Nat} {xs : Nat → Int32} {dC : Nat → ClassId} {dI : Nat → Nat → Nat} {cs : Nat × Nat × Nat × Nat × Nat} : Met l (mY f) (qm_wsm f) (qm_rm d) (qm_Pc B0 sb sa sv L xs dC dI cs as h) (qm_Qc B0 L xs dC dI cs rv h') 0 0 (fun q => B0 ≤ q) := by
  have hcw := qm_cp_ok _ hf
  have hf241 : f < 241 := qm_cp_lt _ hf
  refine Met.ofW (cc := mC f) (maxL := qm_maxL f) (ret := mR f) hcw.2.2.2.1 rfl ?_
  intro p e s m args below meth c s₁ B hml hv
  obtain ⟨rfl, hE, hP, hD, hO, hX, hL⟩ := hv
  have hlocks := B.notSynchronized
  have hr := B.returns
  have hts := atoms_spec (ws := qm_wsm f) B.pre
  have hown : s.vm.findClass (mY f).cls = some m.cls := findClass_of_methodNamed B.named
  rw [← qm_cls_ok f (by omega)] at hown
  have hCx : qm_Cx p (headSpec (qm_wsm f) (qm_rm d)).room s m (as.map (qm_cv B0 sb sa)).toArray c 0 0 d f B0 sb sa sv L xs dC dI cs := ⟨B.exec, B.bytes, hml, hown, fun w hw => hts w (List.mem_cons_of_mem _ hw), hE, Nat.le_refl _, Nat.le_refl _, Nat.le_refl _, Nat.le_refl _⟩
  have hbl : qk_blk f 0 (qm_blk f 0) = true := by
    rcases hk f 0 with h0 | h0
    · rw [h0]; rfl
    · rcases hb0 f with h1 | h1
      · rw [h1] at h0; exact h0
      · omega
  rw [lg_entry_eq]
  refine IH d f _ _ _ _ _ _ hrun p l e _ s m _ below meth c 0 0 _ s.heap [] B0 sb sa sv L xs dC dI cs 0 _ hCx hbl ⟨hP, hD, va_S.rf, hO, hX, hL⟩ (qm_Lo_entry hlen hso) (fun v hv => by cases hv) ?_
  intro H1 locs1 als1 pc1 hw hret
  have hfree : ∀ q ∈ locs1, B0 ≤ q.base := hw.2.2.1.2.2
  match rv, hret with
  | none, ⟨hd, hR⟩ => exact W.vret B.exec B.bytes (by rw [hr]; exact hR) (fun t ht _ => ⟨⟨(), rfl, trivial, by rw [← ht] at hw; exact ⟨hw.1, hw.2.1, hw.2.2.2⟩⟩, hw.2.2.1.F ht⟩) hfree hd
  | some (.inl v), ⟨hd, hR⟩ =>
    rcases hR with hR | ⟨hR, hv⟩
    · exact W.iret B.exec B.bytes (by rw [hr]; exact hR) (fun t ht _ => ⟨⟨v, (), rfl, rfl, by rw [← ht] at hw; exact ⟨hw.1, hw.2.1, hw.2.2.2⟩⟩, hw.2.2.1.F ht⟩) hfree hd
    · exact W.zret B.exec B.bytes (by rw [hr]; exact hR) (by rcases hv with rfl | rfl <;> rfl) (fun t ht _ => ⟨⟨v, (), rfl, rfl, by rw [← ht] at hw; exact ⟨hw.1, hw.2.1, hw.2.2.2⟩⟩, hw.2.2.1.F ht⟩) hfree hd
  | some (.inr (.inl v)), ⟨hd, hR⟩ => exact W.lret B.exec B.bytes (by rw [hr]; exact hR) (fun t ht _ => ⟨⟨v, (), rfl, rfl, by rw [← ht] at hw; exact ⟨hw.1, hw.2.1, hw.2.2.2⟩⟩, hw.2.2.1.F ht⟩) hfree hd
  | some (.inr (.inr _)), hF => exact absurd hF (fun z => z)

