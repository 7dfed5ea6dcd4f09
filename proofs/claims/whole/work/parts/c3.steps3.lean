/-! constructors: rows of references, Object's constructor, calls -/
theorem qn_oi : qm_Tb (Cond.instanceMethod Lib.objectInit) := ⟨qm_in1 22 rfl, rfl⟩
theorem qn_oc : qm_Tb (Cond.code Lib.objectInit ⟨#[0xb1]⟩ 1 none) := ⟨qm_in1 23 rfl, rfl⟩
section QN3
variable {p : Program} {l : Launch} {e : Env} {R : Room} {s : State} {m : MethodId} {args : Array Value} {below : List Frame} {meth : Method} {c : Code} {cells slots : Nat} {Q : State → Prop} {H : Heap} {locs : List Loc}
variable {B0 sb sa sv L mi N : Nat} {xs : Nat → Int32} {dC : Nat → ClassId} {dI : Nat → Nat → Nat} {cs : Nat × Nat × Nat × Nat × Nat} {pc : Nat} {als : Array Slot} {h h' : qm_Hp} {rest : List Value} {g : JFrame}
theorem n_newt (X : qn_X p s m args c mi B0 sb sa sv L xs dC dI cs) (hw : qn_W s B0 dC dI cs N h H locs) (hcn : s.heap.size + cells = B0 + N) {idx : Nat} (hN : N < 155) (hd : qm_desc.getD N (0, 0) = (51, 0)) (hcl : qm_Tb (Cond.classLink (qm_cls (mN mi)) idx "WoodStack$Text")) {v : Int32} (hv0 : ¬ v < 0) (hvn : v.toNatClampNeg = 4) (hR : cells + 1 ≤ R.cells ∧ slots + 4 ≤ R.slots) (hdg : decode (mC mi) pc = .ok (.anewarray idx, 3))
    (kk : ∀ H1, qn_W s B0 dC dI cs (N + 1) h H1 locs → W p l e R s m args below meth c H1 locs (cells + 1) (slots + 4) Q (F0 m (pc + 3) als (.ref (B0 + N) :: rest))) : W p l e R s m args below meth c H locs cells slots Q (F0 m pc als (.int v :: rest)) := by
  refine n_sz X hw (by omega) hcn fun hs => ?_
  have hz := hw.2.2.2 N (Nat.le_refl _) hN
  rw [hd] at hz
  refine W.anew X.1 X.2.1 X.2.2.2.1 (X.2.2.2.2.1 _ hcl.tb) (va_AO.use X.2.2.2.2.2.2.2.1) rfl hdg rfl hv0 (by rw [hvn]; decide) hR.1 (by rw [hvn]; exact hR.2) fun cA kA comp f1 f2 f3 f4 => ?_
  rw [hvn, hs]
  have hc : cA = cs.2.2.2.1 := by
    obtain ⟨_, _, _, _, _, h2⟩ := (X.2.2.2.2.2.1.1.2 3 _ rfl).2
    exact Option.some.inj (f1.symm.trans h2)
  refine kk _ (hw.arr hs hN hd ?_ (by rw [Array.size_push, hs]) (fun q hq => by rw [Array.getElem?_push, if_neg (by omega)]))
  show (H.push _)[B0 + N]? = some (vp_cell cs.2.2.2.1 (4, .inr (.inr (.inr (.inr (fun j => if zI h 51 0 j = 0 then none else some (B0 + qm_ad 4 (0 + j))))))))
  rw [vp_cell_q, show (fun j => va_rf (if zI h 51 0 j = 0 then none else some (B0 + qm_ad 4 (0 + j)))) = fun _ => Value.null from funext fun j => by rw [(hz j).1, if_pos rfl]; rfl, ← hs, Array.getElem?_push_size, ← arrV_new, hc]
theorem n_newp (X : qn_X p s m args c mi B0 sb sa sv L xs dC dI cs) (hw : qn_W s B0 dC dI cs N h H locs) (hcn : s.heap.size + cells = B0 + N) {idx : Nat} (hN : N < 155) (hd : qm_desc.getD N (0, 0) = (46, 0)) (hcl : qm_Tb (Cond.classLink (qm_cls (mN mi)) idx "WoodStack$Pile")) {v : Int32} (hv0 : ¬ v < 0) (hvn : v.toNatClampNeg = 5) (hR : cells + 1 ≤ R.cells ∧ slots + 5 ≤ R.slots) (hdg : decode (mC mi) pc = .ok (.anewarray idx, 3))
    (kk : ∀ H1, qn_W s B0 dC dI cs (N + 1) h H1 locs → W p l e R s m args below meth c H1 locs (cells + 1) (slots + 5) Q (F0 m (pc + 3) als (.ref (B0 + N) :: rest))) : W p l e R s m args below meth c H locs cells slots Q (F0 m pc als (.int v :: rest)) := by
  refine n_sz X hw (by omega) hcn fun hs => ?_
  have hz := hw.2.2.2 N (Nat.le_refl _) hN
  rw [hd] at hz
  refine W.anew X.1 X.2.1 X.2.2.2.1 (X.2.2.2.2.1 _ hcl.tb) (va_AO.use X.2.2.2.2.2.2.2.2) rfl hdg rfl hv0 (by rw [hvn]; decide) hR.1 (by rw [hvn]; exact hR.2) fun cA kA comp f1 f2 f3 f4 => ?_
  rw [hvn, hs]
  have hc : cA = cs.2.2.2.2 := by
    obtain ⟨_, _, _, _, _, h2⟩ := (X.2.2.2.2.2.1.1.2 4 _ rfl).2
    exact Option.some.inj (f1.symm.trans h2)
  refine kk _ (hw.arr hs hN hd ?_ (by rw [Array.size_push, hs]) (fun q hq => by rw [Array.getElem?_push, if_neg (by omega)]))
  show (H.push _)[B0 + N]? = some (vp_cell cs.2.2.2.2 (5, .inr (.inr (.inr (.inr (fun j => if zI h 46 0 j = 0 then none else some (B0 + qm_ad 3 (4 + j))))))))
  rw [vp_cell_q, show (fun j => va_rf (if zI h 46 0 j = 0 then none else some (B0 + qm_ad 3 (4 + j)))) = fun _ => Value.null from funext fun j => by rw [(hz j).1, if_pos rfl]; rfl, ← hs, Array.getElem?_push_size, ← arrV_new, hc]
theorem n_astt (X : qn_X p s m args c mi B0 sb sa sv L xs dC dI cs) (hw : qn_W s B0 dC dI cs N h H locs) {j : Nat} (hj : j < 4) (hN : qm_ad 51 0 < N) (hN4 : qm_ad 4 j < N) (hd : decode (mC mi) pc = .ok (.aastore, 1))
    (kk : ∀ H1 locs1, qn_W s B0 dC dI cs N (uI h 51 0 j 1) H1 locs1 → W p l e R s m args below meth c H1 locs1 cells slots Q (F0 m (pc + 1) als rest)) : W p l e R s m args below meth c H locs cells slots Q (F0 m pc als (.ref (B0 + qm_ad 4 j) :: .int (nI j) :: .ref (B0 + qm_ad 51 0) :: rest)) := by
  have he := PW_at (B0 := B0) (cs := cs) (h := h) (k := 51) (i := 0) (by decide) (by decide) (by decide) hN
  have hv := PW_at (B0 := B0) (cs := cs) (h := h) (k := 4) (i := j) (show j < 5 by omega) (by decide) (by decide) hN4
  rw [qm_cell_o (by decide)] at hv
  refine va_astq X.1 X.2.1 X.2.2.2.2.2.1.1 hw.1 hw.2.1 hw.2.2.1 (qm_ad 51 0) 3 (qm_ad 4 j) (qm_ci 4) he rfl hv (qm_clss_at (by decide)) (vp_in_nI hj (by decide)) hd (fun H1 locs1 p1 p2 p3 => ?_)
  refine kk H1 locs1 (hw.set (k := 51) (i := 0) (by decide) (by decide) (by decide) ?_ (fun a b hn => qm_cell_uI hn) (hw.2.2.2.uI hN j 1) p1 p2 p3)
  rw [nI_clamp (by omega)]
  show Sum.inl (cs.2.2.2.1, 4, _) = Sum.inl (cs.2.2.2.1, 4, _)
  congr 7
  funext a
  by_cases q : a = j
  · subst q
    have e9 : zI (uI h 51 0 a 1) 51 0 a = 1 := by rw [zI_uI, if_pos ⟨rfl, rfl, rfl⟩]
    rw [e9, if_neg (show ¬ (1 : Int32) = 0 by decide), Nat.zero_add]
    simp [va_up]
  · have e9 : zI (uI h 51 0 j 1) 51 0 a = zI h 51 0 a := by rw [zI_uI, if_neg (fun z => q z.2.2)]
    rw [e9]
    simp [va_up, q]
theorem n_astp (X : qn_X p s m args c mi B0 sb sa sv L xs dC dI cs) (hw : qn_W s B0 dC dI cs N h H locs) {j : Nat} (hj : j < 5) (hN : qm_ad 46 0 < N) (hN4 : qm_ad 3 (4 + j) < N) (hd : decode (mC mi) pc = .ok (.aastore, 1))
    (kk : ∀ H1 locs1, qn_W s B0 dC dI cs N (uI h 46 0 j 1) H1 locs1 → W p l e R s m args below meth c H1 locs1 cells slots Q (F0 m (pc + 1) als rest)) : W p l e R s m args below meth c H locs cells slots Q (F0 m pc als (.ref (B0 + qm_ad 3 (4 + j)) :: .int (nI j) :: .ref (B0 + qm_ad 46 0) :: rest)) := by
  have he := PW_at (B0 := B0) (cs := cs) (h := h) (k := 46) (i := 0) (by decide) (by decide) (by decide) hN
  have hv := PW_at (B0 := B0) (cs := cs) (h := h) (k := 3) (i := 4 + j) (show 4 + j < 9 by omega) (by decide) (by decide) hN4
  rw [qm_cell_o (by decide)] at hv
  refine va_astq X.1 X.2.1 X.2.2.2.2.2.1.1 hw.1 hw.2.1 hw.2.2.1 (qm_ad 46 0) 4 (qm_ad 3 (4 + j)) (qm_ci 3) he rfl hv (qm_clss_at (by decide)) (vp_in_nI hj (by decide)) hd (fun H1 locs1 p1 p2 p3 => ?_)
  refine kk H1 locs1 (hw.set (k := 46) (i := 0) (by decide) (by decide) (by decide) ?_ (fun a b hn => qm_cell_uI hn) (hw.2.2.2.uI hN j 1) p1 p2 p3)
  rw [nI_clamp (by omega)]
  show Sum.inl (cs.2.2.2.2, 5, _) = Sum.inl (cs.2.2.2.2, 5, _)
  congr 7
  funext a
  by_cases q : a = j
  · subst q
    have e9 : zI (uI h 46 0 a 1) 46 0 a = 1 := by rw [zI_uI, if_pos ⟨rfl, rfl, rfl⟩]
    rw [e9, if_neg (show ¬ (1 : Int32) = 0 by decide)]
    simp [va_up]
  · have e9 : zI (uI h 46 0 j 1) 46 0 a = zI h 46 0 a := by rw [zI_uI, if_neg (fun z => q z.2.2)]
    rw [e9]
    simp [va_up, q]
theorem n_obj (X : qn_X p s m args c mi B0 sb sa sv L xs dC dI cs) {idx a : Nat} (hl : qm_Tb (Cond.methodLink (qm_cls (mN mi)) idx Lib.objectInit)) (hsz : als.size = qm_maxL mi) (hR : 1 ≤ R.frames ∧ 12 ≤ R.locals) (hd : decode (mC mi) pc = .ok (.invokespecial idx, 3))
    (kk : W p l e R s m args below meth c H locs cells slots Q (F0 m (pc + 3) als [])) : W p l e R s m args below meth c H locs cells slots Q (F0 m pc als [.ref a]) := by
  have hts := X.2.2.2.2.1
  exact W.objInit X.1 X.2.1 X.2.2.2.1 (hts _ hl.tb) (hts _ qn_oi.tb) (hts _ qn_oc.tb) rfl (hsz.trans X.2.2.1.symm) rfl hd hR.1 (by show 2 * 0 + 0 + 12 ≤ _; omega) kk
end QN3
/-- a constructor's start: the first N cells of h stand -/
def qn_Pc (B0 sb sa sv L : Nat) (xs : Nat → Int32) (dC : Nat → ClassId) (dI : Nat → Nat → Nat) (cs : Nat × Nat × Nat × Nat × Nat) (as : List Value) (N : Nat) (h : qm_Hp) : Array Value → State → Prop :=
  va_Pc as (fun U => qn_E B0 sb sa sv L xs dC dI cs U ∧ va_P (dC, dI) qm_clss (PW B0 cs N h) U.heap ∧ va_D (fun q => B0 ≤ q) (PW B0 cs N h) ∧ U.heap.size = B0 + N ∧ qn_Z N h)
def qn_Qc (B0 : Nat) (dC : Nat → ClassId) (dI : Nat → Nat → Nat) (cs : Nat × Nat × Nat × Nat × Nat) (N : Nat) (h : qm_Hp) : Array Value → State → Outcome → State → Prop :=
  va_Qv (fun (_ : Unit) => True) (fun _ t => va_P (dC, dI) qm_clss (PW B0 cs N h) t.heap ∧ va_D (fun q => B0 ≤ q) (PW B0 cs N h) ∧ qn_Z N h) (fun q => B0 ≤ q)
theorem qn_Pc_blind {B0 sb sa sv L : Nat} {xs : Nat → Int32} {dC : Nat → ClassId} {dI : Nat → Nat → Nat} {cs : Nat × Nat × Nat × Nat × Nat} {as : List Value} {N : Nat} {h : qm_Hp} : FrameBlind (qn_Pc B0 sb sa sv L xs dC dI cs as N h) := fun a U g mk q => ⟨q.1, qn_E.to (U := U) rfl rfl q.2.1, q.2.2⟩
def qn_rm (d mc ms : Nat) : Room := { frames := d + 4, cells := mc, slots := ms, locals := 64 * d + 256 }
/-- a constructor's contract -/
def qn_M (l : Launch) (f d mc ms B0 sb sa sv L : Nat) (xs : Nat → Int32) (dC : Nat → ClassId) (dI : Nat → Nat → Nat) (cs : Nat × Nat × Nat × Nat × Nat) (as : List Value) (N : Nat) (h : qm_Hp) (N' : Nat) (h' : qm_Hp) : Prop :=
  Met l (mY f) (qm_wsm f) (qn_rm d mc ms) (qn_Pc B0 sb sa sv L xs dC dI cs as N h) (qn_Qc B0 dC dI cs N' h') mc ms (fun q => B0 ≤ q)
