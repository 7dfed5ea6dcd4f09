/-! constructors: steps over a world in the making -/
def dfv (n : Nat) : Value := match n with | 2 => .long 0 | 3 => .null | 4 => .null | _ => .int 0
theorem df_1 : ∀ f, f < 15 → defaultValue (qm_Ty 1 f) = dfv (qm_fk 1 f) := by
  intro f hf
  match f, hf with
  | 0, _ => rfl
  | 1, _ => rfl
  | 2, _ => rfl
  | 3, _ => rfl
  | 4, _ => rfl
  | 5, _ => rfl
  | 6, _ => rfl
  | 7, _ => rfl
  | 8, _ => rfl
  | 9, _ => rfl
  | 10, _ => rfl
  | 11, _ => rfl
  | 12, _ => rfl
  | 13, _ => rfl
  | 14, _ => rfl
  | f + 15, hf => omega
theorem df_2 : ∀ f, f < 13 → defaultValue (qm_Ty 2 f) = dfv (qm_fk 2 f) := by
  intro f hf
  match f, hf with
  | 0, _ => rfl
  | 1, _ => rfl
  | 2, _ => rfl
  | 3, _ => rfl
  | 4, _ => rfl
  | 5, _ => rfl
  | 6, _ => rfl
  | 7, _ => rfl
  | 8, _ => rfl
  | 9, _ => rfl
  | 10, _ => rfl
  | 11, _ => rfl
  | 12, _ => rfl
  | f + 13, hf => omega
theorem df_3 : ∀ f, f < 13 → defaultValue (qm_Ty 3 f) = dfv (qm_fk 3 f) := by
  intro f hf
  match f, hf with
  | 0, _ => rfl
  | 1, _ => rfl
  | 2, _ => rfl
  | 3, _ => rfl
  | 4, _ => rfl
  | 5, _ => rfl
  | 6, _ => rfl
  | 7, _ => rfl
  | 8, _ => rfl
  | 9, _ => rfl
  | 10, _ => rfl
  | 11, _ => rfl
  | 12, _ => rfl
  | f + 13, hf => omega
theorem df_4 : ∀ f, f < 7 → defaultValue (qm_Ty 4 f) = dfv (qm_fk 4 f) := by
  intro f hf
  match f, hf with
  | 0, _ => rfl
  | 1, _ => rfl
  | 2, _ => rfl
  | 3, _ => rfl
  | 4, _ => rfl
  | 5, _ => rfl
  | 6, _ => rfl
  | f + 7, hf => omega
theorem df_5 : ∀ f, f < 3 → defaultValue (qm_Ty 5 f) = dfv (qm_fk 5 f) := by
  intro f hf
  match f, hf with
  | 0, _ => rfl
  | 1, _ => rfl
  | 2, _ => rfl
  | f + 3, hf => omega
theorem df_6 : ∀ f, f < 6 → defaultValue (qm_Ty 6 f) = dfv (qm_fk 6 f) := by
  intro f hf
  match f, hf with
  | 0, _ => rfl
  | 1, _ => rfl
  | 2, _ => rfl
  | 3, _ => rfl
  | 4, _ => rfl
  | 5, _ => rfl
  | f + 6, hf => omega
theorem df_7 : ∀ f, f < 4 → defaultValue (qm_Ty 7 f) = dfv (qm_fk 7 f) := by
  intro f hf
  match f, hf with
  | 0, _ => rfl
  | 1, _ => rfl
  | 2, _ => rfl
  | 3, _ => rfl
  | f + 4, hf => omega
theorem df_8 : ∀ f, f < 5 → defaultValue (qm_Ty 8 f) = dfv (qm_fk 8 f) := by
  intro f hf
  match f, hf with
  | 0, _ => rfl
  | 1, _ => rfl
  | 2, _ => rfl
  | 3, _ => rfl
  | 4, _ => rfl
  | f + 5, hf => omega
theorem df_9 : ∀ f, f < 37 → defaultValue (qm_Ty 9 f) = dfv (qm_fk 9 f) := by
  intro f hf
  match f, hf with
  | 0, _ => rfl
  | 1, _ => rfl
  | 2, _ => rfl
  | 3, _ => rfl
  | 4, _ => rfl
  | 5, _ => rfl
  | 6, _ => rfl
  | 7, _ => rfl
  | 8, _ => rfl
  | 9, _ => rfl
  | 10, _ => rfl
  | 11, _ => rfl
  | 12, _ => rfl
  | 13, _ => rfl
  | 14, _ => rfl
  | 15, _ => rfl
  | 16, _ => rfl
  | 17, _ => rfl
  | 18, _ => rfl
  | 19, _ => rfl
  | 20, _ => rfl
  | 21, _ => rfl
  | 22, _ => rfl
  | 23, _ => rfl
  | 24, _ => rfl
  | 25, _ => rfl
  | 26, _ => rfl
  | 27, _ => rfl
  | 28, _ => rfl
  | 29, _ => rfl
  | 30, _ => rfl
  | 31, _ => rfl
  | 32, _ => rfl
  | 33, _ => rfl
  | 34, _ => rfl
  | 35, _ => rfl
  | 36, _ => rfl
  | f + 37, hf => omega
theorem df_ok {k : Nat} (hk : 1 ≤ k ∧ k ≤ 9) : ∀ f, f < qm_nf k → defaultValue (qm_Ty k f) = dfv (qm_fk k f) := by
  have h : k = 1 ∨ k = 2 ∨ k = 3 ∨ k = 4 ∨ k = 5 ∨ k = 6 ∨ k = 7 ∨ k = 8 ∨ k = 9 := by omega
  rcases h with rfl | rfl | rfl | rfl | rfl | rfl | rfl | rfl | rfl
  · exact df_1
  · exact df_2
  · exact df_3
  · exact df_4
  · exact df_5
  · exact df_6
  · exact df_7
  · exact df_8
  · exact df_9
theorem fv_0 {B0 : Nat} {h : qm_Hp} {k i f : Nat} (h1 : zI h k i f = 0) (h2 : zL h k i f = 0) (h3 : zP h k i f = (0, 0)) : qm_fv B0 h k i f = dfv (qm_fk k f) := by
  unfold qm_fv dfv
  rw [h1, h2, h3]
  generalize qm_fk k f = n
  match n with
  | 0 => rfl
  | 1 => rfl
  | 2 => rfl
  | 3 => exact if_pos rfl
  | 4 => rfl
  | n + 5 => rfl
theorem qn_ai : qm_Tb (Cond.arrayClass (newarray.typeOf .int)) := ⟨qm_in1 60 rfl, rfl⟩
theorem qn_al : qm_Tb (Cond.arrayClass (newarray.typeOf .long)) := ⟨qm_in5 78 rfl, rfl⟩
theorem qn_az : qm_Tb (Cond.arrayClass (newarray.typeOf .boolean)) := ⟨qm_in5 79 rfl, rfl⟩
section QN1
variable {p : Program} {l : Launch} {e : Env} {R : Room} {s : State} {m : MethodId} {args : Array Value} {below : List Frame} {meth : Method} {c : Code} {cells slots : Nat} {Q : State → Prop} {H : Heap} {locs : List Loc}
variable {B0 sb sa sv L mi N : Nat} {xs : Nat → Int32} {dC : Nat → ClassId} {dI : Nat → Nat → Nat} {cs : Nat × Nat × Nat × Nat × Nat} {pc : Nat} {als : Array Slot} {h h' : qm_Hp} {rest : List Value} {g : JFrame}
theorem n_sz (X : qn_X p s m args c mi B0 sb sa sv L xs dC dI cs) (hw : qn_W s B0 dC dI cs N h H locs) (hN : N ≤ 155) (hcn : s.heap.size + cells = B0 + N) (kk : H.size = B0 + N → W p l e R s m args below meth c H locs cells slots Q g) : W p l e R s m args below meth c H locs cells slots Q g := by
  intro T hT X0
  have hle : H.size ≤ s.heap.size + cells := by rw [← hT]; exact X0.heapSize
  have hge : B0 + N ≤ H.size := by
    by_cases q : N = 0
    · subst q
      have h1 : B0 ≤ s.heap.size := X.2.2.2.2.2.1.2.2.2.2.2.1
      have h2 := hw.2.2.1.1
      omega
    · have hx : (PW B0 cs N h)[N - 1]? = some (B0 + (N - 1), qm_cell B0 cs h (qm_desc.getD (N - 1) (0, 0)).1 (qm_desc.getD (N - 1) (0, 0)).2) := by
        unfold PW
        rw [List.getElem?_take, if_pos (by omega)]
        exact qm_W_n (by omega)
      have hl : B0 + (N - 1) < H.size := (hw.1 _ _ hx).lt
      omega
  exact kk (by omega) T hT X0
theorem n_new (X : qn_X p s m args c mi B0 sb sa sv L xs dC dI cs) (hw : qn_W s B0 dC dI cs N h H locs) (hcn : s.heap.size + cells = B0 + N) {k i idx nf : Nat} (hnf : qm_nf k = nf) (hN : N < 155) (hd : qm_desc.getD N (0, 0) = (k, i)) (h19 : 1 ≤ k ∧ k ≤ 9) (hcl : qm_Tb (Cond.classLink (qm_cls (mN mi)) idx (qm_R k))) (hin : qm_Tb (Cond.instantiable (qm_R k) (qm_nf k))) (hit : qm_Tb (Cond.initialized (qm_R k))) (hR : cells + 1 ≤ R.cells ∧ slots + nf ≤ R.slots) (hdg : decode (mC mi) pc = .ok (.new idx, 3))
    (kk : ∀ H1, qn_W s B0 dC dI cs (N + 1) h H1 locs → W p l e R s m args below meth c H1 locs (cells + 1) (slots + nf) Q (F0 m (pc + 3) als (.ref (B0 + N) :: rest))) : W p l e R s m args below meth c H locs cells slots Q (F0 m pc als rest) := by
  subst hnf
  refine n_sz X hw (by omega) hcn fun hs => ?_
  have hts := X.2.2.2.2.1
  have hKn := X.2.2.2.2.2.1.1.1 (qm_ci k) _ (qm_clss_at h19)
  have hz := hw.2.2.2 N (Nat.le_refl _) hN
  rw [hd] at hz
  refine W.newcK X.1 X.2.1 X.2.2.2.1 (hts _ hcl.tb) (hts _ hin.tb) (hts _ hit.tb) rfl hdg hR.1 hR.2 hKn.2.1 hs fun H1 kC hkC e1 z1 o1 => ?_
  refine kk H1 ⟨?_, ?_, ⟨by have := hw.2.2.1.1; omega, fun q h1 h2 => (o1 q (by have := hw.2.2.1.1; omega)).trans (hw.2.2.1.2.1 q h1 h2), hw.2.2.1.2.2⟩, hw.2.2.2.mono (by omega)⟩
  · rw [← PW_push hN hd]
    refine (hw.1.kept (fun j x hx => o1 x.1 (by rw [← hs]; exact (hw.1 j x hx).lt))).app (fun j x hx => ?_)
    have hj : j < 1 := (List.getElem?_eq_some_iff.mp hx).1
    rw [show j = 0 by omega] at hx
    cases hx
    rw [qm_cell_o h19]
    refine ⟨_, qm_clss_at h19, (u_born (qm_Ty k) hts (qm_lay_in h19) hKn hkC e1 (qm_Ty_ok h19)).to (fun f hf => ?_)⟩
    have hf : f < qm_nf k := hf
    rw [df_ok h19 f hf]
    have e2 : vp_V ((List.range (qm_nf k)).map (qm_fv B0 h k i)) f = qm_fv B0 h k i f := by
      unfold vp_V
      rw [List.getD_eq_getElem?_getD, List.getElem?_map, List.getElem?_range hf]
      rfl
    rw [e2, fv_0 (hz f).1 (hz f).2.1 (hz f).2.2]
  · rw [← PW_push hN hd]
    exact hw.2.1.push hw.1 hs.symm (Nat.le_add_right _ _)
/-- an array cell comes -/
theorem qn_W.arr (hw : qn_W s B0 dC dI cs N h H locs) (hs : H.size = B0 + N) {k i : Nat} (hN : N < 155) (hd : qm_desc.getD N (0, 0) = (k, i)) {H1 : Heap} (hat : va_at (dC, dI) qm_clss (B0 + N, qm_cell B0 cs h k i) H1) (z1 : H1.size = B0 + N + 1) (o1 : ∀ q, q < B0 + N → H1[q]? = H[q]?) : qn_W s B0 dC dI cs (N + 1) h H1 locs := by
  refine ⟨?_, ?_, ⟨by have := hw.2.2.1.1; omega, fun q h1 h2 => (o1 q (by have := hw.2.2.1.1; omega)).trans (hw.2.2.1.2.1 q h1 h2), hw.2.2.1.2.2⟩, hw.2.2.2.mono (by omega)⟩
  · rw [← PW_push hN hd]
    refine (hw.1.kept (fun j x hx => o1 x.1 (by rw [← hs]; exact (hw.1 j x hx).lt))).app (fun j x hx => ?_)
    have hj : j < 1 := (List.getElem?_eq_some_iff.mp hx).1
    rw [show j = 0 by omega] at hx
    cases hx
    exact hat
  · rw [← PW_push hN hd]
    exact hw.2.1.push hw.1 hs.symm (Nat.le_add_right _ _)
theorem n_newi (X : qn_X p s m args c mi B0 sb sa sv L xs dC dI cs) (hw : qn_W s B0 dC dI cs N h H locs) (hcn : s.heap.size + cells = B0 + N) {k i n : Nat} (hN : N < 155) (hd : qm_desc.getD N (0, 0) = (k, i)) (hk : qm_ilen qm_z k = n) (hn : 0 < n ∧ n ≤ 4000) {v : Int32} (hv0 : ¬ v < 0) (hvn : v.toNatClampNeg = n) (hR : cells + 1 ≤ R.cells ∧ slots + n ≤ R.slots) (hdg : decode (mC mi) pc = .ok (.newarray .int, 2))
    (kk : ∀ H1, qn_W s B0 dC dI cs (N + 1) h H1 locs → W p l e R s m args below meth c H1 locs (cells + 1) (slots + n) Q (F0 m (pc + 2) als (.ref (B0 + N) :: rest))) : W p l e R s m args below meth c H locs cells slots Q (F0 m pc als (.int v :: rest)) := by
  refine n_sz X hw (by omega) hcn fun hs => ?_
  have hz := hw.2.2.2 N (Nat.le_refl _) hN
  rw [hd] at hz
  refine va_newaK X.1 X.2.1 (X.2.2.2.2.1 _ qn_ai.tb) rfl hdg rfl hv0 hvn (by show n * 4 ≤ _; omega) hR.1 hR.2 hs fun H1 cA e1 z1 o1 hAr hNm => ?_
  refine kk H1 (hw.arr hs hN hd ?_ z1 o1)
  have hc : cA = cs.1 := by
    have h2 := (X.2.2.2.2.2.1.1.2 0 _ rfl).2
    exact Option.some.inj (hNm.symm.trans h2)
  rw [qm_cell_i (by omega), hk]
  show H1[B0 + N]? = some (vp_cell cs.1 (n, .inl (fun j => zI h k i j)))
  rw [vp_cell_i, show (fun j => Value.int (zI h k i j)) = fun _ => Value.int 0 from funext fun j => by rw [(hz j).1], e1, hc]
  rfl
theorem n_newz (X : qn_X p s m args c mi B0 sb sa sv L xs dC dI cs) (hw : qn_W s B0 dC dI cs N h H locs) (hcn : s.heap.size + cells = B0 + N) {k i n : Nat} (hN : N < 155) (hd : qm_desc.getD N (0, 0) = (k, i)) (hk : (k = 67 ∧ n = 330) ∨ (k = 76 ∧ n = 48)) {v : Int32} (hv0 : ¬ v < 0) (hvn : v.toNatClampNeg = n) (hR : cells + 1 ≤ R.cells ∧ slots + n ≤ R.slots) (hdg : decode (mC mi) pc = .ok (.newarray .boolean, 2))
    (kk : ∀ H1, qn_W s B0 dC dI cs (N + 1) h H1 locs → W p l e R s m args below meth c H1 locs (cells + 1) (slots + n) Q (F0 m (pc + 2) als (.ref (B0 + N) :: rest))) : W p l e R s m args below meth c H locs cells slots Q (F0 m pc als (.int v :: rest)) := by
  refine n_sz X hw (by omega) hcn fun hs => ?_
  have hz := hw.2.2.2 N (Nat.le_refl _) hN
  rw [hd] at hz
  refine va_newaK X.1 X.2.1 (X.2.2.2.2.1 _ qn_az.tb) rfl hdg rfl hv0 hvn (by show n * 1 ≤ _; omega) hR.1 hR.2 hs fun H1 cA e1 z1 o1 hAr hNm => ?_
  refine kk H1 (hw.arr hs hN hd ?_ z1 o1)
  have hc : cA = cs.2.2.1 := by
    have h2 := (X.2.2.2.2.2.1.1.2 2 _ rfl).2
    exact Option.some.inj (hNm.symm.trans h2)
  have hb : qm_blen k = n := by rcases hk with ⟨g1, g2⟩ | ⟨g1, g2⟩ <;> subst g1 <;> subst g2 <;> rfl
  rw [qm_cell_b (by omega), hb]
  show H1[B0 + N]? = some (vp_cell cs.2.2.1 (n, .inl (fun j => zI h k i j)))
  rw [vp_cell_i, show (fun j => Value.int (zI h k i j)) = fun _ => Value.int 0 from funext fun j => by rw [(hz j).1], e1, hc]
  rfl
theorem n_newl (X : qn_X p s m args c mi B0 sb sa sv L xs dC dI cs) (hw : qn_W s B0 dC dI cs N h H locs) (hcn : s.heap.size + cells = B0 + N) {i : Nat} (hN : N < 155) (hd : qm_desc.getD N (0, 0) = (66, i)) {v : Int32} (hv0 : ¬ v < 0) (hvn : v.toNatClampNeg = 330) (hR : cells + 1 ≤ R.cells ∧ slots + 330 ≤ R.slots) (hdg : decode (mC mi) pc = .ok (.newarray .long, 2))
    (kk : ∀ H1, qn_W s B0 dC dI cs (N + 1) h H1 locs → W p l e R s m args below meth c H1 locs (cells + 1) (slots + 330) Q (F0 m (pc + 2) als (.ref (B0 + N) :: rest))) : W p l e R s m args below meth c H locs cells slots Q (F0 m pc als (.int v :: rest)) := by
  refine n_sz X hw (by omega) hcn fun hs => ?_
  have hz := hw.2.2.2 N (Nat.le_refl _) hN
  rw [hd] at hz
  refine va_newaK X.1 X.2.1 (X.2.2.2.2.1 _ qn_al.tb) rfl hdg rfl hv0 hvn (by decide) hR.1 hR.2 hs fun H1 cA e1 z1 o1 hAr hNm => ?_
  refine kk H1 (hw.arr hs hN hd ?_ z1 o1)
  have hc : cA = cs.2.1 := by
    have h2 := (X.2.2.2.2.2.1.1.2 1 _ rfl).2
    exact Option.some.inj (hNm.symm.trans h2)
  rw [qm_cell_l]
  show H1[B0 + N]? = some (vp_cell cs.2.1 (330, .inr (.inl (fun j => zL h 66 i j))))
  rw [vp_cell_l, show (fun j => Value.long (zL h 66 i j)) = fun _ => Value.long 0 from funext fun j => by rw [(hz j).2.1], e1, hc]
  rfl
end QN1
