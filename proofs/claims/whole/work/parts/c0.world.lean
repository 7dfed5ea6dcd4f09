/-! worlds in the making: the first N cells -/
def PW (B0 : Nat) (cs : Nat × Nat × Nat × Nat × Nat) (N : Nat) (h : qm_Hp) : va_W := (qm_W B0 cs h).take N
section QNW
variable {B0 N : Nat} {cs : Nat × Nat × Nat × Nat × Nat} {h h' : qm_Hp} {k i : Nat}
theorem PW_at (hi : i < qm_cnt k) (h80 : k ≠ 80) (h81 : k ≠ 81) (hN : qm_ad k i < N) : (PW B0 cs N h)[qm_ad k i]? = some (B0 + qm_ad k i, qm_cell B0 cs h k i) := by
  unfold PW
  rw [List.getElem?_take, if_pos hN]
  exact qm_W_at hi h80 h81
theorem PW_set {e : va_E} (hi : i < qm_cnt k) (h80 : k ≠ 80) (h81 : k ≠ 81) (he : qm_cell B0 cs h' k i = e) (ho : ∀ a b, ¬ (a = k ∧ b = i) → qm_cell B0 cs h' a b = qm_cell B0 cs h a b) : (PW B0 cs N h).set (qm_ad k i) (B0 + qm_ad k i, e) = PW B0 cs N h' := by
  unfold PW
  rw [← qm_W_set hi h80 h81 he ho, List.take_set]
theorem qm_W_n (hN : N < 155) : (qm_W B0 cs h)[N]? = some (B0 + N, qm_cell B0 cs h (qm_desc.getD N (0, 0)).1 (qm_desc.getD N (0, 0)).2) := by
  simp only [qm_W, List.getElem?_map, List.getElem?_range hN, Option.map_some]
theorem PW_push (hN : N < 155) (hd : qm_desc.getD N (0, 0) = (k, i)) : PW B0 cs N h ++ [(B0 + N, qm_cell B0 cs h k i)] = PW B0 cs (N + 1) h := by
  unfold PW
  rw [List.take_succ, qm_W_n hN, hd]
  rfl
theorem PW_all : PW B0 cs 155 h = qm_W B0 cs h := by
  unfold PW
  exact List.take_of_length_le (by simp [qm_W])
/-- cells not yet made are nothing -/
def qn_Z (N : Nat) (h : qm_Hp) : Prop := ∀ q, N ≤ q → q < 155 → ∀ j, zI h (qm_desc.getD q (0, 0)).1 (qm_desc.getD q (0, 0)).2 j = 0 ∧ zL h (qm_desc.getD q (0, 0)).1 (qm_desc.getD q (0, 0)).2 j = 0 ∧ zP h (qm_desc.getD q (0, 0)).1 (qm_desc.getD q (0, 0)).2 j = (0, 0)
theorem qn_Z.uI (hz : qn_Z N h) {k i : Nat} (hN : qm_ad k i < N) (j : Nat) (v : Int32) : qn_Z N (uI h k i j v) := fun q h1 h2 j' => by
  obtain ⟨a, b, c⟩ := hz q h1 h2 j'
  refine ⟨?_, b, c⟩
  rw [zI_uI, if_neg (fun g => ?_)]
  · exact a
  · have := (qm_ad_desc q h2).1
    rw [g.1, g.2.1] at this
    omega
theorem qn_Z.uP (hz : qn_Z N h) {k i : Nat} (hN : qm_ad k i < N) (j : Nat) (v : Nat × Nat) : qn_Z N (uP h k i j v) := fun q h1 h2 j' => by
  obtain ⟨a, b, c⟩ := hz q h1 h2 j'
  refine ⟨a, b, ?_⟩
  rw [zP_uP, if_neg (fun g => ?_)]
  · exact c
  · have := (qm_ad_desc q h2).1
    rw [g.1, g.2.1] at this
    omega
theorem qn_Z.mono (hz : qn_Z N h) {M : Nat} (hM : N ≤ M) : qn_Z M h := fun q h1 h2 j => hz q (Nat.le_trans hM h1) h2 j
end QNW
/-- nest words of constructors -/
def qn_nest : List Cond := [Cond.methodLinkNest "WoodStack" 15 yX4_init "WoodStack", Cond.methodLinkNest "WoodStack" 31 yX2_init "WoodStack", Cond.methodLinkNest "WoodStack$Reader" 11 yX5_init "WoodStack"]
def qn_E (B0 sb sa sv L : Nat) (xs : Nat → Int32) (dC : Nat → ClassId) (dI : Nat → Nat → Nat) (cs : Nat × Nat × Nat × Nat × Nat) (U : State) : Prop := qm_Env B0 sb sa sv L xs dC dI cs U ∧ (∀ w ∈ qn_nest, va_Nw w U) ∧ va_AO "WoodStack$Text" U ∧ va_AO "WoodStack$Pile" U
theorem qn_nest_form : ∀ w ∈ qn_nest, ∃ a i y z, w = Cond.methodLinkNest a i y z := by
  unfold qn_nest
  repeat' first | exact fun _ h => absurd h List.not_mem_nil | refine List.forall_mem_cons.mpr ⟨⟨_, _, _, _, rfl⟩, ?_⟩
section QNE
variable {B0 sb sa sv L : Nat} {xs : Nat → Int32} {dC : Nat → ClassId} {dI : Nat → Nat → Nat} {cs : Nat × Nat × Nat × Nat × Nat} {U V s : State}
theorem qn_E.to (hvm : U.vm = V.vm) (hh : V.heap = U.heap) (E : qn_E B0 sb sa sv L xs dC dI cs U) : qn_E B0 sb sa sv L xs dC dI cs V := by
  have al : U.vm.Alike V.vm := by rw [hvm]; exact Vm.Alike.refl _
  refine ⟨qm_Env.to hvm hh E.1, fun w hw => ?_, E.2.2.1.moved al, E.2.2.2.moved al⟩
  obtain ⟨a, i, y, b, rfl⟩ := qn_nest_form w hw
  exact va_Nw.same rfl hvm (E.2.1 _ hw)
theorem qn_E.warm (hW : s.WarmedH V.vm) (hsz : s.heap.size ≤ V.heap.size) (hk : ∀ q : Nat, q < s.heap.size → ¬ B0 ≤ q → V.heap[q]? = s.heap[q]?) (E : qn_E B0 sb sa sv L xs dC dI cs s) : qn_E B0 sb sa sv L xs dC dI cs V := by
  have al : s.vm.Alike V.vm := hW.alike
  refine ⟨qm_Env.warm hW hsz hk E.1, fun w hw => ?_, E.2.2.1.moved al, E.2.2.2.moved al⟩
  obtain ⟨a, i, y, b, rfl⟩ := qn_nest_form w hw
  exact va_Nw.warmM hW (E.2.1 _ hw)
end QNE
def qn_X (p : Program) (s : State) (m : MethodId) (args : Array Value) (c : Code) (mi B0 sb sa sv L : Nat) (xs : Nat → Int32) (dC : Nat → ClassId) (dI : Nat → Nat → Nat) (cs : Nat × Nat × Nat × Nat × Nat) : Prop :=
  p.tables.exec = Jvm.exec ∧ c.code = mC mi ∧ c.maxLocals = qm_maxL mi ∧ s.vm.findClass (qm_cls (mN mi)) = some m.cls ∧ (∀ w ∈ qm_tb, w.before args s = true) ∧ qn_E B0 sb sa sv L xs dC dI cs s
def qn_W (s : State) (B0 : Nat) (dC : Nat → ClassId) (dI : Nat → Nat → Nat) (cs : Nat × Nat × Nat × Nat × Nat) (N : Nat) (h : qm_Hp) (H : Heap) (locs : List Loc) : Prop :=
  va_P (dC, dI) qm_clss (PW B0 cs N h) H ∧ va_D (fun q => B0 ≤ q) (PW B0 cs N h) ∧ va_S (fun q => B0 ≤ q) s.heap H locs ∧ qn_Z N h
/-- a field's link: the word stands, the field is of this class -/
def qn_FL (mi idx k f : Nat) : Prop := qm_Tb (qm_fw (mN mi, idx, k, f)) ∧ (1 ≤ k ∧ k ≤ 9) ∧ f < qm_nf k ∧ (qm_T k f).1 = qm_R k
section QN
variable {p : Program} {l : Launch} {e : Env} {R : Room} {s : State} {m : MethodId} {args : Array Value} {below : List Frame} {meth : Method} {c : Code} {cells slots : Nat} {Q : State → Prop} {H : Heap} {locs : List Loc}
variable {B0 sb sa sv L mi N : Nat} {xs : Nat → Int32} {dC : Nat → ClassId} {dI : Nat → Nat → Nat} {cs : Nat × Nat × Nat × Nat × Nat} {pc : Nat} {als : Array Slot} {h h' : qm_Hp} {rest : List Value}
theorem n_get (X : qn_X p s m args c mi B0 sb sa sv L xs dC dI cs) (hw : qn_W s B0 dC dI cs N h H locs) {k i f idx : Nat} (hm : qn_FL mi idx k f) (hi : i < qm_cnt k) (hN : qm_ad k i < N) (hd : decode (mC mi) pc = .ok (.getfield idx, 3)) (kk : W p l e R s m args below meth c H locs cells slots Q (F0 m (pc + 3) als (qm_fv B0 h k i f :: rest))) : W p l e R s m args below meth c H locs cells slots Q (F0 m pc als (.ref (B0 + qm_ad k i) :: rest)) := by
  obtain ⟨hb, h19, hf, hT⟩ := hm
  have h80 : k ≠ 80 := by omega
  have h81 : k ≠ 81 := by omega
  have he := PW_at (B0 := B0) (cs := cs) (h := h) hi h80 h81 hN
  rw [qm_cell_o h19] at he
  exact va_get X.1 X.2.1 X.2.2.2.2.1 (qm_lay_in h19) X.2.2.2.1 X.2.2.2.2.2.1.1 hw.1 (qm_ad k i) he (qm_clss_at h19) f hf (X.2.2.2.2.1 _ hb.tb) (fun x hx => by
    rw [hT] at hx; exact hx) (by simp [hf]) hd kk
/-- a change of the cell (k, i) alone -/
theorem qn_W.set (hw : qn_W s B0 dC dI cs N h H locs) {k i : Nat} {e1 : va_E} {H1 : Heap} {locs1 : List Loc} (hi : i < qm_cnt k) (h80 : k ≠ 80) (h81 : k ≠ 81) (he : qm_cell B0 cs h' k i = e1) (ho : ∀ a b, ¬ (a = k ∧ b = i) → qm_cell B0 cs h' a b = qm_cell B0 cs h a b) (hZ : qn_Z N h')
    (p1 : va_P (dC, dI) qm_clss ((PW B0 cs N h).set (qm_ad k i) (B0 + qm_ad k i, e1)) H1) (p2 : va_D (fun q => B0 ≤ q) ((PW B0 cs N h).set (qm_ad k i) (B0 + qm_ad k i, e1))) (p3 : va_S (fun q => B0 ≤ q) s.heap H1 locs1) : qn_W s B0 dC dI cs N h' H1 locs1 := by
  rw [PW_set hi h80 h81 he ho] at p1 p2
  exact ⟨p1, p2, p3, hZ⟩
end QN
