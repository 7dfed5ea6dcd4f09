section QST
variable {p : Program} {l : Launch} {e : Env} {R : Room} {s : State} {m : MethodId} {args : Array Value} {below : List Frame} {meth : Method} {c : Code} {cells slots : Nat} {Q : State → Prop} {H : Heap} {locs : List Loc}
variable {d B0 sb sa sv L mi : Nat} {xs : Nat → Int32} {dC : Nat → ClassId} {dI : Nat → Nat → Nat} {cs : Nat × Nat × Nat × Nat × Nat} {pc n : Nat} {als : Array Slot} {ls st ls' st' : List qm_AV} {h h' : qm_Hp} {x : Instr}
theorem so_iadd (X : qm_Cx p R s m args c cells slots d mi B0 sb sa sv L xs dC dI cs) (hw : qm_Wd s B0 L xs dC dI cs h H locs) (hl : qm_Lo mi B0 sb sa als ls) (ho : qm_So st) (hd : decode (mC mi) pc = .ok (.iadd, 1)) (ha : qa_bin (fun x y => x + y) ls st h = some (.inl (ls', st', h'))) (kk : ∀ (H1 : Heap) (locs1 : List Loc) (als1 : Array Slot), qm_Wd s B0 L xs dC dI cs h' H1 locs1 → qm_Lo mi B0 sb sa als1 ls' → qm_So st' → W p l e R s m args below meth c H1 locs1 cells slots Q (F0 m (pc + 1) als1 (st'.map (qm_cv B0 sb sa)))) : W p l e R s m args below meth c H locs cells slots Q (F0 m pc als (st.map (qm_cv B0 sb sa))) := by
  unfold qa_bin at ha
  split at ha
  · next y x r =>
    cases ha
    exact lv_iadd X.1 X.2.1 hd (kk H locs als hw hl (ho.t.t.cons trivial))
  · cases ha
theorem so_isub (X : qm_Cx p R s m args c cells slots d mi B0 sb sa sv L xs dC dI cs) (hw : qm_Wd s B0 L xs dC dI cs h H locs) (hl : qm_Lo mi B0 sb sa als ls) (ho : qm_So st) (hd : decode (mC mi) pc = .ok (.isub, 1)) (ha : qa_bin (fun x y => x - y) ls st h = some (.inl (ls', st', h'))) (kk : ∀ (H1 : Heap) (locs1 : List Loc) (als1 : Array Slot), qm_Wd s B0 L xs dC dI cs h' H1 locs1 → qm_Lo mi B0 sb sa als1 ls' → qm_So st' → W p l e R s m args below meth c H1 locs1 cells slots Q (F0 m (pc + 1) als1 (st'.map (qm_cv B0 sb sa)))) : W p l e R s m args below meth c H locs cells slots Q (F0 m pc als (st.map (qm_cv B0 sb sa))) := by
  unfold qa_bin at ha
  split at ha
  · next y x r =>
    cases ha
    exact lv_isub X.1 X.2.1 hd (kk H locs als hw hl (ho.t.t.cons trivial))
  · cases ha
theorem so_imul (X : qm_Cx p R s m args c cells slots d mi B0 sb sa sv L xs dC dI cs) (hw : qm_Wd s B0 L xs dC dI cs h H locs) (hl : qm_Lo mi B0 sb sa als ls) (ho : qm_So st) (hd : decode (mC mi) pc = .ok (.imul, 1)) (ha : qa_bin (fun x y => x * y) ls st h = some (.inl (ls', st', h'))) (kk : ∀ (H1 : Heap) (locs1 : List Loc) (als1 : Array Slot), qm_Wd s B0 L xs dC dI cs h' H1 locs1 → qm_Lo mi B0 sb sa als1 ls' → qm_So st' → W p l e R s m args below meth c H1 locs1 cells slots Q (F0 m (pc + 1) als1 (st'.map (qm_cv B0 sb sa)))) : W p l e R s m args below meth c H locs cells slots Q (F0 m pc als (st.map (qm_cv B0 sb sa))) := by
  unfold qa_bin at ha
  split at ha
  · next y x r =>
    cases ha
    exact lv_imul X.1 X.2.1 hd (kk H locs als hw hl (ho.t.t.cons trivial))
  · cases ha
theorem so_iand (X : qm_Cx p R s m args c cells slots d mi B0 sb sa sv L xs dC dI cs) (hw : qm_Wd s B0 L xs dC dI cs h H locs) (hl : qm_Lo mi B0 sb sa als ls) (ho : qm_So st) (hd : decode (mC mi) pc = .ok (.iand, 1)) (ha : qa_bin (fun x y => x &&& y) ls st h = some (.inl (ls', st', h'))) (kk : ∀ (H1 : Heap) (locs1 : List Loc) (als1 : Array Slot), qm_Wd s B0 L xs dC dI cs h' H1 locs1 → qm_Lo mi B0 sb sa als1 ls' → qm_So st' → W p l e R s m args below meth c H1 locs1 cells slots Q (F0 m (pc + 1) als1 (st'.map (qm_cv B0 sb sa)))) : W p l e R s m args below meth c H locs cells slots Q (F0 m pc als (st.map (qm_cv B0 sb sa))) := by
  unfold qa_bin at ha
  split at ha
  · next y x r =>
    cases ha
    exact lv_iand X.1 X.2.1 hd (kk H locs als hw hl (ho.t.t.cons trivial))
  · cases ha
theorem so_ior (X : qm_Cx p R s m args c cells slots d mi B0 sb sa sv L xs dC dI cs) (hw : qm_Wd s B0 L xs dC dI cs h H locs) (hl : qm_Lo mi B0 sb sa als ls) (ho : qm_So st) (hd : decode (mC mi) pc = .ok (.ior, 1)) (ha : qa_bin (fun x y => x ||| y) ls st h = some (.inl (ls', st', h'))) (kk : ∀ (H1 : Heap) (locs1 : List Loc) (als1 : Array Slot), qm_Wd s B0 L xs dC dI cs h' H1 locs1 → qm_Lo mi B0 sb sa als1 ls' → qm_So st' → W p l e R s m args below meth c H1 locs1 cells slots Q (F0 m (pc + 1) als1 (st'.map (qm_cv B0 sb sa)))) : W p l e R s m args below meth c H locs cells slots Q (F0 m pc als (st.map (qm_cv B0 sb sa))) := by
  unfold qa_bin at ha
  split at ha
  · next y x r =>
    cases ha
    exact lv_ior X.1 X.2.1 hd (kk H locs als hw hl (ho.t.t.cons trivial))
  · cases ha
theorem so_ishl (X : qm_Cx p R s m args c cells slots d mi B0 sb sa sv L xs dC dI cs) (hw : qm_Wd s B0 L xs dC dI cs h H locs) (hl : qm_Lo mi B0 sb sa als ls) (ho : qm_So st) (hd : decode (mC mi) pc = .ok (.ishl, 1)) (ha : qa_bin (fun x y => x <<< (y &&& 31)) ls st h = some (.inl (ls', st', h'))) (kk : ∀ (H1 : Heap) (locs1 : List Loc) (als1 : Array Slot), qm_Wd s B0 L xs dC dI cs h' H1 locs1 → qm_Lo mi B0 sb sa als1 ls' → qm_So st' → W p l e R s m args below meth c H1 locs1 cells slots Q (F0 m (pc + 1) als1 (st'.map (qm_cv B0 sb sa)))) : W p l e R s m args below meth c H locs cells slots Q (F0 m pc als (st.map (qm_cv B0 sb sa))) := by
  unfold qa_bin at ha
  split at ha
  · next y x r =>
    cases ha
    exact lv_ishl X.1 X.2.1 hd (kk H locs als hw hl (ho.t.t.cons trivial))
  · cases ha
theorem so_ishr (X : qm_Cx p R s m args c cells slots d mi B0 sb sa sv L xs dC dI cs) (hw : qm_Wd s B0 L xs dC dI cs h H locs) (hl : qm_Lo mi B0 sb sa als ls) (ho : qm_So st) (hd : decode (mC mi) pc = .ok (.ishr, 1)) (ha : qa_bin (fun x y => x >>> (y &&& 31)) ls st h = some (.inl (ls', st', h'))) (kk : ∀ (H1 : Heap) (locs1 : List Loc) (als1 : Array Slot), qm_Wd s B0 L xs dC dI cs h' H1 locs1 → qm_Lo mi B0 sb sa als1 ls' → qm_So st' → W p l e R s m args below meth c H1 locs1 cells slots Q (F0 m (pc + 1) als1 (st'.map (qm_cv B0 sb sa)))) : W p l e R s m args below meth c H locs cells slots Q (F0 m pc als (st.map (qm_cv B0 sb sa))) := by
  unfold qa_bin at ha
  split at ha
  · next y x r =>
    cases ha
    exact lv_ishr X.1 X.2.1 hd (kk H locs als hw hl (ho.t.t.cons trivial))
  · cases ha
theorem so_iushr (X : qm_Cx p R s m args c cells slots d mi B0 sb sa sv L xs dC dI cs) (hw : qm_Wd s B0 L xs dC dI cs h H locs) (hl : qm_Lo mi B0 sb sa als ls) (ho : qm_So st) (hd : decode (mC mi) pc = .ok (.iushr, 1)) (ha : qa_bin (fun x y => (x.toUInt32 >>> (y.toUInt32 &&& Int32.toUInt32 31)).toInt32) ls st h = some (.inl (ls', st', h'))) (kk : ∀ (H1 : Heap) (locs1 : List Loc) (als1 : Array Slot), qm_Wd s B0 L xs dC dI cs h' H1 locs1 → qm_Lo mi B0 sb sa als1 ls' → qm_So st' → W p l e R s m args below meth c H1 locs1 cells slots Q (F0 m (pc + 1) als1 (st'.map (qm_cv B0 sb sa)))) : W p l e R s m args below meth c H locs cells slots Q (F0 m pc als (st.map (qm_cv B0 sb sa))) := by
  unfold qa_bin at ha
  split at ha
  · next y x r =>
    cases ha
    exact lv_iushr X.1 X.2.1 hd rfl (kk H locs als hw hl (ho.t.t.cons trivial))
  · cases ha
theorem so_idiv (X : qm_Cx p R s m args c cells slots d mi B0 sb sa sv L xs dC dI cs) (hw : qm_Wd s B0 L xs dC dI cs h H locs) (hl : qm_Lo mi B0 sb sa als ls) (ho : qm_So st) (hd : decode (mC mi) pc = .ok (.idiv, 1)) (ha : qa_div (fun x y => x / y) ls st h = some (.inl (ls', st', h'))) (kk : ∀ (H1 : Heap) (locs1 : List Loc) (als1 : Array Slot), qm_Wd s B0 L xs dC dI cs h' H1 locs1 → qm_Lo mi B0 sb sa als1 ls' → qm_So st' → W p l e R s m args below meth c H1 locs1 cells slots Q (F0 m (pc + 1) als1 (st'.map (qm_cv B0 sb sa)))) : W p l e R s m args below meth c H locs cells slots Q (F0 m pc als (st.map (qm_cv B0 sb sa))) := by
  unfold qa_div at ha
  split at ha
  · next y x r =>
    split at ha
    · cases ha
    · next hg =>
      cases ha
      exact lv_idiv X.1 X.2.1 hd hg (kk H locs als hw hl (ho.t.t.cons trivial))
  · cases ha
theorem so_irem (X : qm_Cx p R s m args c cells slots d mi B0 sb sa sv L xs dC dI cs) (hw : qm_Wd s B0 L xs dC dI cs h H locs) (hl : qm_Lo mi B0 sb sa als ls) (ho : qm_So st) (hd : decode (mC mi) pc = .ok (.irem, 1)) (ha : qa_div (fun x y => x - x / y * y) ls st h = some (.inl (ls', st', h'))) (kk : ∀ (H1 : Heap) (locs1 : List Loc) (als1 : Array Slot), qm_Wd s B0 L xs dC dI cs h' H1 locs1 → qm_Lo mi B0 sb sa als1 ls' → qm_So st' → W p l e R s m args below meth c H1 locs1 cells slots Q (F0 m (pc + 1) als1 (st'.map (qm_cv B0 sb sa)))) : W p l e R s m args below meth c H locs cells slots Q (F0 m pc als (st.map (qm_cv B0 sb sa))) := by
  unfold qa_div at ha
  split at ha
  · next y x r =>
    split at ha
    · cases ha
    · next hg =>
      cases ha
      exact lv_irem X.1 X.2.1 hd hg (kk H locs als hw hl (ho.t.t.cons trivial))
  · cases ha
theorem so_ineg (X : qm_Cx p R s m args c cells slots d mi B0 sb sa sv L xs dC dI cs) (hw : qm_Wd s B0 L xs dC dI cs h H locs) (hl : qm_Lo mi B0 sb sa als ls) (ho : qm_So st) (hd : decode (mC mi) pc = .ok (.ineg, 1)) (ha : qa_neg ls st h = some (.inl (ls', st', h'))) (kk : ∀ (H1 : Heap) (locs1 : List Loc) (als1 : Array Slot), qm_Wd s B0 L xs dC dI cs h' H1 locs1 → qm_Lo mi B0 sb sa als1 ls' → qm_So st' → W p l e R s m args below meth c H1 locs1 cells slots Q (F0 m (pc + 1) als1 (st'.map (qm_cv B0 sb sa)))) : W p l e R s m args below meth c H locs cells slots Q (F0 m pc als (st.map (qm_cv B0 sb sa))) := by
  unfold qa_neg at ha
  split at ha
  · next x r =>
    cases ha
    exact lv_ineg X.1 X.2.1 hd (kk H locs als hw hl (ho.t.cons trivial))
  · cases ha
theorem so_ladd (X : qm_Cx p R s m args c cells slots d mi B0 sb sa sv L xs dC dI cs) (hw : qm_Wd s B0 L xs dC dI cs h H locs) (hl : qm_Lo mi B0 sb sa als ls) (ho : qm_So st) (hd : decode (mC mi) pc = .ok (.ladd, 1)) (ha : qa_lbin (fun x y => x + y) ls st h = some (.inl (ls', st', h'))) (kk : ∀ (H1 : Heap) (locs1 : List Loc) (als1 : Array Slot), qm_Wd s B0 L xs dC dI cs h' H1 locs1 → qm_Lo mi B0 sb sa als1 ls' → qm_So st' → W p l e R s m args below meth c H1 locs1 cells slots Q (F0 m (pc + 1) als1 (st'.map (qm_cv B0 sb sa)))) : W p l e R s m args below meth c H locs cells slots Q (F0 m pc als (st.map (qm_cv B0 sb sa))) := by
  unfold qa_lbin at ha
  split at ha
  · next y x r =>
    cases ha
    exact lv_ladd X.1 X.2.1 hd (kk H locs als hw hl (ho.t.t.cons trivial))
  · cases ha
theorem so_lsub (X : qm_Cx p R s m args c cells slots d mi B0 sb sa sv L xs dC dI cs) (hw : qm_Wd s B0 L xs dC dI cs h H locs) (hl : qm_Lo mi B0 sb sa als ls) (ho : qm_So st) (hd : decode (mC mi) pc = .ok (.lsub, 1)) (ha : qa_lbin (fun x y => x - y) ls st h = some (.inl (ls', st', h'))) (kk : ∀ (H1 : Heap) (locs1 : List Loc) (als1 : Array Slot), qm_Wd s B0 L xs dC dI cs h' H1 locs1 → qm_Lo mi B0 sb sa als1 ls' → qm_So st' → W p l e R s m args below meth c H1 locs1 cells slots Q (F0 m (pc + 1) als1 (st'.map (qm_cv B0 sb sa)))) : W p l e R s m args below meth c H locs cells slots Q (F0 m pc als (st.map (qm_cv B0 sb sa))) := by
  unfold qa_lbin at ha
  split at ha
  · next y x r =>
    cases ha
    exact lv_lsub X.1 X.2.1 hd (kk H locs als hw hl (ho.t.t.cons trivial))
  · cases ha
theorem so_lmul (X : qm_Cx p R s m args c cells slots d mi B0 sb sa sv L xs dC dI cs) (hw : qm_Wd s B0 L xs dC dI cs h H locs) (hl : qm_Lo mi B0 sb sa als ls) (ho : qm_So st) (hd : decode (mC mi) pc = .ok (.lmul, 1)) (ha : qa_lbin (fun x y => x * y) ls st h = some (.inl (ls', st', h'))) (kk : ∀ (H1 : Heap) (locs1 : List Loc) (als1 : Array Slot), qm_Wd s B0 L xs dC dI cs h' H1 locs1 → qm_Lo mi B0 sb sa als1 ls' → qm_So st' → W p l e R s m args below meth c H1 locs1 cells slots Q (F0 m (pc + 1) als1 (st'.map (qm_cv B0 sb sa)))) : W p l e R s m args below meth c H locs cells slots Q (F0 m pc als (st.map (qm_cv B0 sb sa))) := by
  unfold qa_lbin at ha
  split at ha
  · next y x r =>
    cases ha
    exact lv_lmul X.1 X.2.1 hd (kk H locs als hw hl (ho.t.t.cons trivial))
  · cases ha
theorem so_land (X : qm_Cx p R s m args c cells slots d mi B0 sb sa sv L xs dC dI cs) (hw : qm_Wd s B0 L xs dC dI cs h H locs) (hl : qm_Lo mi B0 sb sa als ls) (ho : qm_So st) (hd : decode (mC mi) pc = .ok (.land, 1)) (ha : qa_lbin (fun x y => x &&& y) ls st h = some (.inl (ls', st', h'))) (kk : ∀ (H1 : Heap) (locs1 : List Loc) (als1 : Array Slot), qm_Wd s B0 L xs dC dI cs h' H1 locs1 → qm_Lo mi B0 sb sa als1 ls' → qm_So st' → W p l e R s m args below meth c H1 locs1 cells slots Q (F0 m (pc + 1) als1 (st'.map (qm_cv B0 sb sa)))) : W p l e R s m args below meth c H locs cells slots Q (F0 m pc als (st.map (qm_cv B0 sb sa))) := by
  unfold qa_lbin at ha
  split at ha
  · next y x r =>
    cases ha
    exact lv_land X.1 X.2.1 hd (kk H locs als hw hl (ho.t.t.cons trivial))
  · cases ha
theorem so_lor (X : qm_Cx p R s m args c cells slots d mi B0 sb sa sv L xs dC dI cs) (hw : qm_Wd s B0 L xs dC dI cs h H locs) (hl : qm_Lo mi B0 sb sa als ls) (ho : qm_So st) (hd : decode (mC mi) pc = .ok (.lor, 1)) (ha : qa_lbin (fun x y => x ||| y) ls st h = some (.inl (ls', st', h'))) (kk : ∀ (H1 : Heap) (locs1 : List Loc) (als1 : Array Slot), qm_Wd s B0 L xs dC dI cs h' H1 locs1 → qm_Lo mi B0 sb sa als1 ls' → qm_So st' → W p l e R s m args below meth c H1 locs1 cells slots Q (F0 m (pc + 1) als1 (st'.map (qm_cv B0 sb sa)))) : W p l e R s m args below meth c H locs cells slots Q (F0 m pc als (st.map (qm_cv B0 sb sa))) := by
  unfold qa_lbin at ha
  split at ha
  · next y x r =>
    cases ha
    exact lv_lor X.1 X.2.1 hd (kk H locs als hw hl (ho.t.t.cons trivial))
  · cases ha
theorem so_ldiv (X : qm_Cx p R s m args c cells slots d mi B0 sb sa sv L xs dC dI cs) (hw : qm_Wd s B0 L xs dC dI cs h H locs) (hl : qm_Lo mi B0 sb sa als ls) (ho : qm_So st) (hd : decode (mC mi) pc = .ok (.ldiv, 1)) (ha : qa_ldiv ls st h = some (.inl (ls', st', h'))) (kk : ∀ (H1 : Heap) (locs1 : List Loc) (als1 : Array Slot), qm_Wd s B0 L xs dC dI cs h' H1 locs1 → qm_Lo mi B0 sb sa als1 ls' → qm_So st' → W p l e R s m args below meth c H1 locs1 cells slots Q (F0 m (pc + 1) als1 (st'.map (qm_cv B0 sb sa)))) : W p l e R s m args below meth c H locs cells slots Q (F0 m pc als (st.map (qm_cv B0 sb sa))) := by
  unfold qa_ldiv at ha
  split at ha
  · next y x r =>
    split at ha
    · cases ha
    · next hg =>
      cases ha
      exact lv_ldiv X.1 X.2.1 hd hg (kk H locs als hw hl (ho.t.t.cons trivial))
  · cases ha
theorem so_lneg (X : qm_Cx p R s m args c cells slots d mi B0 sb sa sv L xs dC dI cs) (hw : qm_Wd s B0 L xs dC dI cs h H locs) (hl : qm_Lo mi B0 sb sa als ls) (ho : qm_So st) (hd : decode (mC mi) pc = .ok (.lneg, 1)) (ha : qa_lneg ls st h = some (.inl (ls', st', h'))) (kk : ∀ (H1 : Heap) (locs1 : List Loc) (als1 : Array Slot), qm_Wd s B0 L xs dC dI cs h' H1 locs1 → qm_Lo mi B0 sb sa als1 ls' → qm_So st' → W p l e R s m args below meth c H1 locs1 cells slots Q (F0 m (pc + 1) als1 (st'.map (qm_cv B0 sb sa)))) : W p l e R s m args below meth c H locs cells slots Q (F0 m pc als (st.map (qm_cv B0 sb sa))) := by
  unfold qa_lneg at ha
  split at ha
  · next x r =>
    cases ha
    exact lv_lneg X.1 X.2.1 hd (kk H locs als hw hl (ho.t.cons trivial))
  · cases ha
theorem so_lshl (X : qm_Cx p R s m args c cells slots d mi B0 sb sa sv L xs dC dI cs) (hw : qm_Wd s B0 L xs dC dI cs h H locs) (hl : qm_Lo mi B0 sb sa als ls) (ho : qm_So st) (hd : decode (mC mi) pc = .ok (.lshl, 1)) (ha : qa_lshl ls st h = some (.inl (ls', st', h'))) (kk : ∀ (H1 : Heap) (locs1 : List Loc) (als1 : Array Slot), qm_Wd s B0 L xs dC dI cs h' H1 locs1 → qm_Lo mi B0 sb sa als1 ls' → qm_So st' → W p l e R s m args below meth c H1 locs1 cells slots Q (F0 m (pc + 1) als1 (st'.map (qm_cv B0 sb sa)))) : W p l e R s m args below meth c H locs cells slots Q (F0 m pc als (st.map (qm_cv B0 sb sa))) := by
  unfold qa_lshl at ha
  split at ha
  · next y x r =>
    cases ha
    exact lv_lshl X.1 X.2.1 hd rfl (kk H locs als hw hl (ho.t.t.cons trivial))
  · cases ha
theorem so_lcmp (X : qm_Cx p R s m args c cells slots d mi B0 sb sa sv L xs dC dI cs) (hw : qm_Wd s B0 L xs dC dI cs h H locs) (hl : qm_Lo mi B0 sb sa als ls) (ho : qm_So st) (hd : decode (mC mi) pc = .ok (.lcmp, 1)) (ha : qa_lcmp ls st h = some (.inl (ls', st', h'))) (kk : ∀ (H1 : Heap) (locs1 : List Loc) (als1 : Array Slot), qm_Wd s B0 L xs dC dI cs h' H1 locs1 → qm_Lo mi B0 sb sa als1 ls' → qm_So st' → W p l e R s m args below meth c H1 locs1 cells slots Q (F0 m (pc + 1) als1 (st'.map (qm_cv B0 sb sa)))) : W p l e R s m args below meth c H locs cells slots Q (F0 m pc als (st.map (qm_cv B0 sb sa))) := by
  unfold qa_lcmp at ha
  split at ha
  · next y x r =>
    cases ha
    exact W.lcmp X.1 X.2.1 hd (kk H locs als hw hl (ho.t.t.cons trivial))
  · cases ha
theorem so_i2l (X : qm_Cx p R s m args c cells slots d mi B0 sb sa sv L xs dC dI cs) (hw : qm_Wd s B0 L xs dC dI cs h H locs) (hl : qm_Lo mi B0 sb sa als ls) (ho : qm_So st) (hd : decode (mC mi) pc = .ok (.i2l, 1)) (ha : qa_i2l ls st h = some (.inl (ls', st', h'))) (kk : ∀ (H1 : Heap) (locs1 : List Loc) (als1 : Array Slot), qm_Wd s B0 L xs dC dI cs h' H1 locs1 → qm_Lo mi B0 sb sa als1 ls' → qm_So st' → W p l e R s m args below meth c H1 locs1 cells slots Q (F0 m (pc + 1) als1 (st'.map (qm_cv B0 sb sa)))) : W p l e R s m args below meth c H locs cells slots Q (F0 m pc als (st.map (qm_cv B0 sb sa))) := by
  unfold qa_i2l at ha
  split at ha
  · next x r =>
    cases ha
    exact lv_i2l X.1 X.2.1 hd rfl (kk H locs als hw hl (ho.t.cons trivial))
  · cases ha
theorem so_l2i (X : qm_Cx p R s m args c cells slots d mi B0 sb sa sv L xs dC dI cs) (hw : qm_Wd s B0 L xs dC dI cs h H locs) (hl : qm_Lo mi B0 sb sa als ls) (ho : qm_So st) (hd : decode (mC mi) pc = .ok (.l2i, 1)) (ha : qa_l2i ls st h = some (.inl (ls', st', h'))) (kk : ∀ (H1 : Heap) (locs1 : List Loc) (als1 : Array Slot), qm_Wd s B0 L xs dC dI cs h' H1 locs1 → qm_Lo mi B0 sb sa als1 ls' → qm_So st' → W p l e R s m args below meth c H1 locs1 cells slots Q (F0 m (pc + 1) als1 (st'.map (qm_cv B0 sb sa)))) : W p l e R s m args below meth c H locs cells slots Q (F0 m pc als (st.map (qm_cv B0 sb sa))) := by
  unfold qa_l2i at ha
  split at ha
  · next x r =>
    cases ha
    exact lv_l2i X.1 X.2.1 hd rfl (kk H locs als hw hl (ho.t.cons trivial))
  · cases ha
theorem so_dup (X : qm_Cx p R s m args c cells slots d mi B0 sb sa sv L xs dC dI cs) (hw : qm_Wd s B0 L xs dC dI cs h H locs) (hl : qm_Lo mi B0 sb sa als ls) (ho : qm_So st) (hd : decode (mC mi) pc = .ok (.dup, 1)) (ha : qa_dup ls st h = some (.inl (ls', st', h'))) (kk : ∀ (H1 : Heap) (locs1 : List Loc) (als1 : Array Slot), qm_Wd s B0 L xs dC dI cs h' H1 locs1 → qm_Lo mi B0 sb sa als1 ls' → qm_So st' → W p l e R s m args below meth c H1 locs1 cells slots Q (F0 m (pc + 1) als1 (st'.map (qm_cv B0 sb sa)))) : W p l e R s m args below meth c H locs cells slots Q (F0 m pc als (st.map (qm_cv B0 sb sa))) := by
  unfold qa_dup at ha
  split at ha
  · next v r =>
    split at ha
    · cases ha
    · next hg =>
      cases ha
      exact lv_dup X.1 X.2.1 hd (by rw [qm_cv_cat, if_neg hg]) (kk H locs als hw hl (ho.cons ho.h))
  · cases ha
theorem so_dup2 (X : qm_Cx p R s m args c cells slots d mi B0 sb sa sv L xs dC dI cs) (hw : qm_Wd s B0 L xs dC dI cs h H locs) (hl : qm_Lo mi B0 sb sa als ls) (ho : qm_So st) (hd : decode (mC mi) pc = .ok (.dup2, 1)) (ha : qa_dup2 ls st h = some (.inl (ls', st', h'))) (kk : ∀ (H1 : Heap) (locs1 : List Loc) (als1 : Array Slot), qm_Wd s B0 L xs dC dI cs h' H1 locs1 → qm_Lo mi B0 sb sa als1 ls' → qm_So st' → W p l e R s m args below meth c H1 locs1 cells slots Q (F0 m (pc + 1) als1 (st'.map (qm_cv B0 sb sa)))) : W p l e R s m args below meth c H locs cells slots Q (F0 m pc als (st.map (qm_cv B0 sb sa))) := by
  unfold qa_dup2 at ha
  split at ha
  · next v w r =>
    split at ha
    · cases ha
    · next hg =>
      cases ha
      exact lv_dup2_11 X.1 X.2.1 hd (by rw [qm_cv_cat, if_neg (fun z => hg (Or.inl z))]) (by rw [qm_cv_cat, if_neg (fun z => hg (Or.inr z))]) (kk H locs als hw hl ((ho.cons ho.t.h).cons ho.h))
  · cases ha
theorem so_pop (X : qm_Cx p R s m args c cells slots d mi B0 sb sa sv L xs dC dI cs) (hw : qm_Wd s B0 L xs dC dI cs h H locs) (hl : qm_Lo mi B0 sb sa als ls) (ho : qm_So st) (hd : decode (mC mi) pc = .ok (.pop, 1)) (ha : qa_pop ls st h = some (.inl (ls', st', h'))) (kk : ∀ (H1 : Heap) (locs1 : List Loc) (als1 : Array Slot), qm_Wd s B0 L xs dC dI cs h' H1 locs1 → qm_Lo mi B0 sb sa als1 ls' → qm_So st' → W p l e R s m args below meth c H1 locs1 cells slots Q (F0 m (pc + 1) als1 (st'.map (qm_cv B0 sb sa)))) : W p l e R s m args below meth c H locs cells slots Q (F0 m pc als (st.map (qm_cv B0 sb sa))) := by
  unfold qa_pop at ha
  split at ha
  · next v r =>
    split at ha
    · cases ha
    · next hg =>
      cases ha
      exact lv_pop X.1 X.2.1 hd (by rw [qm_cv_cat, if_neg hg]) (kk H locs als hw hl ho.t)
  · cases ha
theorem so_iconst (X : qm_Cx p R s m args c cells slots d mi B0 sb sa sv L xs dC dI cs) (hw : qm_Wd s B0 L xs dC dI cs h H locs) (hl : qm_Lo mi B0 sb sa als ls) (ho : qm_So st) {v : Int} (hd : decode (mC mi) pc = .ok (.iconst v, 1)) (kk : W p l e R s m args below meth c H locs cells slots Q (F0 m (pc + 1) als ((qI (Int32.ofInt v) :: st).map (qm_cv B0 sb sa)))) : W p l e R s m args below meth c H locs cells slots Q (F0 m pc als (st.map (qm_cv B0 sb sa))) := lv_iconst X.1 X.2.1 hd rfl kk
theorem qm_bip : ∀ v : Int, -128 ≤ v → v ≤ 127 → (Int8.ofInt v).toInt32 = Int32.ofInt v := by
  intro v h1 h2
  apply Int32.toInt_inj.mp
  rw [Int8.toInt_toInt32, Int8.toInt_ofInt_of_le (by omega) (by omega), Int32.toInt_ofInt_of_le (by omega) (by omega)]
theorem qm_sip : ∀ v : Int, -32768 ≤ v → v ≤ 32767 → (Int16.ofInt v).toInt32 = Int32.ofInt v := by
  intro v h1 h2
  apply Int32.toInt_inj.mp
  rw [Int16.toInt_toInt32, Int16.toInt_ofInt_of_le (by omega) (by omega), Int32.toInt_ofInt_of_le (by omega) (by omega)]
theorem so_bipush (X : qm_Cx p R s m args c cells slots d mi B0 sb sa sv L xs dC dI cs) (hw : qm_Wd s B0 L xs dC dI cs h H locs) (hl : qm_Lo mi B0 sb sa als ls) (ho : qm_So st) {v : Int} (hd : decode (mC mi) pc = .ok (.bipush v, 2)) (hv : (Int8.ofInt v).toInt32 = Int32.ofInt v) (kk : W p l e R s m args below meth c H locs cells slots Q (F0 m (pc + 2) als ((qI (Int32.ofInt v) :: st).map (qm_cv B0 sb sa)))) : W p l e R s m args below meth c H locs cells slots Q (F0 m pc als (st.map (qm_cv B0 sb sa))) := lv_bipush X.1 X.2.1 hd hv kk
theorem so_sipush (X : qm_Cx p R s m args c cells slots d mi B0 sb sa sv L xs dC dI cs) (hw : qm_Wd s B0 L xs dC dI cs h H locs) (hl : qm_Lo mi B0 sb sa als ls) (ho : qm_So st) {v : Int} (hd : decode (mC mi) pc = .ok (.sipush v, 3)) (hv : (Int16.ofInt v).toInt32 = Int32.ofInt v) (kk : W p l e R s m args below meth c H locs cells slots Q (F0 m (pc + 3) als ((qI (Int32.ofInt v) :: st).map (qm_cv B0 sb sa)))) : W p l e R s m args below meth c H locs cells slots Q (F0 m pc als (st.map (qm_cv B0 sb sa))) := lv_sipush X.1 X.2.1 hd hv kk
theorem so_iload (X : qm_Cx p R s m args c cells slots d mi B0 sb sa sv L xs dC dI cs) (hw : qm_Wd s B0 L xs dC dI cs h H locs) (hl : qm_Lo mi B0 sb sa als ls) (ho : qm_So st) {k : Nat} (hd : decode (mC mi) pc = .ok (.iload k, 2)) (ha : qa_load [k] 0 ls st h = some (.inl (ls', st', h'))) (kk : ∀ (H1 : Heap) (locs1 : List Loc) (als1 : Array Slot), qm_Wd s B0 L xs dC dI cs h' H1 locs1 → qm_Lo mi B0 sb sa als1 ls' → qm_So st' → W p l e R s m args below meth c H1 locs1 cells slots Q (F0 m (pc + 2) als1 (st'.map (qm_cv B0 sb sa)))) : W p l e R s m args below meth c H locs cells slots Q (F0 m pc als (st.map (qm_cv B0 sb sa))) := by
  unfold qa_load at ha
  dsimp only at ha
  generalize hg : qm_lg ls k = v at ha
  rcases v with v | v | ⟨q, i⟩
  · cases ha
    exact lv_iload X.1 X.2.1 hd (hl.at hg (fun i z => by cases z)) (kk H locs als hw hl (ho.cons trivial))
  · cases ha
  · cases ha
theorem so_iload_n (X : qm_Cx p R s m args c cells slots d mi B0 sb sa sv L xs dC dI cs) (hw : qm_Wd s B0 L xs dC dI cs h H locs) (hl : qm_Lo mi B0 sb sa als ls) (ho : qm_So st) {k : Nat} (hk : k < 4) (hd : decode (mC mi) pc = .ok (.iload_n (Fin.ofNat 4 k), 1)) (ha : qa_load [k] 0 ls st h = some (.inl (ls', st', h'))) (kk : ∀ (H1 : Heap) (locs1 : List Loc) (als1 : Array Slot), qm_Wd s B0 L xs dC dI cs h' H1 locs1 → qm_Lo mi B0 sb sa als1 ls' → qm_So st' → W p l e R s m args below meth c H1 locs1 cells slots Q (F0 m (pc + 1) als1 (st'.map (qm_cv B0 sb sa)))) : W p l e R s m args below meth c H locs cells slots Q (F0 m pc als (st.map (qm_cv B0 sb sa))) := by
  unfold qa_load at ha
  dsimp only at ha
  generalize hg : qm_lg ls k = v at ha
  rcases v with v | v | ⟨q, i⟩
  · cases ha
    exact lv_iload_n X.1 X.2.1 hd (by simp [Fin.ofNat, Nat.mod_eq_of_lt hk]) (hl.at hg (fun i z => by cases z)) (kk H locs als hw hl (ho.cons trivial))
  · cases ha
  · cases ha
theorem so_lload (X : qm_Cx p R s m args c cells slots d mi B0 sb sa sv L xs dC dI cs) (hw : qm_Wd s B0 L xs dC dI cs h H locs) (hl : qm_Lo mi B0 sb sa als ls) (ho : qm_So st) {k : Nat} (hd : decode (mC mi) pc = .ok (.lload k, 2)) (ha : qa_load [k] 1 ls st h = some (.inl (ls', st', h'))) (kk : ∀ (H1 : Heap) (locs1 : List Loc) (als1 : Array Slot), qm_Wd s B0 L xs dC dI cs h' H1 locs1 → qm_Lo mi B0 sb sa als1 ls' → qm_So st' → W p l e R s m args below meth c H1 locs1 cells slots Q (F0 m (pc + 2) als1 (st'.map (qm_cv B0 sb sa)))) : W p l e R s m args below meth c H locs cells slots Q (F0 m pc als (st.map (qm_cv B0 sb sa))) := by
  unfold qa_load at ha
  dsimp only at ha
  generalize hg : qm_lg ls k = v at ha
  rcases v with v | v | ⟨q, i⟩
  · cases ha
  · cases ha
    exact lv_lload X.1 X.2.1 hd (hl.at hg (fun i z => by cases z)) (kk H locs als hw hl (ho.cons trivial))
  · cases ha
theorem so_lload_n (X : qm_Cx p R s m args c cells slots d mi B0 sb sa sv L xs dC dI cs) (hw : qm_Wd s B0 L xs dC dI cs h H locs) (hl : qm_Lo mi B0 sb sa als ls) (ho : qm_So st) {k : Nat} (hk : k < 4) (hd : decode (mC mi) pc = .ok (.lload_n (Fin.ofNat 4 k), 1)) (ha : qa_load [k] 1 ls st h = some (.inl (ls', st', h'))) (kk : ∀ (H1 : Heap) (locs1 : List Loc) (als1 : Array Slot), qm_Wd s B0 L xs dC dI cs h' H1 locs1 → qm_Lo mi B0 sb sa als1 ls' → qm_So st' → W p l e R s m args below meth c H1 locs1 cells slots Q (F0 m (pc + 1) als1 (st'.map (qm_cv B0 sb sa)))) : W p l e R s m args below meth c H locs cells slots Q (F0 m pc als (st.map (qm_cv B0 sb sa))) := by
  unfold qa_load at ha
  dsimp only at ha
  generalize hg : qm_lg ls k = v at ha
  rcases v with v | v | ⟨q, i⟩
  · cases ha
  · cases ha
    exact lv_lload_n X.1 X.2.1 hd (by simp [Fin.ofNat, Nat.mod_eq_of_lt hk]) (hl.at hg (fun i z => by cases z)) (kk H locs als hw hl (ho.cons trivial))
  · cases ha
theorem so_aload (X : qm_Cx p R s m args c cells slots d mi B0 sb sa sv L xs dC dI cs) (hw : qm_Wd s B0 L xs dC dI cs h H locs) (hl : qm_Lo mi B0 sb sa als ls) (ho : qm_So st) {k : Nat} (hd : decode (mC mi) pc = .ok (.aload k, 2)) (ha : qa_load [k] 2 ls st h = some (.inl (ls', st', h'))) (kk : ∀ (H1 : Heap) (locs1 : List Loc) (als1 : Array Slot), qm_Wd s B0 L xs dC dI cs h' H1 locs1 → qm_Lo mi B0 sb sa als1 ls' → qm_So st' → W p l e R s m args below meth c H1 locs1 cells slots Q (F0 m (pc + 2) als1 (st'.map (qm_cv B0 sb sa)))) : W p l e R s m args below meth c H locs cells slots Q (F0 m pc als (st.map (qm_cv B0 sb sa))) := by
  unfold qa_load at ha
  dsimp only at ha
  generalize hg : qm_lg ls k = v at ha
  rcases v with v | v | ⟨q, i⟩
  · cases ha
  · cases ha
  · have ha : (if q = 99 ∨ q = 0 then none else some (.inl (ls, qP q i :: st, h)) : Option qm_Act) = some (.inl (ls', st', h')) := ha
    split at ha
    · cases ha
    · next hz =>
      have hn : ∀ j, (qP q i : qm_AV) ≠ qP 99 j := fun j z => hz (Or.inl (by cases z; rfl))
      have hr := hl.at hg hn
      have hok := hl.ok hg hn
      cases ha
      have h0 : ∃ a : Nat, qm_cv B0 sb sa (qP q i) = .ref a := by
        simp only [qm_cv]
        rw [if_neg (fun z => hz (Or.inr z))]
        split
        · exact ⟨_, rfl⟩
        · split <;> exact ⟨_, rfl⟩
      obtain ⟨a, ea⟩ := h0
      rw [ea] at hr
      have kk := kk H locs als hw hl (ho.cons hok)
      rw [List.map_cons, ea] at kk
      exact lv_aload X.1 X.2.1 hd hr kk
theorem so_aload_n (X : qm_Cx p R s m args c cells slots d mi B0 sb sa sv L xs dC dI cs) (hw : qm_Wd s B0 L xs dC dI cs h H locs) (hl : qm_Lo mi B0 sb sa als ls) (ho : qm_So st) {k : Nat} (hk : k < 4) (hd : decode (mC mi) pc = .ok (.aload_n (Fin.ofNat 4 k), 1)) (ha : qa_load [k] 2 ls st h = some (.inl (ls', st', h'))) (kk : ∀ (H1 : Heap) (locs1 : List Loc) (als1 : Array Slot), qm_Wd s B0 L xs dC dI cs h' H1 locs1 → qm_Lo mi B0 sb sa als1 ls' → qm_So st' → W p l e R s m args below meth c H1 locs1 cells slots Q (F0 m (pc + 1) als1 (st'.map (qm_cv B0 sb sa)))) : W p l e R s m args below meth c H locs cells slots Q (F0 m pc als (st.map (qm_cv B0 sb sa))) := by
  unfold qa_load at ha
  dsimp only at ha
  generalize hg : qm_lg ls k = v at ha
  rcases v with v | v | ⟨q, i⟩
  · cases ha
  · cases ha
  · have ha : (if q = 99 ∨ q = 0 then none else some (.inl (ls, qP q i :: st, h)) : Option qm_Act) = some (.inl (ls', st', h')) := ha
    split at ha
    · cases ha
    · next hz =>
      have hn : ∀ j, (qP q i : qm_AV) ≠ qP 99 j := fun j z => hz (Or.inl (by cases z; rfl))
      have hr := hl.at hg hn
      have hok := hl.ok hg hn
      cases ha
      have h0 : ∃ a : Nat, qm_cv B0 sb sa (qP q i) = .ref a := by
        simp only [qm_cv]
        rw [if_neg (fun z => hz (Or.inr z))]
        split
        · exact ⟨_, rfl⟩
        · split <;> exact ⟨_, rfl⟩
      obtain ⟨a, ea⟩ := h0
      rw [ea] at hr
      have kk := kk H locs als hw hl (ho.cons hok)
      rw [List.map_cons, ea] at kk
      exact lv_aload_n X.1 X.2.1 hd (by simp [Fin.ofNat, Nat.mod_eq_of_lt hk]) hr kk
theorem so_istore (X : qm_Cx p R s m args c cells slots d mi B0 sb sa sv L xs dC dI cs) (hw : qm_Wd s B0 L xs dC dI cs h H locs) (hl : qm_Lo mi B0 sb sa als ls) (ho : qm_So st) {k : Nat} (hd : decode (mC mi) pc = .ok (.istore k, 2)) (ha : qa_store [k] 0 ls st h = some (.inl (ls', st', h'))) (kk : ∀ (H1 : Heap) (locs1 : List Loc) (als1 : Array Slot), qm_Wd s B0 L xs dC dI cs h' H1 locs1 → qm_Lo mi B0 sb sa als1 ls' → qm_So st' → W p l e R s m args below meth c H1 locs1 cells slots Q (F0 m (pc + 2) als1 (st'.map (qm_cv B0 sb sa)))) : W p l e R s m args below meth c H locs cells slots Q (F0 m pc als (st.map (qm_cv B0 sb sa))) := by
  unfold qa_store at ha
  dsimp only at ha
  rcases st with _ | ⟨v, r⟩
  · cases ha
  · rcases v with v | v | ⟨q, i⟩
    · have ha : (if k < ls.length then some (.inl (qm_s1 ls k (qI v), r, h)) else none : Option qm_Act) = some (.inl (ls', st', h')) := ha
      split at ha
      · next hg =>
        cases ha
        exact lv_istore X.1 X.2.1 hd hl.1 (by have := hl.2.1; omega) rfl (fun a hA => kk H locs a hw (hl.s1 hg trivial hA) ho.t)
      · cases ha
    · cases ha
    · cases ha
theorem so_istore_n (X : qm_Cx p R s m args c cells slots d mi B0 sb sa sv L xs dC dI cs) (hw : qm_Wd s B0 L xs dC dI cs h H locs) (hl : qm_Lo mi B0 sb sa als ls) (ho : qm_So st) {k : Nat} (hk : k < 4) (hd : decode (mC mi) pc = .ok (.istore_n (Fin.ofNat 4 k), 1)) (ha : qa_store [k] 0 ls st h = some (.inl (ls', st', h'))) (kk : ∀ (H1 : Heap) (locs1 : List Loc) (als1 : Array Slot), qm_Wd s B0 L xs dC dI cs h' H1 locs1 → qm_Lo mi B0 sb sa als1 ls' → qm_So st' → W p l e R s m args below meth c H1 locs1 cells slots Q (F0 m (pc + 1) als1 (st'.map (qm_cv B0 sb sa)))) : W p l e R s m args below meth c H locs cells slots Q (F0 m pc als (st.map (qm_cv B0 sb sa))) := by
  unfold qa_store at ha
  dsimp only at ha
  rcases st with _ | ⟨v, r⟩
  · cases ha
  · rcases v with v | v | ⟨q, i⟩
    · have ha : (if k < ls.length then some (.inl (qm_s1 ls k (qI v), r, h)) else none : Option qm_Act) = some (.inl (ls', st', h')) := ha
      split at ha
      · next hg =>
        cases ha
        exact lv_istore_n X.1 X.2.1 hd (by simp [Fin.ofNat, Nat.mod_eq_of_lt hk]) hl.1 (by have := hl.2.1; omega) rfl (fun a hA => kk H locs a hw (hl.s1 hg trivial hA) ho.t)
      · cases ha
    · cases ha
    · cases ha
theorem so_lstore (X : qm_Cx p R s m args c cells slots d mi B0 sb sa sv L xs dC dI cs) (hw : qm_Wd s B0 L xs dC dI cs h H locs) (hl : qm_Lo mi B0 sb sa als ls) (ho : qm_So st) {k : Nat} (hd : decode (mC mi) pc = .ok (.lstore k, 2)) (ha : qa_store [k] 1 ls st h = some (.inl (ls', st', h'))) (kk : ∀ (H1 : Heap) (locs1 : List Loc) (als1 : Array Slot), qm_Wd s B0 L xs dC dI cs h' H1 locs1 → qm_Lo mi B0 sb sa als1 ls' → qm_So st' → W p l e R s m args below meth c H1 locs1 cells slots Q (F0 m (pc + 2) als1 (st'.map (qm_cv B0 sb sa)))) : W p l e R s m args below meth c H locs cells slots Q (F0 m pc als (st.map (qm_cv B0 sb sa))) := by
  unfold qa_store at ha
  dsimp only at ha
  rcases st with _ | ⟨v, r⟩
  · cases ha
  · rcases v with v | v | ⟨q, i⟩
    · cases ha
    · have ha : (if k + 1 < ls.length then some (.inl (qm_s2 ls k (qL v), r, h)) else none : Option qm_Act) = some (.inl (ls', st', h')) := ha
      split at ha
      · next hg =>
        cases ha
        exact lv_lstore X.1 X.2.1 hd hl.1 (by have := hl.2.1; omega) rfl (fun a hA => kk H locs a hw (hl.s2 hg trivial hA) ho.t)
      · cases ha
    · cases ha
theorem so_lstore_n (X : qm_Cx p R s m args c cells slots d mi B0 sb sa sv L xs dC dI cs) (hw : qm_Wd s B0 L xs dC dI cs h H locs) (hl : qm_Lo mi B0 sb sa als ls) (ho : qm_So st) {k : Nat} (hk : k < 4) (hd : decode (mC mi) pc = .ok (.lstore_n (Fin.ofNat 4 k), 1)) (ha : qa_store [k] 1 ls st h = some (.inl (ls', st', h'))) (kk : ∀ (H1 : Heap) (locs1 : List Loc) (als1 : Array Slot), qm_Wd s B0 L xs dC dI cs h' H1 locs1 → qm_Lo mi B0 sb sa als1 ls' → qm_So st' → W p l e R s m args below meth c H1 locs1 cells slots Q (F0 m (pc + 1) als1 (st'.map (qm_cv B0 sb sa)))) : W p l e R s m args below meth c H locs cells slots Q (F0 m pc als (st.map (qm_cv B0 sb sa))) := by
  unfold qa_store at ha
  dsimp only at ha
  rcases st with _ | ⟨v, r⟩
  · cases ha
  · rcases v with v | v | ⟨q, i⟩
    · cases ha
    · have ha : (if k + 1 < ls.length then some (.inl (qm_s2 ls k (qL v), r, h)) else none : Option qm_Act) = some (.inl (ls', st', h')) := ha
      split at ha
      · next hg =>
        cases ha
        exact lv_lstore_n X.1 X.2.1 hd (by simp [Fin.ofNat, Nat.mod_eq_of_lt hk]) hl.1 (by have := hl.2.1; omega) rfl (fun a hA => kk H locs a hw (hl.s2 hg trivial hA) ho.t)
      · cases ha
    · cases ha
theorem so_astore (X : qm_Cx p R s m args c cells slots d mi B0 sb sa sv L xs dC dI cs) (hw : qm_Wd s B0 L xs dC dI cs h H locs) (hl : qm_Lo mi B0 sb sa als ls) (ho : qm_So st) {k : Nat} (hd : decode (mC mi) pc = .ok (.astore k, 2)) (ha : qa_store [k] 2 ls st h = some (.inl (ls', st', h'))) (kk : ∀ (H1 : Heap) (locs1 : List Loc) (als1 : Array Slot), qm_Wd s B0 L xs dC dI cs h' H1 locs1 → qm_Lo mi B0 sb sa als1 ls' → qm_So st' → W p l e R s m args below meth c H1 locs1 cells slots Q (F0 m (pc + 2) als1 (st'.map (qm_cv B0 sb sa)))) : W p l e R s m args below meth c H locs cells slots Q (F0 m pc als (st.map (qm_cv B0 sb sa))) := by
  unfold qa_store at ha
  dsimp only at ha
  rcases st with _ | ⟨v, r⟩
  · cases ha
  · rcases v with v | v | ⟨q, i⟩
    · cases ha
    · cases ha
    · have ha : (if q = 0 then none else if k < ls.length then some (.inl (qm_s1 ls k (qP q i), r, h)) else none : Option qm_Act) = some (.inl (ls', st', h')) := ha
      split at ha
      · cases ha
      · next hz =>
        split at ha
        · next hg =>
          cases ha
          have hok := ho.h
          have h0 : ∃ a : Nat, qm_cv B0 sb sa (qP q i) = .ref a := by
            simp only [qm_cv]
            rw [if_neg hz]
            split
            · exact ⟨_, rfl⟩
            · split <;> exact ⟨_, rfl⟩
          obtain ⟨a, ea⟩ := h0
          rw [List.map_cons, ea]
          exact lv_astore (i := k) X.1 X.2.1 hd hl.1 (by have := hl.2.1; omega) rfl (fun b hA => kk H locs b hw (hl.s1 hg hok (by rw [ea]; exact hA)) ho.t)
        · cases ha
theorem so_astore_n (X : qm_Cx p R s m args c cells slots d mi B0 sb sa sv L xs dC dI cs) (hw : qm_Wd s B0 L xs dC dI cs h H locs) (hl : qm_Lo mi B0 sb sa als ls) (ho : qm_So st) {k : Nat} (hk : k < 4) (hd : decode (mC mi) pc = .ok (.astore_n (Fin.ofNat 4 k), 1)) (ha : qa_store [k] 2 ls st h = some (.inl (ls', st', h'))) (kk : ∀ (H1 : Heap) (locs1 : List Loc) (als1 : Array Slot), qm_Wd s B0 L xs dC dI cs h' H1 locs1 → qm_Lo mi B0 sb sa als1 ls' → qm_So st' → W p l e R s m args below meth c H1 locs1 cells slots Q (F0 m (pc + 1) als1 (st'.map (qm_cv B0 sb sa)))) : W p l e R s m args below meth c H locs cells slots Q (F0 m pc als (st.map (qm_cv B0 sb sa))) := by
  unfold qa_store at ha
  dsimp only at ha
  rcases st with _ | ⟨v, r⟩
  · cases ha
  · rcases v with v | v | ⟨q, i⟩
    · cases ha
    · cases ha
    · have ha : (if q = 0 then none else if k < ls.length then some (.inl (qm_s1 ls k (qP q i), r, h)) else none : Option qm_Act) = some (.inl (ls', st', h')) := ha
      split at ha
      · cases ha
      · next hz =>
        split at ha
        · next hg =>
          cases ha
          have hok := ho.h
          have h0 : ∃ a : Nat, qm_cv B0 sb sa (qP q i) = .ref a := by
            simp only [qm_cv]
            rw [if_neg hz]
            split
            · exact ⟨_, rfl⟩
            · split <;> exact ⟨_, rfl⟩
          obtain ⟨a, ea⟩ := h0
          rw [List.map_cons, ea]
          exact lv_astore_n (i := k) X.1 X.2.1 hd (by simp [Fin.ofNat, Nat.mod_eq_of_lt hk]) hl.1 (by have := hl.2.1; omega) rfl (fun b hA => kk H locs b hw (hl.s1 hg hok (by rw [ea]; exact hA)) ho.t)
        · cases ha
theorem so_iinc (X : qm_Cx p R s m args c cells slots d mi B0 sb sa sv L xs dC dI cs) (hw : qm_Wd s B0 L xs dC dI cs h H locs) (hl : qm_Lo mi B0 sb sa als ls) (ho : qm_So st) {k : Nat} {v : Int} (hd : decode (mC mi) pc = .ok (.iinc k v, 3)) (ha : qa_iinc [k] v ls st h = some (.inl (ls', st', h'))) (kk : ∀ (H1 : Heap) (locs1 : List Loc) (als1 : Array Slot), qm_Wd s B0 L xs dC dI cs h' H1 locs1 → qm_Lo mi B0 sb sa als1 ls' → qm_So st' → W p l e R s m args below meth c H1 locs1 cells slots Q (F0 m (pc + 3) als1 (st'.map (qm_cv B0 sb sa)))) : W p l e R s m args below meth c H locs cells slots Q (F0 m pc als (st.map (qm_cv B0 sb sa))) := by
  unfold qa_iinc at ha
  dsimp only at ha
  generalize hg : qm_lg ls k = w at ha
  rcases w with w | w | ⟨q, i⟩
  · have ha : (if k < ls.length then some (.inl (qm_s1 ls k (qI (w + Int32.ofInt v)), st, h)) else none : Option qm_Act) = some (.inl (ls', st', h')) := ha
    split at ha
    · next hk =>
      cases ha
      have hm : (k, Value.int w) ∈ qm_lv B0 sb sa 0 ls := qm_lv_mem.mpr ⟨k, .inl w, qm_lg_at hg (fun z => by cases z), (fun i z => by cases z), (by rw [Nat.zero_add]; rfl)⟩
      obtain ⟨j, hj⟩ := List.getElem?_of_mem hm
      exact lv_iinc X.1 X.2.1 hd hl.1 hj rfl (by have := hl.2.1; omega) rfl (fun a hA => kk H locs a hw (hl.s1 hk trivial hA) ho)
    · cases ha
  · cases ha
  · cases ha
end QST
