section QDI
variable {p : Program} {l : Launch} {e : Env} {R : Room} {s : State} {m : MethodId} {args : Array Value} {below : List Frame} {meth : Method} {c : Code} {cells slots : Nat} {Q : State → Prop} {H : Heap} {locs : List Loc}
variable {d B0 sb sa sv L mi : Nat} {xs : Nat → Int32} {dC : Nat → ClassId} {dI : Nat → Nat → Nat} {cs : Nat × Nat × Nat × Nat × Nat} {pc n : Nat} {als : Array Slot} {ls st ls' st' : List qm_AV} {h h' : qm_Hp} {x : Instr}
theorem on_0 (X : qm_Cx p R s m args c cells slots d mi B0 sb sa sv L xs dC dI cs) (hw : qm_Wd s B0 L xs dC dI cs h H locs) (hl : qm_Lo mi B0 sb sa als ls) (ho : qm_So st) {r : qm_Act} {a : List Nat} {v : Int} (hd : decode (mC mi) pc = .ok (x, n)) (hq : qkB mi pc (0, a, v) x n = true) (hne : 0 ≠ 64 ∧ 0 ≠ 70 ∧ 0 ≠ 71 ∧ 0 ≠ 72 ∧ 0 ≠ 80 ∧ 0 ≠ 73) (ha : qm_act (0, a, v) ls st h = some r) (k1 : ∀ (ls' st' : List qm_AV) (h' : qm_Hp), r = .inl (ls', st', h') → ∀ (H1 : Heap) (locs1 : List Loc) (als1 : Array Slot), qm_Wd s B0 L xs dC dI cs h' H1 locs1 → qm_Lo mi B0 sb sa als1 ls' → qm_So st' → W p l e R s m args below meth c H1 locs1 cells slots Q (F0 m (pc + n) als1 (st'.map (qm_cv B0 sb sa)))) (k2 : ∀ (b : Nat) (st' : List qm_AV), r = .inr (.inl (b, st')) → qm_So st' → W p l e R s m args below meth c H locs cells slots Q (F0 m (qm_bpc mi b) als (st'.map (qm_cv B0 sb sa)))) : W p l e R s m args below meth c H locs cells slots Q (F0 m pc als (st.map (qm_cv B0 sb sa))) := by
  have e := Option.some.inj ha
  simp only [qkB, qk_var, Bool.or_eq_true, Bool.and_eq_true, decide_eq_true_eq] at hq
  rcases hq with (((⟨hn, hx⟩ | ⟨⟨hn, hx⟩, hv⟩) | ⟨⟨hn, hx⟩, hv⟩) | ⟨⟨hn, hx⟩, hm⟩) | ⟨⟨hn, hx⟩, hm⟩
  · subst hn; rw [hx] at hd
    exact so_iconst X hw hl ho hd (k1 _ _ _ e.symm H locs als hw hl (ho.cons trivial))
  · subst hn; rw [hx] at hd
    exact so_bipush X hw hl ho hd (qm_bip _ hv.1 hv.2) (k1 _ _ _ e.symm H locs als hw hl (ho.cons trivial))
  · subst hn; rw [hx] at hd
    exact so_sipush X hw hl ho hd (qm_sip _ hv.1 hv.2) (k1 _ _ _ e.symm H locs als hw hl (ho.cons trivial))
  · subst hn; rw [hx] at hd
    exact lv_ldc X.1 X.2.1 X.2.2.2.1 (X.2.2.2.2.1 _ (qm_clk_ok _ hm).tb) hd (k1 _ _ _ e.symm H locs als hw hl (ho.cons trivial))
  · subst hn; rw [hx] at hd
    exact lv_ldcw X.1 X.2.1 X.2.2.2.1 (X.2.2.2.2.1 _ (qm_clk_ok _ hm).tb) hd (k1 _ _ _ e.symm H locs als hw hl (ho.cons trivial))
theorem on_1 (X : qm_Cx p R s m args c cells slots d mi B0 sb sa sv L xs dC dI cs) (hw : qm_Wd s B0 L xs dC dI cs h H locs) (hl : qm_Lo mi B0 sb sa als ls) (ho : qm_So st) {r : qm_Act} {a : List Nat} {v : Int} (hd : decode (mC mi) pc = .ok (x, n)) (hq : qkB mi pc (1, a, v) x n = true) (hne : 1 ≠ 64 ∧ 1 ≠ 70 ∧ 1 ≠ 71 ∧ 1 ≠ 72 ∧ 1 ≠ 80 ∧ 1 ≠ 73) (ha : qm_act (1, a, v) ls st h = some r) (k1 : ∀ (ls' st' : List qm_AV) (h' : qm_Hp), r = .inl (ls', st', h') → ∀ (H1 : Heap) (locs1 : List Loc) (als1 : Array Slot), qm_Wd s B0 L xs dC dI cs h' H1 locs1 → qm_Lo mi B0 sb sa als1 ls' → qm_So st' → W p l e R s m args below meth c H1 locs1 cells slots Q (F0 m (pc + n) als1 (st'.map (qm_cv B0 sb sa)))) (k2 : ∀ (b : Nat) (st' : List qm_AV), r = .inr (.inl (b, st')) → qm_So st' → W p l e R s m args below meth c H locs cells slots Q (F0 m (qm_bpc mi b) als (st'.map (qm_cv B0 sb sa)))) : W p l e R s m args below meth c H locs cells slots Q (F0 m pc als (st.map (qm_cv B0 sb sa))) := by
  have e := Option.some.inj ha
  simp only [qkB, qk_var, Bool.or_eq_true, Bool.and_eq_true, decide_eq_true_eq] at hq
  rcases hq with (⟨⟨hn, hv⟩, hx⟩ | ⟨⟨hn, hv⟩, hx⟩) | ⟨⟨hn, hx⟩, hm⟩
  · subst hn; subst hv; rw [hx] at hd
    exact lv_lconst X.1 X.2.1 hd rfl (k1 _ _ _ e.symm H locs als hw hl (ho.cons trivial))
  · subst hn; subst hv; rw [hx] at hd
    exact lv_lconst X.1 X.2.1 hd rfl (k1 _ _ _ e.symm H locs als hw hl (ho.cons trivial))
  · subst hn; rw [hx] at hd
    exact lv_ldc2 X.1 X.2.1 X.2.2.2.1 (X.2.2.2.2.1 _ (qm_llk_ok _ hm).tb) hd (k1 _ _ _ e.symm H locs als hw hl (ho.cons trivial))
theorem on_2 (X : qm_Cx p R s m args c cells slots d mi B0 sb sa sv L xs dC dI cs) (hw : qm_Wd s B0 L xs dC dI cs h H locs) (hl : qm_Lo mi B0 sb sa als ls) (ho : qm_So st) {r : qm_Act} {a : List Nat} {v : Int} (hd : decode (mC mi) pc = .ok (x, n)) (hq : qkB mi pc (2, a, v) x n = true) (hne : 2 ≠ 64 ∧ 2 ≠ 70 ∧ 2 ≠ 71 ∧ 2 ≠ 72 ∧ 2 ≠ 80 ∧ 2 ≠ 73) (ha : qm_act (2, a, v) ls st h = some r) (k1 : ∀ (ls' st' : List qm_AV) (h' : qm_Hp), r = .inl (ls', st', h') → ∀ (H1 : Heap) (locs1 : List Loc) (als1 : Array Slot), qm_Wd s B0 L xs dC dI cs h' H1 locs1 → qm_Lo mi B0 sb sa als1 ls' → qm_So st' → W p l e R s m args below meth c H1 locs1 cells slots Q (F0 m (pc + n) als1 (st'.map (qm_cv B0 sb sa)))) (k2 : ∀ (b : Nat) (st' : List qm_AV), r = .inr (.inl (b, st')) → qm_So st' → W p l e R s m args below meth c H locs cells slots Q (F0 m (qm_bpc mi b) als (st'.map (qm_cv B0 sb sa)))) : W p l e R s m args below meth c H locs cells slots Q (F0 m pc als (st.map (qm_cv B0 sb sa))) := by
  rcases a with _ | ⟨k, _ | ⟨k9, a9⟩⟩
  · cases hq
  · simp only [qkB, qk_var, Bool.or_eq_true, Bool.and_eq_true, decide_eq_true_eq] at hq
    replace ha : qa_load [k] 0 ls st h = some r := ha
    obtain ⟨l1, s1, h1, e⟩ := qa_load_inl _ _ ha
    subst e
    rcases hq with ⟨hn, hx⟩ | ⟨⟨hn, hk⟩, hx⟩
    · subst hn; rw [hx] at hd
      exact so_iload X hw hl ho hd ha (k1 _ _ _ rfl)
    · subst hn; rw [hx] at hd
      exact so_iload_n X hw hl ho hk hd ha (k1 _ _ _ rfl)
  · cases hq
theorem on_3 (X : qm_Cx p R s m args c cells slots d mi B0 sb sa sv L xs dC dI cs) (hw : qm_Wd s B0 L xs dC dI cs h H locs) (hl : qm_Lo mi B0 sb sa als ls) (ho : qm_So st) {r : qm_Act} {a : List Nat} {v : Int} (hd : decode (mC mi) pc = .ok (x, n)) (hq : qkB mi pc (3, a, v) x n = true) (hne : 3 ≠ 64 ∧ 3 ≠ 70 ∧ 3 ≠ 71 ∧ 3 ≠ 72 ∧ 3 ≠ 80 ∧ 3 ≠ 73) (ha : qm_act (3, a, v) ls st h = some r) (k1 : ∀ (ls' st' : List qm_AV) (h' : qm_Hp), r = .inl (ls', st', h') → ∀ (H1 : Heap) (locs1 : List Loc) (als1 : Array Slot), qm_Wd s B0 L xs dC dI cs h' H1 locs1 → qm_Lo mi B0 sb sa als1 ls' → qm_So st' → W p l e R s m args below meth c H1 locs1 cells slots Q (F0 m (pc + n) als1 (st'.map (qm_cv B0 sb sa)))) (k2 : ∀ (b : Nat) (st' : List qm_AV), r = .inr (.inl (b, st')) → qm_So st' → W p l e R s m args below meth c H locs cells slots Q (F0 m (qm_bpc mi b) als (st'.map (qm_cv B0 sb sa)))) : W p l e R s m args below meth c H locs cells slots Q (F0 m pc als (st.map (qm_cv B0 sb sa))) := by
  rcases a with _ | ⟨k, _ | ⟨k9, a9⟩⟩
  · cases hq
  · simp only [qkB, qk_var, Bool.or_eq_true, Bool.and_eq_true, decide_eq_true_eq] at hq
    replace ha : qa_load [k] 1 ls st h = some r := ha
    obtain ⟨l1, s1, h1, e⟩ := qa_load_inl _ _ ha
    subst e
    rcases hq with ⟨hn, hx⟩ | ⟨⟨hn, hk⟩, hx⟩
    · subst hn; rw [hx] at hd
      exact so_lload X hw hl ho hd ha (k1 _ _ _ rfl)
    · subst hn; rw [hx] at hd
      exact so_lload_n X hw hl ho hk hd ha (k1 _ _ _ rfl)
  · cases hq
theorem on_4 (X : qm_Cx p R s m args c cells slots d mi B0 sb sa sv L xs dC dI cs) (hw : qm_Wd s B0 L xs dC dI cs h H locs) (hl : qm_Lo mi B0 sb sa als ls) (ho : qm_So st) {r : qm_Act} {a : List Nat} {v : Int} (hd : decode (mC mi) pc = .ok (x, n)) (hq : qkB mi pc (4, a, v) x n = true) (hne : 4 ≠ 64 ∧ 4 ≠ 70 ∧ 4 ≠ 71 ∧ 4 ≠ 72 ∧ 4 ≠ 80 ∧ 4 ≠ 73) (ha : qm_act (4, a, v) ls st h = some r) (k1 : ∀ (ls' st' : List qm_AV) (h' : qm_Hp), r = .inl (ls', st', h') → ∀ (H1 : Heap) (locs1 : List Loc) (als1 : Array Slot), qm_Wd s B0 L xs dC dI cs h' H1 locs1 → qm_Lo mi B0 sb sa als1 ls' → qm_So st' → W p l e R s m args below meth c H1 locs1 cells slots Q (F0 m (pc + n) als1 (st'.map (qm_cv B0 sb sa)))) (k2 : ∀ (b : Nat) (st' : List qm_AV), r = .inr (.inl (b, st')) → qm_So st' → W p l e R s m args below meth c H locs cells slots Q (F0 m (qm_bpc mi b) als (st'.map (qm_cv B0 sb sa)))) : W p l e R s m args below meth c H locs cells slots Q (F0 m pc als (st.map (qm_cv B0 sb sa))) := by
  rcases a with _ | ⟨k, _ | ⟨k9, a9⟩⟩
  · cases hq
  · simp only [qkB, qk_var, Bool.or_eq_true, Bool.and_eq_true, decide_eq_true_eq] at hq
    replace ha : qa_load [k] 2 ls st h = some r := ha
    obtain ⟨l1, s1, h1, e⟩ := qa_load_inl _ _ ha
    subst e
    rcases hq with ⟨hn, hx⟩ | ⟨⟨hn, hk⟩, hx⟩
    · subst hn; rw [hx] at hd
      exact so_aload X hw hl ho hd ha (k1 _ _ _ rfl)
    · subst hn; rw [hx] at hd
      exact so_aload_n X hw hl ho hk hd ha (k1 _ _ _ rfl)
  · cases hq
theorem on_5 (X : qm_Cx p R s m args c cells slots d mi B0 sb sa sv L xs dC dI cs) (hw : qm_Wd s B0 L xs dC dI cs h H locs) (hl : qm_Lo mi B0 sb sa als ls) (ho : qm_So st) {r : qm_Act} {a : List Nat} {v : Int} (hd : decode (mC mi) pc = .ok (x, n)) (hq : qkB mi pc (5, a, v) x n = true) (hne : 5 ≠ 64 ∧ 5 ≠ 70 ∧ 5 ≠ 71 ∧ 5 ≠ 72 ∧ 5 ≠ 80 ∧ 5 ≠ 73) (ha : qm_act (5, a, v) ls st h = some r) (k1 : ∀ (ls' st' : List qm_AV) (h' : qm_Hp), r = .inl (ls', st', h') → ∀ (H1 : Heap) (locs1 : List Loc) (als1 : Array Slot), qm_Wd s B0 L xs dC dI cs h' H1 locs1 → qm_Lo mi B0 sb sa als1 ls' → qm_So st' → W p l e R s m args below meth c H1 locs1 cells slots Q (F0 m (pc + n) als1 (st'.map (qm_cv B0 sb sa)))) (k2 : ∀ (b : Nat) (st' : List qm_AV), r = .inr (.inl (b, st')) → qm_So st' → W p l e R s m args below meth c H locs cells slots Q (F0 m (qm_bpc mi b) als (st'.map (qm_cv B0 sb sa)))) : W p l e R s m args below meth c H locs cells slots Q (F0 m pc als (st.map (qm_cv B0 sb sa))) := by
  rcases a with _ | ⟨k, _ | ⟨k9, a9⟩⟩
  · cases hq
  · simp only [qkB, qk_var, Bool.or_eq_true, Bool.and_eq_true, decide_eq_true_eq] at hq
    replace ha : qa_store [k] 0 ls st h = some r := ha
    obtain ⟨l1, s1, h1, e⟩ := qa_store_inl _ _ ha
    subst e
    rcases hq with ⟨hn, hx⟩ | ⟨⟨hn, hk⟩, hx⟩
    · subst hn; rw [hx] at hd
      exact so_istore X hw hl ho hd ha (k1 _ _ _ rfl)
    · subst hn; rw [hx] at hd
      exact so_istore_n X hw hl ho hk hd ha (k1 _ _ _ rfl)
  · cases hq
theorem on_6 (X : qm_Cx p R s m args c cells slots d mi B0 sb sa sv L xs dC dI cs) (hw : qm_Wd s B0 L xs dC dI cs h H locs) (hl : qm_Lo mi B0 sb sa als ls) (ho : qm_So st) {r : qm_Act} {a : List Nat} {v : Int} (hd : decode (mC mi) pc = .ok (x, n)) (hq : qkB mi pc (6, a, v) x n = true) (hne : 6 ≠ 64 ∧ 6 ≠ 70 ∧ 6 ≠ 71 ∧ 6 ≠ 72 ∧ 6 ≠ 80 ∧ 6 ≠ 73) (ha : qm_act (6, a, v) ls st h = some r) (k1 : ∀ (ls' st' : List qm_AV) (h' : qm_Hp), r = .inl (ls', st', h') → ∀ (H1 : Heap) (locs1 : List Loc) (als1 : Array Slot), qm_Wd s B0 L xs dC dI cs h' H1 locs1 → qm_Lo mi B0 sb sa als1 ls' → qm_So st' → W p l e R s m args below meth c H1 locs1 cells slots Q (F0 m (pc + n) als1 (st'.map (qm_cv B0 sb sa)))) (k2 : ∀ (b : Nat) (st' : List qm_AV), r = .inr (.inl (b, st')) → qm_So st' → W p l e R s m args below meth c H locs cells slots Q (F0 m (qm_bpc mi b) als (st'.map (qm_cv B0 sb sa)))) : W p l e R s m args below meth c H locs cells slots Q (F0 m pc als (st.map (qm_cv B0 sb sa))) := by
  rcases a with _ | ⟨k, _ | ⟨k9, a9⟩⟩
  · cases hq
  · simp only [qkB, qk_var, Bool.or_eq_true, Bool.and_eq_true, decide_eq_true_eq] at hq
    replace ha : qa_store [k] 1 ls st h = some r := ha
    obtain ⟨l1, s1, h1, e⟩ := qa_store_inl _ _ ha
    subst e
    rcases hq with ⟨hn, hx⟩ | ⟨⟨hn, hk⟩, hx⟩
    · subst hn; rw [hx] at hd
      exact so_lstore X hw hl ho hd ha (k1 _ _ _ rfl)
    · subst hn; rw [hx] at hd
      exact so_lstore_n X hw hl ho hk hd ha (k1 _ _ _ rfl)
  · cases hq
theorem on_7 (X : qm_Cx p R s m args c cells slots d mi B0 sb sa sv L xs dC dI cs) (hw : qm_Wd s B0 L xs dC dI cs h H locs) (hl : qm_Lo mi B0 sb sa als ls) (ho : qm_So st) {r : qm_Act} {a : List Nat} {v : Int} (hd : decode (mC mi) pc = .ok (x, n)) (hq : qkB mi pc (7, a, v) x n = true) (hne : 7 ≠ 64 ∧ 7 ≠ 70 ∧ 7 ≠ 71 ∧ 7 ≠ 72 ∧ 7 ≠ 80 ∧ 7 ≠ 73) (ha : qm_act (7, a, v) ls st h = some r) (k1 : ∀ (ls' st' : List qm_AV) (h' : qm_Hp), r = .inl (ls', st', h') → ∀ (H1 : Heap) (locs1 : List Loc) (als1 : Array Slot), qm_Wd s B0 L xs dC dI cs h' H1 locs1 → qm_Lo mi B0 sb sa als1 ls' → qm_So st' → W p l e R s m args below meth c H1 locs1 cells slots Q (F0 m (pc + n) als1 (st'.map (qm_cv B0 sb sa)))) (k2 : ∀ (b : Nat) (st' : List qm_AV), r = .inr (.inl (b, st')) → qm_So st' → W p l e R s m args below meth c H locs cells slots Q (F0 m (qm_bpc mi b) als (st'.map (qm_cv B0 sb sa)))) : W p l e R s m args below meth c H locs cells slots Q (F0 m pc als (st.map (qm_cv B0 sb sa))) := by
  rcases a with _ | ⟨k, _ | ⟨k9, a9⟩⟩
  · cases hq
  · simp only [qkB, qk_var, Bool.or_eq_true, Bool.and_eq_true, decide_eq_true_eq] at hq
    replace ha : qa_store [k] 2 ls st h = some r := ha
    obtain ⟨l1, s1, h1, e⟩ := qa_store_inl _ _ ha
    subst e
    rcases hq with ⟨hn, hx⟩ | ⟨⟨hn, hk⟩, hx⟩
    · subst hn; rw [hx] at hd
      exact so_astore X hw hl ho hd ha (k1 _ _ _ rfl)
    · subst hn; rw [hx] at hd
      exact so_astore_n X hw hl ho hk hd ha (k1 _ _ _ rfl)
  · cases hq
theorem on_8 (X : qm_Cx p R s m args c cells slots d mi B0 sb sa sv L xs dC dI cs) (hw : qm_Wd s B0 L xs dC dI cs h H locs) (hl : qm_Lo mi B0 sb sa als ls) (ho : qm_So st) {r : qm_Act} {a : List Nat} {v : Int} (hd : decode (mC mi) pc = .ok (x, n)) (hq : qkB mi pc (8, a, v) x n = true) (hne : 8 ≠ 64 ∧ 8 ≠ 70 ∧ 8 ≠ 71 ∧ 8 ≠ 72 ∧ 8 ≠ 80 ∧ 8 ≠ 73) (ha : qm_act (8, a, v) ls st h = some r) (k1 : ∀ (ls' st' : List qm_AV) (h' : qm_Hp), r = .inl (ls', st', h') → ∀ (H1 : Heap) (locs1 : List Loc) (als1 : Array Slot), qm_Wd s B0 L xs dC dI cs h' H1 locs1 → qm_Lo mi B0 sb sa als1 ls' → qm_So st' → W p l e R s m args below meth c H1 locs1 cells slots Q (F0 m (pc + n) als1 (st'.map (qm_cv B0 sb sa)))) (k2 : ∀ (b : Nat) (st' : List qm_AV), r = .inr (.inl (b, st')) → qm_So st' → W p l e R s m args below meth c H locs cells slots Q (F0 m (qm_bpc mi b) als (st'.map (qm_cv B0 sb sa)))) : W p l e R s m args below meth c H locs cells slots Q (F0 m pc als (st.map (qm_cv B0 sb sa))) := by
  rcases a with _ | ⟨k, _ | ⟨k9, a9⟩⟩
  · cases hq
  · simp only [qkB, qk_var, Bool.or_eq_true, Bool.and_eq_true, decide_eq_true_eq] at hq
    replace ha : qa_iinc [k] v ls st h = some r := ha
    obtain ⟨l1, s1, h1, e⟩ := qa_iinc_inl _ _ ha
    subst e
    obtain ⟨hn, hx⟩ := hq
    subst hn; rw [hx] at hd
    exact so_iinc X hw hl ho hd ha (k1 _ _ _ rfl)
  · cases hq
theorem on_10 (X : qm_Cx p R s m args c cells slots d mi B0 sb sa sv L xs dC dI cs) (hw : qm_Wd s B0 L xs dC dI cs h H locs) (hl : qm_Lo mi B0 sb sa als ls) (ho : qm_So st) {r : qm_Act} {a : List Nat} {v : Int} (hd : decode (mC mi) pc = .ok (x, n)) (hq : qkB mi pc (10, a, v) x n = true) (hne : 10 ≠ 64 ∧ 10 ≠ 70 ∧ 10 ≠ 71 ∧ 10 ≠ 72 ∧ 10 ≠ 80 ∧ 10 ≠ 73) (ha : qm_act (10, a, v) ls st h = some r) (k1 : ∀ (ls' st' : List qm_AV) (h' : qm_Hp), r = .inl (ls', st', h') → ∀ (H1 : Heap) (locs1 : List Loc) (als1 : Array Slot), qm_Wd s B0 L xs dC dI cs h' H1 locs1 → qm_Lo mi B0 sb sa als1 ls' → qm_So st' → W p l e R s m args below meth c H1 locs1 cells slots Q (F0 m (pc + n) als1 (st'.map (qm_cv B0 sb sa)))) (k2 : ∀ (b : Nat) (st' : List qm_AV), r = .inr (.inl (b, st')) → qm_So st' → W p l e R s m args below meth c H locs cells slots Q (F0 m (qm_bpc mi b) als (st'.map (qm_cv B0 sb sa)))) : W p l e R s m args below meth c H locs cells slots Q (F0 m pc als (st.map (qm_cv B0 sb sa))) := by
  simp only [qkB, qk_var, Bool.or_eq_true, Bool.and_eq_true, decide_eq_true_eq] at hq
  obtain ⟨l1, s1, h1, e⟩ := qa_bin_inl _ ha
  subst e
  obtain ⟨hn, hx⟩ := hq
  subst hn; rw [hx] at hd
  exact so_iadd X hw hl ho hd ha (k1 _ _ _ rfl)
theorem on_11 (X : qm_Cx p R s m args c cells slots d mi B0 sb sa sv L xs dC dI cs) (hw : qm_Wd s B0 L xs dC dI cs h H locs) (hl : qm_Lo mi B0 sb sa als ls) (ho : qm_So st) {r : qm_Act} {a : List Nat} {v : Int} (hd : decode (mC mi) pc = .ok (x, n)) (hq : qkB mi pc (11, a, v) x n = true) (hne : 11 ≠ 64 ∧ 11 ≠ 70 ∧ 11 ≠ 71 ∧ 11 ≠ 72 ∧ 11 ≠ 80 ∧ 11 ≠ 73) (ha : qm_act (11, a, v) ls st h = some r) (k1 : ∀ (ls' st' : List qm_AV) (h' : qm_Hp), r = .inl (ls', st', h') → ∀ (H1 : Heap) (locs1 : List Loc) (als1 : Array Slot), qm_Wd s B0 L xs dC dI cs h' H1 locs1 → qm_Lo mi B0 sb sa als1 ls' → qm_So st' → W p l e R s m args below meth c H1 locs1 cells slots Q (F0 m (pc + n) als1 (st'.map (qm_cv B0 sb sa)))) (k2 : ∀ (b : Nat) (st' : List qm_AV), r = .inr (.inl (b, st')) → qm_So st' → W p l e R s m args below meth c H locs cells slots Q (F0 m (qm_bpc mi b) als (st'.map (qm_cv B0 sb sa)))) : W p l e R s m args below meth c H locs cells slots Q (F0 m pc als (st.map (qm_cv B0 sb sa))) := by
  simp only [qkB, qk_var, Bool.or_eq_true, Bool.and_eq_true, decide_eq_true_eq] at hq
  obtain ⟨l1, s1, h1, e⟩ := qa_bin_inl _ ha
  subst e
  obtain ⟨hn, hx⟩ := hq
  subst hn; rw [hx] at hd
  exact so_isub X hw hl ho hd ha (k1 _ _ _ rfl)
theorem on_12 (X : qm_Cx p R s m args c cells slots d mi B0 sb sa sv L xs dC dI cs) (hw : qm_Wd s B0 L xs dC dI cs h H locs) (hl : qm_Lo mi B0 sb sa als ls) (ho : qm_So st) {r : qm_Act} {a : List Nat} {v : Int} (hd : decode (mC mi) pc = .ok (x, n)) (hq : qkB mi pc (12, a, v) x n = true) (hne : 12 ≠ 64 ∧ 12 ≠ 70 ∧ 12 ≠ 71 ∧ 12 ≠ 72 ∧ 12 ≠ 80 ∧ 12 ≠ 73) (ha : qm_act (12, a, v) ls st h = some r) (k1 : ∀ (ls' st' : List qm_AV) (h' : qm_Hp), r = .inl (ls', st', h') → ∀ (H1 : Heap) (locs1 : List Loc) (als1 : Array Slot), qm_Wd s B0 L xs dC dI cs h' H1 locs1 → qm_Lo mi B0 sb sa als1 ls' → qm_So st' → W p l e R s m args below meth c H1 locs1 cells slots Q (F0 m (pc + n) als1 (st'.map (qm_cv B0 sb sa)))) (k2 : ∀ (b : Nat) (st' : List qm_AV), r = .inr (.inl (b, st')) → qm_So st' → W p l e R s m args below meth c H locs cells slots Q (F0 m (qm_bpc mi b) als (st'.map (qm_cv B0 sb sa)))) : W p l e R s m args below meth c H locs cells slots Q (F0 m pc als (st.map (qm_cv B0 sb sa))) := by
  simp only [qkB, qk_var, Bool.or_eq_true, Bool.and_eq_true, decide_eq_true_eq] at hq
  obtain ⟨l1, s1, h1, e⟩ := qa_bin_inl _ ha
  subst e
  obtain ⟨hn, hx⟩ := hq
  subst hn; rw [hx] at hd
  exact so_imul X hw hl ho hd ha (k1 _ _ _ rfl)
theorem on_13 (X : qm_Cx p R s m args c cells slots d mi B0 sb sa sv L xs dC dI cs) (hw : qm_Wd s B0 L xs dC dI cs h H locs) (hl : qm_Lo mi B0 sb sa als ls) (ho : qm_So st) {r : qm_Act} {a : List Nat} {v : Int} (hd : decode (mC mi) pc = .ok (x, n)) (hq : qkB mi pc (13, a, v) x n = true) (hne : 13 ≠ 64 ∧ 13 ≠ 70 ∧ 13 ≠ 71 ∧ 13 ≠ 72 ∧ 13 ≠ 80 ∧ 13 ≠ 73) (ha : qm_act (13, a, v) ls st h = some r) (k1 : ∀ (ls' st' : List qm_AV) (h' : qm_Hp), r = .inl (ls', st', h') → ∀ (H1 : Heap) (locs1 : List Loc) (als1 : Array Slot), qm_Wd s B0 L xs dC dI cs h' H1 locs1 → qm_Lo mi B0 sb sa als1 ls' → qm_So st' → W p l e R s m args below meth c H1 locs1 cells slots Q (F0 m (pc + n) als1 (st'.map (qm_cv B0 sb sa)))) (k2 : ∀ (b : Nat) (st' : List qm_AV), r = .inr (.inl (b, st')) → qm_So st' → W p l e R s m args below meth c H locs cells slots Q (F0 m (qm_bpc mi b) als (st'.map (qm_cv B0 sb sa)))) : W p l e R s m args below meth c H locs cells slots Q (F0 m pc als (st.map (qm_cv B0 sb sa))) := by
  simp only [qkB, qk_var, Bool.or_eq_true, Bool.and_eq_true, decide_eq_true_eq] at hq
  obtain ⟨l1, s1, h1, e⟩ := qa_div_inl _ ha
  subst e
  obtain ⟨hn, hx⟩ := hq
  subst hn; rw [hx] at hd
  exact so_idiv X hw hl ho hd ha (k1 _ _ _ rfl)
theorem on_14 (X : qm_Cx p R s m args c cells slots d mi B0 sb sa sv L xs dC dI cs) (hw : qm_Wd s B0 L xs dC dI cs h H locs) (hl : qm_Lo mi B0 sb sa als ls) (ho : qm_So st) {r : qm_Act} {a : List Nat} {v : Int} (hd : decode (mC mi) pc = .ok (x, n)) (hq : qkB mi pc (14, a, v) x n = true) (hne : 14 ≠ 64 ∧ 14 ≠ 70 ∧ 14 ≠ 71 ∧ 14 ≠ 72 ∧ 14 ≠ 80 ∧ 14 ≠ 73) (ha : qm_act (14, a, v) ls st h = some r) (k1 : ∀ (ls' st' : List qm_AV) (h' : qm_Hp), r = .inl (ls', st', h') → ∀ (H1 : Heap) (locs1 : List Loc) (als1 : Array Slot), qm_Wd s B0 L xs dC dI cs h' H1 locs1 → qm_Lo mi B0 sb sa als1 ls' → qm_So st' → W p l e R s m args below meth c H1 locs1 cells slots Q (F0 m (pc + n) als1 (st'.map (qm_cv B0 sb sa)))) (k2 : ∀ (b : Nat) (st' : List qm_AV), r = .inr (.inl (b, st')) → qm_So st' → W p l e R s m args below meth c H locs cells slots Q (F0 m (qm_bpc mi b) als (st'.map (qm_cv B0 sb sa)))) : W p l e R s m args below meth c H locs cells slots Q (F0 m pc als (st.map (qm_cv B0 sb sa))) := by
  simp only [qkB, qk_var, Bool.or_eq_true, Bool.and_eq_true, decide_eq_true_eq] at hq
  obtain ⟨l1, s1, h1, e⟩ := qa_div_inl _ ha
  subst e
  obtain ⟨hn, hx⟩ := hq
  subst hn; rw [hx] at hd
  exact so_irem X hw hl ho hd ha (k1 _ _ _ rfl)
theorem on_15 (X : qm_Cx p R s m args c cells slots d mi B0 sb sa sv L xs dC dI cs) (hw : qm_Wd s B0 L xs dC dI cs h H locs) (hl : qm_Lo mi B0 sb sa als ls) (ho : qm_So st) {r : qm_Act} {a : List Nat} {v : Int} (hd : decode (mC mi) pc = .ok (x, n)) (hq : qkB mi pc (15, a, v) x n = true) (hne : 15 ≠ 64 ∧ 15 ≠ 70 ∧ 15 ≠ 71 ∧ 15 ≠ 72 ∧ 15 ≠ 80 ∧ 15 ≠ 73) (ha : qm_act (15, a, v) ls st h = some r) (k1 : ∀ (ls' st' : List qm_AV) (h' : qm_Hp), r = .inl (ls', st', h') → ∀ (H1 : Heap) (locs1 : List Loc) (als1 : Array Slot), qm_Wd s B0 L xs dC dI cs h' H1 locs1 → qm_Lo mi B0 sb sa als1 ls' → qm_So st' → W p l e R s m args below meth c H1 locs1 cells slots Q (F0 m (pc + n) als1 (st'.map (qm_cv B0 sb sa)))) (k2 : ∀ (b : Nat) (st' : List qm_AV), r = .inr (.inl (b, st')) → qm_So st' → W p l e R s m args below meth c H locs cells slots Q (F0 m (qm_bpc mi b) als (st'.map (qm_cv B0 sb sa)))) : W p l e R s m args below meth c H locs cells slots Q (F0 m pc als (st.map (qm_cv B0 sb sa))) := by
  simp only [qkB, qk_var, Bool.or_eq_true, Bool.and_eq_true, decide_eq_true_eq] at hq
  obtain ⟨l1, s1, h1, e⟩ := qa_neg_inl ha
  subst e
  obtain ⟨hn, hx⟩ := hq
  subst hn; rw [hx] at hd
  exact so_ineg X hw hl ho hd ha (k1 _ _ _ rfl)
theorem on_16 (X : qm_Cx p R s m args c cells slots d mi B0 sb sa sv L xs dC dI cs) (hw : qm_Wd s B0 L xs dC dI cs h H locs) (hl : qm_Lo mi B0 sb sa als ls) (ho : qm_So st) {r : qm_Act} {a : List Nat} {v : Int} (hd : decode (mC mi) pc = .ok (x, n)) (hq : qkB mi pc (16, a, v) x n = true) (hne : 16 ≠ 64 ∧ 16 ≠ 70 ∧ 16 ≠ 71 ∧ 16 ≠ 72 ∧ 16 ≠ 80 ∧ 16 ≠ 73) (ha : qm_act (16, a, v) ls st h = some r) (k1 : ∀ (ls' st' : List qm_AV) (h' : qm_Hp), r = .inl (ls', st', h') → ∀ (H1 : Heap) (locs1 : List Loc) (als1 : Array Slot), qm_Wd s B0 L xs dC dI cs h' H1 locs1 → qm_Lo mi B0 sb sa als1 ls' → qm_So st' → W p l e R s m args below meth c H1 locs1 cells slots Q (F0 m (pc + n) als1 (st'.map (qm_cv B0 sb sa)))) (k2 : ∀ (b : Nat) (st' : List qm_AV), r = .inr (.inl (b, st')) → qm_So st' → W p l e R s m args below meth c H locs cells slots Q (F0 m (qm_bpc mi b) als (st'.map (qm_cv B0 sb sa)))) : W p l e R s m args below meth c H locs cells slots Q (F0 m pc als (st.map (qm_cv B0 sb sa))) := by
  simp only [qkB, qk_var, Bool.or_eq_true, Bool.and_eq_true, decide_eq_true_eq] at hq
  obtain ⟨l1, s1, h1, e⟩ := qa_bin_inl _ ha
  subst e
  obtain ⟨hn, hx⟩ := hq
  subst hn; rw [hx] at hd
  exact so_iand X hw hl ho hd ha (k1 _ _ _ rfl)
theorem on_17 (X : qm_Cx p R s m args c cells slots d mi B0 sb sa sv L xs dC dI cs) (hw : qm_Wd s B0 L xs dC dI cs h H locs) (hl : qm_Lo mi B0 sb sa als ls) (ho : qm_So st) {r : qm_Act} {a : List Nat} {v : Int} (hd : decode (mC mi) pc = .ok (x, n)) (hq : qkB mi pc (17, a, v) x n = true) (hne : 17 ≠ 64 ∧ 17 ≠ 70 ∧ 17 ≠ 71 ∧ 17 ≠ 72 ∧ 17 ≠ 80 ∧ 17 ≠ 73) (ha : qm_act (17, a, v) ls st h = some r) (k1 : ∀ (ls' st' : List qm_AV) (h' : qm_Hp), r = .inl (ls', st', h') → ∀ (H1 : Heap) (locs1 : List Loc) (als1 : Array Slot), qm_Wd s B0 L xs dC dI cs h' H1 locs1 → qm_Lo mi B0 sb sa als1 ls' → qm_So st' → W p l e R s m args below meth c H1 locs1 cells slots Q (F0 m (pc + n) als1 (st'.map (qm_cv B0 sb sa)))) (k2 : ∀ (b : Nat) (st' : List qm_AV), r = .inr (.inl (b, st')) → qm_So st' → W p l e R s m args below meth c H locs cells slots Q (F0 m (qm_bpc mi b) als (st'.map (qm_cv B0 sb sa)))) : W p l e R s m args below meth c H locs cells slots Q (F0 m pc als (st.map (qm_cv B0 sb sa))) := by
  simp only [qkB, qk_var, Bool.or_eq_true, Bool.and_eq_true, decide_eq_true_eq] at hq
  obtain ⟨l1, s1, h1, e⟩ := qa_bin_inl _ ha
  subst e
  obtain ⟨hn, hx⟩ := hq
  subst hn; rw [hx] at hd
  exact so_ior X hw hl ho hd ha (k1 _ _ _ rfl)
theorem on_18 (X : qm_Cx p R s m args c cells slots d mi B0 sb sa sv L xs dC dI cs) (hw : qm_Wd s B0 L xs dC dI cs h H locs) (hl : qm_Lo mi B0 sb sa als ls) (ho : qm_So st) {r : qm_Act} {a : List Nat} {v : Int} (hd : decode (mC mi) pc = .ok (x, n)) (hq : qkB mi pc (18, a, v) x n = true) (hne : 18 ≠ 64 ∧ 18 ≠ 70 ∧ 18 ≠ 71 ∧ 18 ≠ 72 ∧ 18 ≠ 80 ∧ 18 ≠ 73) (ha : qm_act (18, a, v) ls st h = some r) (k1 : ∀ (ls' st' : List qm_AV) (h' : qm_Hp), r = .inl (ls', st', h') → ∀ (H1 : Heap) (locs1 : List Loc) (als1 : Array Slot), qm_Wd s B0 L xs dC dI cs h' H1 locs1 → qm_Lo mi B0 sb sa als1 ls' → qm_So st' → W p l e R s m args below meth c H1 locs1 cells slots Q (F0 m (pc + n) als1 (st'.map (qm_cv B0 sb sa)))) (k2 : ∀ (b : Nat) (st' : List qm_AV), r = .inr (.inl (b, st')) → qm_So st' → W p l e R s m args below meth c H locs cells slots Q (F0 m (qm_bpc mi b) als (st'.map (qm_cv B0 sb sa)))) : W p l e R s m args below meth c H locs cells slots Q (F0 m pc als (st.map (qm_cv B0 sb sa))) := by
  simp only [qkB, qk_var, Bool.or_eq_true, Bool.and_eq_true, decide_eq_true_eq] at hq
  obtain ⟨l1, s1, h1, e⟩ := qa_bin_inl _ ha
  subst e
  obtain ⟨hn, hx⟩ := hq
  subst hn; rw [hx] at hd
  exact so_ishl X hw hl ho hd ha (k1 _ _ _ rfl)
theorem on_19 (X : qm_Cx p R s m args c cells slots d mi B0 sb sa sv L xs dC dI cs) (hw : qm_Wd s B0 L xs dC dI cs h H locs) (hl : qm_Lo mi B0 sb sa als ls) (ho : qm_So st) {r : qm_Act} {a : List Nat} {v : Int} (hd : decode (mC mi) pc = .ok (x, n)) (hq : qkB mi pc (19, a, v) x n = true) (hne : 19 ≠ 64 ∧ 19 ≠ 70 ∧ 19 ≠ 71 ∧ 19 ≠ 72 ∧ 19 ≠ 80 ∧ 19 ≠ 73) (ha : qm_act (19, a, v) ls st h = some r) (k1 : ∀ (ls' st' : List qm_AV) (h' : qm_Hp), r = .inl (ls', st', h') → ∀ (H1 : Heap) (locs1 : List Loc) (als1 : Array Slot), qm_Wd s B0 L xs dC dI cs h' H1 locs1 → qm_Lo mi B0 sb sa als1 ls' → qm_So st' → W p l e R s m args below meth c H1 locs1 cells slots Q (F0 m (pc + n) als1 (st'.map (qm_cv B0 sb sa)))) (k2 : ∀ (b : Nat) (st' : List qm_AV), r = .inr (.inl (b, st')) → qm_So st' → W p l e R s m args below meth c H locs cells slots Q (F0 m (qm_bpc mi b) als (st'.map (qm_cv B0 sb sa)))) : W p l e R s m args below meth c H locs cells slots Q (F0 m pc als (st.map (qm_cv B0 sb sa))) := by
  simp only [qkB, qk_var, Bool.or_eq_true, Bool.and_eq_true, decide_eq_true_eq] at hq
  obtain ⟨l1, s1, h1, e⟩ := qa_bin_inl _ ha
  subst e
  obtain ⟨hn, hx⟩ := hq
  subst hn; rw [hx] at hd
  exact so_ishr X hw hl ho hd ha (k1 _ _ _ rfl)
theorem on_20 (X : qm_Cx p R s m args c cells slots d mi B0 sb sa sv L xs dC dI cs) (hw : qm_Wd s B0 L xs dC dI cs h H locs) (hl : qm_Lo mi B0 sb sa als ls) (ho : qm_So st) {r : qm_Act} {a : List Nat} {v : Int} (hd : decode (mC mi) pc = .ok (x, n)) (hq : qkB mi pc (20, a, v) x n = true) (hne : 20 ≠ 64 ∧ 20 ≠ 70 ∧ 20 ≠ 71 ∧ 20 ≠ 72 ∧ 20 ≠ 80 ∧ 20 ≠ 73) (ha : qm_act (20, a, v) ls st h = some r) (k1 : ∀ (ls' st' : List qm_AV) (h' : qm_Hp), r = .inl (ls', st', h') → ∀ (H1 : Heap) (locs1 : List Loc) (als1 : Array Slot), qm_Wd s B0 L xs dC dI cs h' H1 locs1 → qm_Lo mi B0 sb sa als1 ls' → qm_So st' → W p l e R s m args below meth c H1 locs1 cells slots Q (F0 m (pc + n) als1 (st'.map (qm_cv B0 sb sa)))) (k2 : ∀ (b : Nat) (st' : List qm_AV), r = .inr (.inl (b, st')) → qm_So st' → W p l e R s m args below meth c H locs cells slots Q (F0 m (qm_bpc mi b) als (st'.map (qm_cv B0 sb sa)))) : W p l e R s m args below meth c H locs cells slots Q (F0 m pc als (st.map (qm_cv B0 sb sa))) := by
  simp only [qkB, qk_var, Bool.or_eq_true, Bool.and_eq_true, decide_eq_true_eq] at hq
  obtain ⟨l1, s1, h1, e⟩ := qa_bin_inl _ ha
  subst e
  obtain ⟨hn, hx⟩ := hq
  subst hn; rw [hx] at hd
  exact so_iushr X hw hl ho hd ha (k1 _ _ _ rfl)
theorem on_21 (X : qm_Cx p R s m args c cells slots d mi B0 sb sa sv L xs dC dI cs) (hw : qm_Wd s B0 L xs dC dI cs h H locs) (hl : qm_Lo mi B0 sb sa als ls) (ho : qm_So st) {r : qm_Act} {a : List Nat} {v : Int} (hd : decode (mC mi) pc = .ok (x, n)) (hq : qkB mi pc (21, a, v) x n = true) (hne : 21 ≠ 64 ∧ 21 ≠ 70 ∧ 21 ≠ 71 ∧ 21 ≠ 72 ∧ 21 ≠ 80 ∧ 21 ≠ 73) (ha : qm_act (21, a, v) ls st h = some r) (k1 : ∀ (ls' st' : List qm_AV) (h' : qm_Hp), r = .inl (ls', st', h') → ∀ (H1 : Heap) (locs1 : List Loc) (als1 : Array Slot), qm_Wd s B0 L xs dC dI cs h' H1 locs1 → qm_Lo mi B0 sb sa als1 ls' → qm_So st' → W p l e R s m args below meth c H1 locs1 cells slots Q (F0 m (pc + n) als1 (st'.map (qm_cv B0 sb sa)))) (k2 : ∀ (b : Nat) (st' : List qm_AV), r = .inr (.inl (b, st')) → qm_So st' → W p l e R s m args below meth c H locs cells slots Q (F0 m (qm_bpc mi b) als (st'.map (qm_cv B0 sb sa)))) : W p l e R s m args below meth c H locs cells slots Q (F0 m pc als (st.map (qm_cv B0 sb sa))) := by
  simp only [qkB, qk_var, Bool.or_eq_true, Bool.and_eq_true, decide_eq_true_eq] at hq
  obtain ⟨l1, s1, h1, e⟩ := qa_lbin_inl _ ha
  subst e
  obtain ⟨hn, hx⟩ := hq
  subst hn; rw [hx] at hd
  exact so_ladd X hw hl ho hd ha (k1 _ _ _ rfl)
theorem on_22 (X : qm_Cx p R s m args c cells slots d mi B0 sb sa sv L xs dC dI cs) (hw : qm_Wd s B0 L xs dC dI cs h H locs) (hl : qm_Lo mi B0 sb sa als ls) (ho : qm_So st) {r : qm_Act} {a : List Nat} {v : Int} (hd : decode (mC mi) pc = .ok (x, n)) (hq : qkB mi pc (22, a, v) x n = true) (hne : 22 ≠ 64 ∧ 22 ≠ 70 ∧ 22 ≠ 71 ∧ 22 ≠ 72 ∧ 22 ≠ 80 ∧ 22 ≠ 73) (ha : qm_act (22, a, v) ls st h = some r) (k1 : ∀ (ls' st' : List qm_AV) (h' : qm_Hp), r = .inl (ls', st', h') → ∀ (H1 : Heap) (locs1 : List Loc) (als1 : Array Slot), qm_Wd s B0 L xs dC dI cs h' H1 locs1 → qm_Lo mi B0 sb sa als1 ls' → qm_So st' → W p l e R s m args below meth c H1 locs1 cells slots Q (F0 m (pc + n) als1 (st'.map (qm_cv B0 sb sa)))) (k2 : ∀ (b : Nat) (st' : List qm_AV), r = .inr (.inl (b, st')) → qm_So st' → W p l e R s m args below meth c H locs cells slots Q (F0 m (qm_bpc mi b) als (st'.map (qm_cv B0 sb sa)))) : W p l e R s m args below meth c H locs cells slots Q (F0 m pc als (st.map (qm_cv B0 sb sa))) := by
  simp only [qkB, qk_var, Bool.or_eq_true, Bool.and_eq_true, decide_eq_true_eq] at hq
  obtain ⟨l1, s1, h1, e⟩ := qa_lbin_inl _ ha
  subst e
  obtain ⟨hn, hx⟩ := hq
  subst hn; rw [hx] at hd
  exact so_lsub X hw hl ho hd ha (k1 _ _ _ rfl)
theorem on_23 (X : qm_Cx p R s m args c cells slots d mi B0 sb sa sv L xs dC dI cs) (hw : qm_Wd s B0 L xs dC dI cs h H locs) (hl : qm_Lo mi B0 sb sa als ls) (ho : qm_So st) {r : qm_Act} {a : List Nat} {v : Int} (hd : decode (mC mi) pc = .ok (x, n)) (hq : qkB mi pc (23, a, v) x n = true) (hne : 23 ≠ 64 ∧ 23 ≠ 70 ∧ 23 ≠ 71 ∧ 23 ≠ 72 ∧ 23 ≠ 80 ∧ 23 ≠ 73) (ha : qm_act (23, a, v) ls st h = some r) (k1 : ∀ (ls' st' : List qm_AV) (h' : qm_Hp), r = .inl (ls', st', h') → ∀ (H1 : Heap) (locs1 : List Loc) (als1 : Array Slot), qm_Wd s B0 L xs dC dI cs h' H1 locs1 → qm_Lo mi B0 sb sa als1 ls' → qm_So st' → W p l e R s m args below meth c H1 locs1 cells slots Q (F0 m (pc + n) als1 (st'.map (qm_cv B0 sb sa)))) (k2 : ∀ (b : Nat) (st' : List qm_AV), r = .inr (.inl (b, st')) → qm_So st' → W p l e R s m args below meth c H locs cells slots Q (F0 m (qm_bpc mi b) als (st'.map (qm_cv B0 sb sa)))) : W p l e R s m args below meth c H locs cells slots Q (F0 m pc als (st.map (qm_cv B0 sb sa))) := by
  simp only [qkB, qk_var, Bool.or_eq_true, Bool.and_eq_true, decide_eq_true_eq] at hq
  obtain ⟨l1, s1, h1, e⟩ := qa_lbin_inl _ ha
  subst e
  obtain ⟨hn, hx⟩ := hq
  subst hn; rw [hx] at hd
  exact so_lmul X hw hl ho hd ha (k1 _ _ _ rfl)
theorem on_24 (X : qm_Cx p R s m args c cells slots d mi B0 sb sa sv L xs dC dI cs) (hw : qm_Wd s B0 L xs dC dI cs h H locs) (hl : qm_Lo mi B0 sb sa als ls) (ho : qm_So st) {r : qm_Act} {a : List Nat} {v : Int} (hd : decode (mC mi) pc = .ok (x, n)) (hq : qkB mi pc (24, a, v) x n = true) (hne : 24 ≠ 64 ∧ 24 ≠ 70 ∧ 24 ≠ 71 ∧ 24 ≠ 72 ∧ 24 ≠ 80 ∧ 24 ≠ 73) (ha : qm_act (24, a, v) ls st h = some r) (k1 : ∀ (ls' st' : List qm_AV) (h' : qm_Hp), r = .inl (ls', st', h') → ∀ (H1 : Heap) (locs1 : List Loc) (als1 : Array Slot), qm_Wd s B0 L xs dC dI cs h' H1 locs1 → qm_Lo mi B0 sb sa als1 ls' → qm_So st' → W p l e R s m args below meth c H1 locs1 cells slots Q (F0 m (pc + n) als1 (st'.map (qm_cv B0 sb sa)))) (k2 : ∀ (b : Nat) (st' : List qm_AV), r = .inr (.inl (b, st')) → qm_So st' → W p l e R s m args below meth c H locs cells slots Q (F0 m (qm_bpc mi b) als (st'.map (qm_cv B0 sb sa)))) : W p l e R s m args below meth c H locs cells slots Q (F0 m pc als (st.map (qm_cv B0 sb sa))) := by
  simp only [qkB, qk_var, Bool.or_eq_true, Bool.and_eq_true, decide_eq_true_eq] at hq
  obtain ⟨l1, s1, h1, e⟩ := qa_ldiv_inl ha
  subst e
  obtain ⟨hn, hx⟩ := hq
  subst hn; rw [hx] at hd
  exact so_ldiv X hw hl ho hd ha (k1 _ _ _ rfl)
theorem on_25 (X : qm_Cx p R s m args c cells slots d mi B0 sb sa sv L xs dC dI cs) (hw : qm_Wd s B0 L xs dC dI cs h H locs) (hl : qm_Lo mi B0 sb sa als ls) (ho : qm_So st) {r : qm_Act} {a : List Nat} {v : Int} (hd : decode (mC mi) pc = .ok (x, n)) (hq : qkB mi pc (25, a, v) x n = true) (hne : 25 ≠ 64 ∧ 25 ≠ 70 ∧ 25 ≠ 71 ∧ 25 ≠ 72 ∧ 25 ≠ 80 ∧ 25 ≠ 73) (ha : qm_act (25, a, v) ls st h = some r) (k1 : ∀ (ls' st' : List qm_AV) (h' : qm_Hp), r = .inl (ls', st', h') → ∀ (H1 : Heap) (locs1 : List Loc) (als1 : Array Slot), qm_Wd s B0 L xs dC dI cs h' H1 locs1 → qm_Lo mi B0 sb sa als1 ls' → qm_So st' → W p l e R s m args below meth c H1 locs1 cells slots Q (F0 m (pc + n) als1 (st'.map (qm_cv B0 sb sa)))) (k2 : ∀ (b : Nat) (st' : List qm_AV), r = .inr (.inl (b, st')) → qm_So st' → W p l e R s m args below meth c H locs cells slots Q (F0 m (qm_bpc mi b) als (st'.map (qm_cv B0 sb sa)))) : W p l e R s m args below meth c H locs cells slots Q (F0 m pc als (st.map (qm_cv B0 sb sa))) := by
  simp only [qkB, qk_var, Bool.or_eq_true, Bool.and_eq_true, decide_eq_true_eq] at hq
  obtain ⟨l1, s1, h1, e⟩ := qa_lneg_inl ha
  subst e
  obtain ⟨hn, hx⟩ := hq
  subst hn; rw [hx] at hd
  exact so_lneg X hw hl ho hd ha (k1 _ _ _ rfl)
theorem on_26 (X : qm_Cx p R s m args c cells slots d mi B0 sb sa sv L xs dC dI cs) (hw : qm_Wd s B0 L xs dC dI cs h H locs) (hl : qm_Lo mi B0 sb sa als ls) (ho : qm_So st) {r : qm_Act} {a : List Nat} {v : Int} (hd : decode (mC mi) pc = .ok (x, n)) (hq : qkB mi pc (26, a, v) x n = true) (hne : 26 ≠ 64 ∧ 26 ≠ 70 ∧ 26 ≠ 71 ∧ 26 ≠ 72 ∧ 26 ≠ 80 ∧ 26 ≠ 73) (ha : qm_act (26, a, v) ls st h = some r) (k1 : ∀ (ls' st' : List qm_AV) (h' : qm_Hp), r = .inl (ls', st', h') → ∀ (H1 : Heap) (locs1 : List Loc) (als1 : Array Slot), qm_Wd s B0 L xs dC dI cs h' H1 locs1 → qm_Lo mi B0 sb sa als1 ls' → qm_So st' → W p l e R s m args below meth c H1 locs1 cells slots Q (F0 m (pc + n) als1 (st'.map (qm_cv B0 sb sa)))) (k2 : ∀ (b : Nat) (st' : List qm_AV), r = .inr (.inl (b, st')) → qm_So st' → W p l e R s m args below meth c H locs cells slots Q (F0 m (qm_bpc mi b) als (st'.map (qm_cv B0 sb sa)))) : W p l e R s m args below meth c H locs cells slots Q (F0 m pc als (st.map (qm_cv B0 sb sa))) := by
  simp only [qkB, qk_var, Bool.or_eq_true, Bool.and_eq_true, decide_eq_true_eq] at hq
  obtain ⟨l1, s1, h1, e⟩ := qa_lbin_inl _ ha
  subst e
  obtain ⟨hn, hx⟩ := hq
  subst hn; rw [hx] at hd
  exact so_land X hw hl ho hd ha (k1 _ _ _ rfl)
theorem on_27 (X : qm_Cx p R s m args c cells slots d mi B0 sb sa sv L xs dC dI cs) (hw : qm_Wd s B0 L xs dC dI cs h H locs) (hl : qm_Lo mi B0 sb sa als ls) (ho : qm_So st) {r : qm_Act} {a : List Nat} {v : Int} (hd : decode (mC mi) pc = .ok (x, n)) (hq : qkB mi pc (27, a, v) x n = true) (hne : 27 ≠ 64 ∧ 27 ≠ 70 ∧ 27 ≠ 71 ∧ 27 ≠ 72 ∧ 27 ≠ 80 ∧ 27 ≠ 73) (ha : qm_act (27, a, v) ls st h = some r) (k1 : ∀ (ls' st' : List qm_AV) (h' : qm_Hp), r = .inl (ls', st', h') → ∀ (H1 : Heap) (locs1 : List Loc) (als1 : Array Slot), qm_Wd s B0 L xs dC dI cs h' H1 locs1 → qm_Lo mi B0 sb sa als1 ls' → qm_So st' → W p l e R s m args below meth c H1 locs1 cells slots Q (F0 m (pc + n) als1 (st'.map (qm_cv B0 sb sa)))) (k2 : ∀ (b : Nat) (st' : List qm_AV), r = .inr (.inl (b, st')) → qm_So st' → W p l e R s m args below meth c H locs cells slots Q (F0 m (qm_bpc mi b) als (st'.map (qm_cv B0 sb sa)))) : W p l e R s m args below meth c H locs cells slots Q (F0 m pc als (st.map (qm_cv B0 sb sa))) := by
  simp only [qkB, qk_var, Bool.or_eq_true, Bool.and_eq_true, decide_eq_true_eq] at hq
  obtain ⟨l1, s1, h1, e⟩ := qa_lbin_inl _ ha
  subst e
  obtain ⟨hn, hx⟩ := hq
  subst hn; rw [hx] at hd
  exact so_lor X hw hl ho hd ha (k1 _ _ _ rfl)
theorem on_28 (X : qm_Cx p R s m args c cells slots d mi B0 sb sa sv L xs dC dI cs) (hw : qm_Wd s B0 L xs dC dI cs h H locs) (hl : qm_Lo mi B0 sb sa als ls) (ho : qm_So st) {r : qm_Act} {a : List Nat} {v : Int} (hd : decode (mC mi) pc = .ok (x, n)) (hq : qkB mi pc (28, a, v) x n = true) (hne : 28 ≠ 64 ∧ 28 ≠ 70 ∧ 28 ≠ 71 ∧ 28 ≠ 72 ∧ 28 ≠ 80 ∧ 28 ≠ 73) (ha : qm_act (28, a, v) ls st h = some r) (k1 : ∀ (ls' st' : List qm_AV) (h' : qm_Hp), r = .inl (ls', st', h') → ∀ (H1 : Heap) (locs1 : List Loc) (als1 : Array Slot), qm_Wd s B0 L xs dC dI cs h' H1 locs1 → qm_Lo mi B0 sb sa als1 ls' → qm_So st' → W p l e R s m args below meth c H1 locs1 cells slots Q (F0 m (pc + n) als1 (st'.map (qm_cv B0 sb sa)))) (k2 : ∀ (b : Nat) (st' : List qm_AV), r = .inr (.inl (b, st')) → qm_So st' → W p l e R s m args below meth c H locs cells slots Q (F0 m (qm_bpc mi b) als (st'.map (qm_cv B0 sb sa)))) : W p l e R s m args below meth c H locs cells slots Q (F0 m pc als (st.map (qm_cv B0 sb sa))) := by
  simp only [qkB, qk_var, Bool.or_eq_true, Bool.and_eq_true, decide_eq_true_eq] at hq
  obtain ⟨l1, s1, h1, e⟩ := qa_lshl_inl ha
  subst e
  obtain ⟨hn, hx⟩ := hq
  subst hn; rw [hx] at hd
  exact so_lshl X hw hl ho hd ha (k1 _ _ _ rfl)
theorem on_29 (X : qm_Cx p R s m args c cells slots d mi B0 sb sa sv L xs dC dI cs) (hw : qm_Wd s B0 L xs dC dI cs h H locs) (hl : qm_Lo mi B0 sb sa als ls) (ho : qm_So st) {r : qm_Act} {a : List Nat} {v : Int} (hd : decode (mC mi) pc = .ok (x, n)) (hq : qkB mi pc (29, a, v) x n = true) (hne : 29 ≠ 64 ∧ 29 ≠ 70 ∧ 29 ≠ 71 ∧ 29 ≠ 72 ∧ 29 ≠ 80 ∧ 29 ≠ 73) (ha : qm_act (29, a, v) ls st h = some r) (k1 : ∀ (ls' st' : List qm_AV) (h' : qm_Hp), r = .inl (ls', st', h') → ∀ (H1 : Heap) (locs1 : List Loc) (als1 : Array Slot), qm_Wd s B0 L xs dC dI cs h' H1 locs1 → qm_Lo mi B0 sb sa als1 ls' → qm_So st' → W p l e R s m args below meth c H1 locs1 cells slots Q (F0 m (pc + n) als1 (st'.map (qm_cv B0 sb sa)))) (k2 : ∀ (b : Nat) (st' : List qm_AV), r = .inr (.inl (b, st')) → qm_So st' → W p l e R s m args below meth c H locs cells slots Q (F0 m (qm_bpc mi b) als (st'.map (qm_cv B0 sb sa)))) : W p l e R s m args below meth c H locs cells slots Q (F0 m pc als (st.map (qm_cv B0 sb sa))) := by
  simp only [qkB, qk_var, Bool.or_eq_true, Bool.and_eq_true, decide_eq_true_eq] at hq
  obtain ⟨l1, s1, h1, e⟩ := qa_lcmp_inl ha
  subst e
  obtain ⟨hn, hx⟩ := hq
  subst hn; rw [hx] at hd
  exact so_lcmp X hw hl ho hd ha (k1 _ _ _ rfl)
theorem on_30 (X : qm_Cx p R s m args c cells slots d mi B0 sb sa sv L xs dC dI cs) (hw : qm_Wd s B0 L xs dC dI cs h H locs) (hl : qm_Lo mi B0 sb sa als ls) (ho : qm_So st) {r : qm_Act} {a : List Nat} {v : Int} (hd : decode (mC mi) pc = .ok (x, n)) (hq : qkB mi pc (30, a, v) x n = true) (hne : 30 ≠ 64 ∧ 30 ≠ 70 ∧ 30 ≠ 71 ∧ 30 ≠ 72 ∧ 30 ≠ 80 ∧ 30 ≠ 73) (ha : qm_act (30, a, v) ls st h = some r) (k1 : ∀ (ls' st' : List qm_AV) (h' : qm_Hp), r = .inl (ls', st', h') → ∀ (H1 : Heap) (locs1 : List Loc) (als1 : Array Slot), qm_Wd s B0 L xs dC dI cs h' H1 locs1 → qm_Lo mi B0 sb sa als1 ls' → qm_So st' → W p l e R s m args below meth c H1 locs1 cells slots Q (F0 m (pc + n) als1 (st'.map (qm_cv B0 sb sa)))) (k2 : ∀ (b : Nat) (st' : List qm_AV), r = .inr (.inl (b, st')) → qm_So st' → W p l e R s m args below meth c H locs cells slots Q (F0 m (qm_bpc mi b) als (st'.map (qm_cv B0 sb sa)))) : W p l e R s m args below meth c H locs cells slots Q (F0 m pc als (st.map (qm_cv B0 sb sa))) := by
  simp only [qkB, qk_var, Bool.or_eq_true, Bool.and_eq_true, decide_eq_true_eq] at hq
  obtain ⟨l1, s1, h1, e⟩ := qa_i2l_inl ha
  subst e
  obtain ⟨hn, hx⟩ := hq
  subst hn; rw [hx] at hd
  exact so_i2l X hw hl ho hd ha (k1 _ _ _ rfl)
theorem on_31 (X : qm_Cx p R s m args c cells slots d mi B0 sb sa sv L xs dC dI cs) (hw : qm_Wd s B0 L xs dC dI cs h H locs) (hl : qm_Lo mi B0 sb sa als ls) (ho : qm_So st) {r : qm_Act} {a : List Nat} {v : Int} (hd : decode (mC mi) pc = .ok (x, n)) (hq : qkB mi pc (31, a, v) x n = true) (hne : 31 ≠ 64 ∧ 31 ≠ 70 ∧ 31 ≠ 71 ∧ 31 ≠ 72 ∧ 31 ≠ 80 ∧ 31 ≠ 73) (ha : qm_act (31, a, v) ls st h = some r) (k1 : ∀ (ls' st' : List qm_AV) (h' : qm_Hp), r = .inl (ls', st', h') → ∀ (H1 : Heap) (locs1 : List Loc) (als1 : Array Slot), qm_Wd s B0 L xs dC dI cs h' H1 locs1 → qm_Lo mi B0 sb sa als1 ls' → qm_So st' → W p l e R s m args below meth c H1 locs1 cells slots Q (F0 m (pc + n) als1 (st'.map (qm_cv B0 sb sa)))) (k2 : ∀ (b : Nat) (st' : List qm_AV), r = .inr (.inl (b, st')) → qm_So st' → W p l e R s m args below meth c H locs cells slots Q (F0 m (qm_bpc mi b) als (st'.map (qm_cv B0 sb sa)))) : W p l e R s m args below meth c H locs cells slots Q (F0 m pc als (st.map (qm_cv B0 sb sa))) := by
  simp only [qkB, qk_var, Bool.or_eq_true, Bool.and_eq_true, decide_eq_true_eq] at hq
  obtain ⟨l1, s1, h1, e⟩ := qa_l2i_inl ha
  subst e
  obtain ⟨hn, hx⟩ := hq
  subst hn; rw [hx] at hd
  exact so_l2i X hw hl ho hd ha (k1 _ _ _ rfl)
theorem on_32 (X : qm_Cx p R s m args c cells slots d mi B0 sb sa sv L xs dC dI cs) (hw : qm_Wd s B0 L xs dC dI cs h H locs) (hl : qm_Lo mi B0 sb sa als ls) (ho : qm_So st) {r : qm_Act} {a : List Nat} {v : Int} (hd : decode (mC mi) pc = .ok (x, n)) (hq : qkB mi pc (32, a, v) x n = true) (hne : 32 ≠ 64 ∧ 32 ≠ 70 ∧ 32 ≠ 71 ∧ 32 ≠ 72 ∧ 32 ≠ 80 ∧ 32 ≠ 73) (ha : qm_act (32, a, v) ls st h = some r) (k1 : ∀ (ls' st' : List qm_AV) (h' : qm_Hp), r = .inl (ls', st', h') → ∀ (H1 : Heap) (locs1 : List Loc) (als1 : Array Slot), qm_Wd s B0 L xs dC dI cs h' H1 locs1 → qm_Lo mi B0 sb sa als1 ls' → qm_So st' → W p l e R s m args below meth c H1 locs1 cells slots Q (F0 m (pc + n) als1 (st'.map (qm_cv B0 sb sa)))) (k2 : ∀ (b : Nat) (st' : List qm_AV), r = .inr (.inl (b, st')) → qm_So st' → W p l e R s m args below meth c H locs cells slots Q (F0 m (qm_bpc mi b) als (st'.map (qm_cv B0 sb sa)))) : W p l e R s m args below meth c H locs cells slots Q (F0 m pc als (st.map (qm_cv B0 sb sa))) := by
  simp only [qkB, qk_var, Bool.or_eq_true, Bool.and_eq_true, decide_eq_true_eq] at hq
  obtain ⟨l1, s1, h1, e⟩ := qa_dup_inl ha
  subst e
  obtain ⟨hn, hx⟩ := hq
  subst hn; rw [hx] at hd
  exact so_dup X hw hl ho hd ha (k1 _ _ _ rfl)
theorem on_33 (X : qm_Cx p R s m args c cells slots d mi B0 sb sa sv L xs dC dI cs) (hw : qm_Wd s B0 L xs dC dI cs h H locs) (hl : qm_Lo mi B0 sb sa als ls) (ho : qm_So st) {r : qm_Act} {a : List Nat} {v : Int} (hd : decode (mC mi) pc = .ok (x, n)) (hq : qkB mi pc (33, a, v) x n = true) (hne : 33 ≠ 64 ∧ 33 ≠ 70 ∧ 33 ≠ 71 ∧ 33 ≠ 72 ∧ 33 ≠ 80 ∧ 33 ≠ 73) (ha : qm_act (33, a, v) ls st h = some r) (k1 : ∀ (ls' st' : List qm_AV) (h' : qm_Hp), r = .inl (ls', st', h') → ∀ (H1 : Heap) (locs1 : List Loc) (als1 : Array Slot), qm_Wd s B0 L xs dC dI cs h' H1 locs1 → qm_Lo mi B0 sb sa als1 ls' → qm_So st' → W p l e R s m args below meth c H1 locs1 cells slots Q (F0 m (pc + n) als1 (st'.map (qm_cv B0 sb sa)))) (k2 : ∀ (b : Nat) (st' : List qm_AV), r = .inr (.inl (b, st')) → qm_So st' → W p l e R s m args below meth c H locs cells slots Q (F0 m (qm_bpc mi b) als (st'.map (qm_cv B0 sb sa)))) : W p l e R s m args below meth c H locs cells slots Q (F0 m pc als (st.map (qm_cv B0 sb sa))) := by
  simp only [qkB, qk_var, Bool.or_eq_true, Bool.and_eq_true, decide_eq_true_eq] at hq
  obtain ⟨l1, s1, h1, e⟩ := qa_dup2_inl ha
  subst e
  obtain ⟨hn, hx⟩ := hq
  subst hn; rw [hx] at hd
  exact so_dup2 X hw hl ho hd ha (k1 _ _ _ rfl)
theorem on_34 (X : qm_Cx p R s m args c cells slots d mi B0 sb sa sv L xs dC dI cs) (hw : qm_Wd s B0 L xs dC dI cs h H locs) (hl : qm_Lo mi B0 sb sa als ls) (ho : qm_So st) {r : qm_Act} {a : List Nat} {v : Int} (hd : decode (mC mi) pc = .ok (x, n)) (hq : qkB mi pc (34, a, v) x n = true) (hne : 34 ≠ 64 ∧ 34 ≠ 70 ∧ 34 ≠ 71 ∧ 34 ≠ 72 ∧ 34 ≠ 80 ∧ 34 ≠ 73) (ha : qm_act (34, a, v) ls st h = some r) (k1 : ∀ (ls' st' : List qm_AV) (h' : qm_Hp), r = .inl (ls', st', h') → ∀ (H1 : Heap) (locs1 : List Loc) (als1 : Array Slot), qm_Wd s B0 L xs dC dI cs h' H1 locs1 → qm_Lo mi B0 sb sa als1 ls' → qm_So st' → W p l e R s m args below meth c H1 locs1 cells slots Q (F0 m (pc + n) als1 (st'.map (qm_cv B0 sb sa)))) (k2 : ∀ (b : Nat) (st' : List qm_AV), r = .inr (.inl (b, st')) → qm_So st' → W p l e R s m args below meth c H locs cells slots Q (F0 m (qm_bpc mi b) als (st'.map (qm_cv B0 sb sa)))) : W p l e R s m args below meth c H locs cells slots Q (F0 m pc als (st.map (qm_cv B0 sb sa))) := by
  simp only [qkB, qk_var, Bool.or_eq_true, Bool.and_eq_true, decide_eq_true_eq] at hq
  obtain ⟨l1, s1, h1, e⟩ := qa_pop_inl ha
  subst e
  obtain ⟨hn, hx⟩ := hq
  subst hn; rw [hx] at hd
  exact so_pop X hw hl ho hd ha (k1 _ _ _ rfl)
theorem on_40 (X : qm_Cx p R s m args c cells slots d mi B0 sb sa sv L xs dC dI cs) (hw : qm_Wd s B0 L xs dC dI cs h H locs) (hl : qm_Lo mi B0 sb sa als ls) (ho : qm_So st) {r : qm_Act} {a : List Nat} {v : Int} (hd : decode (mC mi) pc = .ok (x, n)) (hq : qkB mi pc (40, a, v) x n = true) (hne : 40 ≠ 64 ∧ 40 ≠ 70 ∧ 40 ≠ 71 ∧ 40 ≠ 72 ∧ 40 ≠ 80 ∧ 40 ≠ 73) (ha : qm_act (40, a, v) ls st h = some r) (k1 : ∀ (ls' st' : List qm_AV) (h' : qm_Hp), r = .inl (ls', st', h') → ∀ (H1 : Heap) (locs1 : List Loc) (als1 : Array Slot), qm_Wd s B0 L xs dC dI cs h' H1 locs1 → qm_Lo mi B0 sb sa als1 ls' → qm_So st' → W p l e R s m args below meth c H1 locs1 cells slots Q (F0 m (pc + n) als1 (st'.map (qm_cv B0 sb sa)))) (k2 : ∀ (b : Nat) (st' : List qm_AV), r = .inr (.inl (b, st')) → qm_So st' → W p l e R s m args below meth c H locs cells slots Q (F0 m (qm_bpc mi b) als (st'.map (qm_cv B0 sb sa)))) : W p l e R s m args below meth c H locs cells slots Q (F0 m pc als (st.map (qm_cv B0 sb sa))) := by
  rcases a with _ | ⟨k, _ | ⟨f, _ | ⟨k9, a9⟩⟩⟩
  · cases hq
  · cases hq
  · simp only [qkB, qk_var, Bool.or_eq_true, Bool.and_eq_true, decide_eq_true_eq] at hq
    obtain ⟨l1, s1, h1, e⟩ := qa_getI_inl _ ha
    subst e
    obtain ⟨⟨⟨hn, hx⟩, hm⟩, hk⟩ := hq
    subst hn; rw [hx] at hd
    exact so_getI X hw hl ho hk hm hd ha (k1 _ _ _ rfl)
  · cases hq
theorem on_41 (X : qm_Cx p R s m args c cells slots d mi B0 sb sa sv L xs dC dI cs) (hw : qm_Wd s B0 L xs dC dI cs h H locs) (hl : qm_Lo mi B0 sb sa als ls) (ho : qm_So st) {r : qm_Act} {a : List Nat} {v : Int} (hd : decode (mC mi) pc = .ok (x, n)) (hq : qkB mi pc (41, a, v) x n = true) (hne : 41 ≠ 64 ∧ 41 ≠ 70 ∧ 41 ≠ 71 ∧ 41 ≠ 72 ∧ 41 ≠ 80 ∧ 41 ≠ 73) (ha : qm_act (41, a, v) ls st h = some r) (k1 : ∀ (ls' st' : List qm_AV) (h' : qm_Hp), r = .inl (ls', st', h') → ∀ (H1 : Heap) (locs1 : List Loc) (als1 : Array Slot), qm_Wd s B0 L xs dC dI cs h' H1 locs1 → qm_Lo mi B0 sb sa als1 ls' → qm_So st' → W p l e R s m args below meth c H1 locs1 cells slots Q (F0 m (pc + n) als1 (st'.map (qm_cv B0 sb sa)))) (k2 : ∀ (b : Nat) (st' : List qm_AV), r = .inr (.inl (b, st')) → qm_So st' → W p l e R s m args below meth c H locs cells slots Q (F0 m (qm_bpc mi b) als (st'.map (qm_cv B0 sb sa)))) : W p l e R s m args below meth c H locs cells slots Q (F0 m pc als (st.map (qm_cv B0 sb sa))) := by
  rcases a with _ | ⟨k, _ | ⟨f, _ | ⟨k9, a9⟩⟩⟩
  · cases hq
  · cases hq
  · simp only [qkB, qk_var, Bool.or_eq_true, Bool.and_eq_true, decide_eq_true_eq] at hq
    obtain ⟨l1, s1, h1, e⟩ := qa_getL_inl _ ha
    subst e
    obtain ⟨⟨⟨hn, hx⟩, hm⟩, hk⟩ := hq
    subst hn; rw [hx] at hd
    exact so_getL X hw hl ho hk hm hd ha (k1 _ _ _ rfl)
  · cases hq
theorem on_42 (X : qm_Cx p R s m args c cells slots d mi B0 sb sa sv L xs dC dI cs) (hw : qm_Wd s B0 L xs dC dI cs h H locs) (hl : qm_Lo mi B0 sb sa als ls) (ho : qm_So st) {r : qm_Act} {a : List Nat} {v : Int} (hd : decode (mC mi) pc = .ok (x, n)) (hq : qkB mi pc (42, a, v) x n = true) (hne : 42 ≠ 64 ∧ 42 ≠ 70 ∧ 42 ≠ 71 ∧ 42 ≠ 72 ∧ 42 ≠ 80 ∧ 42 ≠ 73) (ha : qm_act (42, a, v) ls st h = some r) (k1 : ∀ (ls' st' : List qm_AV) (h' : qm_Hp), r = .inl (ls', st', h') → ∀ (H1 : Heap) (locs1 : List Loc) (als1 : Array Slot), qm_Wd s B0 L xs dC dI cs h' H1 locs1 → qm_Lo mi B0 sb sa als1 ls' → qm_So st' → W p l e R s m args below meth c H1 locs1 cells slots Q (F0 m (pc + n) als1 (st'.map (qm_cv B0 sb sa)))) (k2 : ∀ (b : Nat) (st' : List qm_AV), r = .inr (.inl (b, st')) → qm_So st' → W p l e R s m args below meth c H locs cells slots Q (F0 m (qm_bpc mi b) als (st'.map (qm_cv B0 sb sa)))) : W p l e R s m args below meth c H locs cells slots Q (F0 m pc als (st.map (qm_cv B0 sb sa))) := by
  rcases a with _ | ⟨k, _ | ⟨f, _ | ⟨t, _ | ⟨mu, _ | ⟨ad, _ | ⟨k9, a9⟩⟩⟩⟩⟩⟩
  · cases hq
  · cases hq
  · cases hq
  · cases hq
  · cases hq
  · simp only [qkB, qk_var, Bool.or_eq_true, Bool.and_eq_true, decide_eq_true_eq] at hq
    obtain ⟨l1, s1, h1, e⟩ := qa_getP_inl _ ha
    subst e
    obtain ⟨⟨⟨⟨hn, hx⟩, hm⟩, hk⟩, ht⟩ := hq
    subst hn; rw [hx] at hd
    exact so_getP X hw hl ho hk ht hm hd ha (k1 _ _ _ rfl)
  · cases hq
theorem on_43 (X : qm_Cx p R s m args c cells slots d mi B0 sb sa sv L xs dC dI cs) (hw : qm_Wd s B0 L xs dC dI cs h H locs) (hl : qm_Lo mi B0 sb sa als ls) (ho : qm_So st) {r : qm_Act} {a : List Nat} {v : Int} (hd : decode (mC mi) pc = .ok (x, n)) (hq : qkB mi pc (43, a, v) x n = true) (hne : 43 ≠ 64 ∧ 43 ≠ 70 ∧ 43 ≠ 71 ∧ 43 ≠ 72 ∧ 43 ≠ 80 ∧ 43 ≠ 73) (ha : qm_act (43, a, v) ls st h = some r) (k1 : ∀ (ls' st' : List qm_AV) (h' : qm_Hp), r = .inl (ls', st', h') → ∀ (H1 : Heap) (locs1 : List Loc) (als1 : Array Slot), qm_Wd s B0 L xs dC dI cs h' H1 locs1 → qm_Lo mi B0 sb sa als1 ls' → qm_So st' → W p l e R s m args below meth c H1 locs1 cells slots Q (F0 m (pc + n) als1 (st'.map (qm_cv B0 sb sa)))) (k2 : ∀ (b : Nat) (st' : List qm_AV), r = .inr (.inl (b, st')) → qm_So st' → W p l e R s m args below meth c H locs cells slots Q (F0 m (qm_bpc mi b) als (st'.map (qm_cv B0 sb sa)))) : W p l e R s m args below meth c H locs cells slots Q (F0 m pc als (st.map (qm_cv B0 sb sa))) := by
  rcases a with _ | ⟨k, _ | ⟨f, _ | ⟨k9, a9⟩⟩⟩
  · cases hq
  · cases hq
  · simp only [qkB, qk_var, Bool.or_eq_true, Bool.and_eq_true, decide_eq_true_eq] at hq
    obtain ⟨l1, s1, h1, e⟩ := qa_getM_inl _ ha
    subst e
    obtain ⟨⟨⟨hn, hx⟩, hm⟩, hk⟩ := hq
    subst hn; rw [hx] at hd
    exact so_getM X hw hl ho hk hm hd ha (k1 _ _ _ rfl)
  · cases hq
theorem on_44 (X : qm_Cx p R s m args c cells slots d mi B0 sb sa sv L xs dC dI cs) (hw : qm_Wd s B0 L xs dC dI cs h H locs) (hl : qm_Lo mi B0 sb sa als ls) (ho : qm_So st) {r : qm_Act} {a : List Nat} {v : Int} (hd : decode (mC mi) pc = .ok (x, n)) (hq : qkB mi pc (44, a, v) x n = true) (hne : 44 ≠ 64 ∧ 44 ≠ 70 ∧ 44 ≠ 71 ∧ 44 ≠ 72 ∧ 44 ≠ 80 ∧ 44 ≠ 73) (ha : qm_act (44, a, v) ls st h = some r) (k1 : ∀ (ls' st' : List qm_AV) (h' : qm_Hp), r = .inl (ls', st', h') → ∀ (H1 : Heap) (locs1 : List Loc) (als1 : Array Slot), qm_Wd s B0 L xs dC dI cs h' H1 locs1 → qm_Lo mi B0 sb sa als1 ls' → qm_So st' → W p l e R s m args below meth c H1 locs1 cells slots Q (F0 m (pc + n) als1 (st'.map (qm_cv B0 sb sa)))) (k2 : ∀ (b : Nat) (st' : List qm_AV), r = .inr (.inl (b, st')) → qm_So st' → W p l e R s m args below meth c H locs cells slots Q (F0 m (qm_bpc mi b) als (st'.map (qm_cv B0 sb sa)))) : W p l e R s m args below meth c H locs cells slots Q (F0 m pc als (st.map (qm_cv B0 sb sa))) := by
  rcases a with _ | ⟨k, _ | ⟨f, _ | ⟨k9, a9⟩⟩⟩
  · cases hq
  · cases hq
  · simp only [qkB, qk_var, Bool.or_eq_true, Bool.and_eq_true, decide_eq_true_eq] at hq
    obtain ⟨l1, s1, h1, e⟩ := qa_putI_inl _ ha
    subst e
    obtain ⟨⟨⟨⟨hn, hx⟩, hm⟩, hk⟩, hfin⟩ := hq
    subst hn; rw [hx] at hd
    exact so_putI X hw hl ho hk hfin hm hd ha (k1 _ _ _ rfl)
  · cases hq
theorem on_45 (X : qm_Cx p R s m args c cells slots d mi B0 sb sa sv L xs dC dI cs) (hw : qm_Wd s B0 L xs dC dI cs h H locs) (hl : qm_Lo mi B0 sb sa als ls) (ho : qm_So st) {r : qm_Act} {a : List Nat} {v : Int} (hd : decode (mC mi) pc = .ok (x, n)) (hq : qkB mi pc (45, a, v) x n = true) (hne : 45 ≠ 64 ∧ 45 ≠ 70 ∧ 45 ≠ 71 ∧ 45 ≠ 72 ∧ 45 ≠ 80 ∧ 45 ≠ 73) (ha : qm_act (45, a, v) ls st h = some r) (k1 : ∀ (ls' st' : List qm_AV) (h' : qm_Hp), r = .inl (ls', st', h') → ∀ (H1 : Heap) (locs1 : List Loc) (als1 : Array Slot), qm_Wd s B0 L xs dC dI cs h' H1 locs1 → qm_Lo mi B0 sb sa als1 ls' → qm_So st' → W p l e R s m args below meth c H1 locs1 cells slots Q (F0 m (pc + n) als1 (st'.map (qm_cv B0 sb sa)))) (k2 : ∀ (b : Nat) (st' : List qm_AV), r = .inr (.inl (b, st')) → qm_So st' → W p l e R s m args below meth c H locs cells slots Q (F0 m (qm_bpc mi b) als (st'.map (qm_cv B0 sb sa)))) : W p l e R s m args below meth c H locs cells slots Q (F0 m pc als (st.map (qm_cv B0 sb sa))) := by
  rcases a with _ | ⟨k, _ | ⟨f, _ | ⟨k9, a9⟩⟩⟩
  · cases hq
  · cases hq
  · simp only [qkB, qk_var, Bool.or_eq_true, Bool.and_eq_true, decide_eq_true_eq] at hq
    obtain ⟨l1, s1, h1, e⟩ := qa_putL_inl _ ha
    subst e
    obtain ⟨⟨⟨⟨hn, hx⟩, hm⟩, hk⟩, hfin⟩ := hq
    subst hn; rw [hx] at hd
    exact so_putL X hw hl ho hk hfin hm hd ha (k1 _ _ _ rfl)
  · cases hq
theorem on_46 (X : qm_Cx p R s m args c cells slots d mi B0 sb sa sv L xs dC dI cs) (hw : qm_Wd s B0 L xs dC dI cs h H locs) (hl : qm_Lo mi B0 sb sa als ls) (ho : qm_So st) {r : qm_Act} {a : List Nat} {v : Int} (hd : decode (mC mi) pc = .ok (x, n)) (hq : qkB mi pc (46, a, v) x n = true) (hne : 46 ≠ 64 ∧ 46 ≠ 70 ∧ 46 ≠ 71 ∧ 46 ≠ 72 ∧ 46 ≠ 80 ∧ 46 ≠ 73) (ha : qm_act (46, a, v) ls st h = some r) (k1 : ∀ (ls' st' : List qm_AV) (h' : qm_Hp), r = .inl (ls', st', h') → ∀ (H1 : Heap) (locs1 : List Loc) (als1 : Array Slot), qm_Wd s B0 L xs dC dI cs h' H1 locs1 → qm_Lo mi B0 sb sa als1 ls' → qm_So st' → W p l e R s m args below meth c H1 locs1 cells slots Q (F0 m (pc + n) als1 (st'.map (qm_cv B0 sb sa)))) (k2 : ∀ (b : Nat) (st' : List qm_AV), r = .inr (.inl (b, st')) → qm_So st' → W p l e R s m args below meth c H locs cells slots Q (F0 m (qm_bpc mi b) als (st'.map (qm_cv B0 sb sa)))) : W p l e R s m args below meth c H locs cells slots Q (F0 m pc als (st.map (qm_cv B0 sb sa))) := by
  rcases a with _ | ⟨k, _ | ⟨f, _ | ⟨t, _ | ⟨k9, a9⟩⟩⟩⟩
  · cases hq
  · cases hq
  · cases hq
  · simp only [qkB, qk_var, Bool.or_eq_true, Bool.and_eq_true, decide_eq_true_eq] at hq
    obtain ⟨l1, s1, h1, e⟩ := qa_putM_inl _ ha
    subst e
    obtain ⟨⟨⟨⟨⟨hn, hx⟩, hm⟩, hk⟩, hfin⟩, ht⟩ := hq
    subst hn; rw [hx] at hd
    exact so_putM X hw hl ho hk hfin hm hd ht ha (k1 _ _ _ rfl)
  · cases hq
theorem on_47 (X : qm_Cx p R s m args c cells slots d mi B0 sb sa sv L xs dC dI cs) (hw : qm_Wd s B0 L xs dC dI cs h H locs) (hl : qm_Lo mi B0 sb sa als ls) (ho : qm_So st) {r : qm_Act} {a : List Nat} {v : Int} (hd : decode (mC mi) pc = .ok (x, n)) (hq : qkB mi pc (47, a, v) x n = true) (hne : 47 ≠ 64 ∧ 47 ≠ 70 ∧ 47 ≠ 71 ∧ 47 ≠ 72 ∧ 47 ≠ 80 ∧ 47 ≠ 73) (ha : qm_act (47, a, v) ls st h = some r) (k1 : ∀ (ls' st' : List qm_AV) (h' : qm_Hp), r = .inl (ls', st', h') → ∀ (H1 : Heap) (locs1 : List Loc) (als1 : Array Slot), qm_Wd s B0 L xs dC dI cs h' H1 locs1 → qm_Lo mi B0 sb sa als1 ls' → qm_So st' → W p l e R s m args below meth c H1 locs1 cells slots Q (F0 m (pc + n) als1 (st'.map (qm_cv B0 sb sa)))) (k2 : ∀ (b : Nat) (st' : List qm_AV), r = .inr (.inl (b, st')) → qm_So st' → W p l e R s m args below meth c H locs cells slots Q (F0 m (qm_bpc mi b) als (st'.map (qm_cv B0 sb sa)))) : W p l e R s m args below meth c H locs cells slots Q (F0 m pc als (st.map (qm_cv B0 sb sa))) := by
  rcases a with _ | ⟨k, _ | ⟨f, _ | ⟨k9, a9⟩⟩⟩
  · cases hq
  · cases hq
  · simp only [qkB, qk_var, Bool.or_eq_true, Bool.and_eq_true, decide_eq_true_eq] at hq
    obtain ⟨l1, s1, h1, e⟩ := qa_putZ_inl _ ha
    subst e
    obtain ⟨⟨⟨⟨hn, hx⟩, hm⟩, hk⟩, hfin⟩ := hq
    subst hn; rw [hx] at hd
    exact so_putZ X hw hl ho hk hfin hm hd ha (k1 _ _ _ rfl)
  · cases hq
theorem on_50 (X : qm_Cx p R s m args c cells slots d mi B0 sb sa sv L xs dC dI cs) (hw : qm_Wd s B0 L xs dC dI cs h H locs) (hl : qm_Lo mi B0 sb sa als ls) (ho : qm_So st) {r : qm_Act} {a : List Nat} {v : Int} (hd : decode (mC mi) pc = .ok (x, n)) (hq : qkB mi pc (50, a, v) x n = true) (hne : 50 ≠ 64 ∧ 50 ≠ 70 ∧ 50 ≠ 71 ∧ 50 ≠ 72 ∧ 50 ≠ 80 ∧ 50 ≠ 73) (ha : qm_act (50, a, v) ls st h = some r) (k1 : ∀ (ls' st' : List qm_AV) (h' : qm_Hp), r = .inl (ls', st', h') → ∀ (H1 : Heap) (locs1 : List Loc) (als1 : Array Slot), qm_Wd s B0 L xs dC dI cs h' H1 locs1 → qm_Lo mi B0 sb sa als1 ls' → qm_So st' → W p l e R s m args below meth c H1 locs1 cells slots Q (F0 m (pc + n) als1 (st'.map (qm_cv B0 sb sa)))) (k2 : ∀ (b : Nat) (st' : List qm_AV), r = .inr (.inl (b, st')) → qm_So st' → W p l e R s m args below meth c H locs cells slots Q (F0 m (qm_bpc mi b) als (st'.map (qm_cv B0 sb sa)))) : W p l e R s m args below meth c H locs cells slots Q (F0 m pc als (st.map (qm_cv B0 sb sa))) := by
  simp only [qkB, qk_var, Bool.or_eq_true, Bool.and_eq_true, decide_eq_true_eq] at hq
  obtain ⟨l1, s1, h1, e⟩ := qa_iald_inl ha
  subst e
  obtain ⟨hn, hx⟩ := hq
  subst hn; rw [hx] at hd
  exact so_iald X hw hl ho hd ha (k1 _ _ _ rfl)
theorem on_51 (X : qm_Cx p R s m args c cells slots d mi B0 sb sa sv L xs dC dI cs) (hw : qm_Wd s B0 L xs dC dI cs h H locs) (hl : qm_Lo mi B0 sb sa als ls) (ho : qm_So st) {r : qm_Act} {a : List Nat} {v : Int} (hd : decode (mC mi) pc = .ok (x, n)) (hq : qkB mi pc (51, a, v) x n = true) (hne : 51 ≠ 64 ∧ 51 ≠ 70 ∧ 51 ≠ 71 ∧ 51 ≠ 72 ∧ 51 ≠ 80 ∧ 51 ≠ 73) (ha : qm_act (51, a, v) ls st h = some r) (k1 : ∀ (ls' st' : List qm_AV) (h' : qm_Hp), r = .inl (ls', st', h') → ∀ (H1 : Heap) (locs1 : List Loc) (als1 : Array Slot), qm_Wd s B0 L xs dC dI cs h' H1 locs1 → qm_Lo mi B0 sb sa als1 ls' → qm_So st' → W p l e R s m args below meth c H1 locs1 cells slots Q (F0 m (pc + n) als1 (st'.map (qm_cv B0 sb sa)))) (k2 : ∀ (b : Nat) (st' : List qm_AV), r = .inr (.inl (b, st')) → qm_So st' → W p l e R s m args below meth c H locs cells slots Q (F0 m (qm_bpc mi b) als (st'.map (qm_cv B0 sb sa)))) : W p l e R s m args below meth c H locs cells slots Q (F0 m pc als (st.map (qm_cv B0 sb sa))) := by
  simp only [qkB, qk_var, Bool.or_eq_true, Bool.and_eq_true, decide_eq_true_eq] at hq
  obtain ⟨l1, s1, h1, e⟩ := qa_iast_inl ha
  subst e
  obtain ⟨hn, hx⟩ := hq
  subst hn; rw [hx] at hd
  exact so_iast X hw hl ho hd ha (k1 _ _ _ rfl)
theorem on_52 (X : qm_Cx p R s m args c cells slots d mi B0 sb sa sv L xs dC dI cs) (hw : qm_Wd s B0 L xs dC dI cs h H locs) (hl : qm_Lo mi B0 sb sa als ls) (ho : qm_So st) {r : qm_Act} {a : List Nat} {v : Int} (hd : decode (mC mi) pc = .ok (x, n)) (hq : qkB mi pc (52, a, v) x n = true) (hne : 52 ≠ 64 ∧ 52 ≠ 70 ∧ 52 ≠ 71 ∧ 52 ≠ 72 ∧ 52 ≠ 80 ∧ 52 ≠ 73) (ha : qm_act (52, a, v) ls st h = some r) (k1 : ∀ (ls' st' : List qm_AV) (h' : qm_Hp), r = .inl (ls', st', h') → ∀ (H1 : Heap) (locs1 : List Loc) (als1 : Array Slot), qm_Wd s B0 L xs dC dI cs h' H1 locs1 → qm_Lo mi B0 sb sa als1 ls' → qm_So st' → W p l e R s m args below meth c H1 locs1 cells slots Q (F0 m (pc + n) als1 (st'.map (qm_cv B0 sb sa)))) (k2 : ∀ (b : Nat) (st' : List qm_AV), r = .inr (.inl (b, st')) → qm_So st' → W p l e R s m args below meth c H locs cells slots Q (F0 m (qm_bpc mi b) als (st'.map (qm_cv B0 sb sa)))) : W p l e R s m args below meth c H locs cells slots Q (F0 m pc als (st.map (qm_cv B0 sb sa))) := by
  simp only [qkB, qk_var, Bool.or_eq_true, Bool.and_eq_true, decide_eq_true_eq] at hq
  obtain ⟨l1, s1, h1, e⟩ := qa_lald_inl ha
  subst e
  obtain ⟨hn, hx⟩ := hq
  subst hn; rw [hx] at hd
  exact so_lald X hw hl ho hd ha (k1 _ _ _ rfl)
theorem on_53 (X : qm_Cx p R s m args c cells slots d mi B0 sb sa sv L xs dC dI cs) (hw : qm_Wd s B0 L xs dC dI cs h H locs) (hl : qm_Lo mi B0 sb sa als ls) (ho : qm_So st) {r : qm_Act} {a : List Nat} {v : Int} (hd : decode (mC mi) pc = .ok (x, n)) (hq : qkB mi pc (53, a, v) x n = true) (hne : 53 ≠ 64 ∧ 53 ≠ 70 ∧ 53 ≠ 71 ∧ 53 ≠ 72 ∧ 53 ≠ 80 ∧ 53 ≠ 73) (ha : qm_act (53, a, v) ls st h = some r) (k1 : ∀ (ls' st' : List qm_AV) (h' : qm_Hp), r = .inl (ls', st', h') → ∀ (H1 : Heap) (locs1 : List Loc) (als1 : Array Slot), qm_Wd s B0 L xs dC dI cs h' H1 locs1 → qm_Lo mi B0 sb sa als1 ls' → qm_So st' → W p l e R s m args below meth c H1 locs1 cells slots Q (F0 m (pc + n) als1 (st'.map (qm_cv B0 sb sa)))) (k2 : ∀ (b : Nat) (st' : List qm_AV), r = .inr (.inl (b, st')) → qm_So st' → W p l e R s m args below meth c H locs cells slots Q (F0 m (qm_bpc mi b) als (st'.map (qm_cv B0 sb sa)))) : W p l e R s m args below meth c H locs cells slots Q (F0 m pc als (st.map (qm_cv B0 sb sa))) := by
  simp only [qkB, qk_var, Bool.or_eq_true, Bool.and_eq_true, decide_eq_true_eq] at hq
  obtain ⟨l1, s1, h1, e⟩ := qa_last_inl ha
  subst e
  obtain ⟨hn, hx⟩ := hq
  subst hn; rw [hx] at hd
  exact so_last X hw hl ho hd ha (k1 _ _ _ rfl)
theorem on_54 (X : qm_Cx p R s m args c cells slots d mi B0 sb sa sv L xs dC dI cs) (hw : qm_Wd s B0 L xs dC dI cs h H locs) (hl : qm_Lo mi B0 sb sa als ls) (ho : qm_So st) {r : qm_Act} {a : List Nat} {v : Int} (hd : decode (mC mi) pc = .ok (x, n)) (hq : qkB mi pc (54, a, v) x n = true) (hne : 54 ≠ 64 ∧ 54 ≠ 70 ∧ 54 ≠ 71 ∧ 54 ≠ 72 ∧ 54 ≠ 80 ∧ 54 ≠ 73) (ha : qm_act (54, a, v) ls st h = some r) (k1 : ∀ (ls' st' : List qm_AV) (h' : qm_Hp), r = .inl (ls', st', h') → ∀ (H1 : Heap) (locs1 : List Loc) (als1 : Array Slot), qm_Wd s B0 L xs dC dI cs h' H1 locs1 → qm_Lo mi B0 sb sa als1 ls' → qm_So st' → W p l e R s m args below meth c H1 locs1 cells slots Q (F0 m (pc + n) als1 (st'.map (qm_cv B0 sb sa)))) (k2 : ∀ (b : Nat) (st' : List qm_AV), r = .inr (.inl (b, st')) → qm_So st' → W p l e R s m args below meth c H locs cells slots Q (F0 m (qm_bpc mi b) als (st'.map (qm_cv B0 sb sa)))) : W p l e R s m args below meth c H locs cells slots Q (F0 m pc als (st.map (qm_cv B0 sb sa))) := by
  simp only [qkB, qk_var, Bool.or_eq_true, Bool.and_eq_true, decide_eq_true_eq] at hq
  obtain ⟨l1, s1, h1, e⟩ := qa_bald_inl ha
  subst e
  obtain ⟨hn, hx⟩ := hq
  subst hn; rw [hx] at hd
  exact so_bald X hw hl ho hd ha (k1 _ _ _ rfl)
theorem on_55 (X : qm_Cx p R s m args c cells slots d mi B0 sb sa sv L xs dC dI cs) (hw : qm_Wd s B0 L xs dC dI cs h H locs) (hl : qm_Lo mi B0 sb sa als ls) (ho : qm_So st) {r : qm_Act} {a : List Nat} {v : Int} (hd : decode (mC mi) pc = .ok (x, n)) (hq : qkB mi pc (55, a, v) x n = true) (hne : 55 ≠ 64 ∧ 55 ≠ 70 ∧ 55 ≠ 71 ∧ 55 ≠ 72 ∧ 55 ≠ 80 ∧ 55 ≠ 73) (ha : qm_act (55, a, v) ls st h = some r) (k1 : ∀ (ls' st' : List qm_AV) (h' : qm_Hp), r = .inl (ls', st', h') → ∀ (H1 : Heap) (locs1 : List Loc) (als1 : Array Slot), qm_Wd s B0 L xs dC dI cs h' H1 locs1 → qm_Lo mi B0 sb sa als1 ls' → qm_So st' → W p l e R s m args below meth c H1 locs1 cells slots Q (F0 m (pc + n) als1 (st'.map (qm_cv B0 sb sa)))) (k2 : ∀ (b : Nat) (st' : List qm_AV), r = .inr (.inl (b, st')) → qm_So st' → W p l e R s m args below meth c H locs cells slots Q (F0 m (qm_bpc mi b) als (st'.map (qm_cv B0 sb sa)))) : W p l e R s m args below meth c H locs cells slots Q (F0 m pc als (st.map (qm_cv B0 sb sa))) := by
  simp only [qkB, qk_var, Bool.or_eq_true, Bool.and_eq_true, decide_eq_true_eq] at hq
  obtain ⟨l1, s1, h1, e⟩ := qa_bast_inl ha
  subst e
  obtain ⟨hn, hx⟩ := hq
  subst hn; rw [hx] at hd
  exact so_bast X hw hl ho hd ha (k1 _ _ _ rfl)
theorem on_56 (X : qm_Cx p R s m args c cells slots d mi B0 sb sa sv L xs dC dI cs) (hw : qm_Wd s B0 L xs dC dI cs h H locs) (hl : qm_Lo mi B0 sb sa als ls) (ho : qm_So st) {r : qm_Act} {a : List Nat} {v : Int} (hd : decode (mC mi) pc = .ok (x, n)) (hq : qkB mi pc (56, a, v) x n = true) (hne : 56 ≠ 64 ∧ 56 ≠ 70 ∧ 56 ≠ 71 ∧ 56 ≠ 72 ∧ 56 ≠ 80 ∧ 56 ≠ 73) (ha : qm_act (56, a, v) ls st h = some r) (k1 : ∀ (ls' st' : List qm_AV) (h' : qm_Hp), r = .inl (ls', st', h') → ∀ (H1 : Heap) (locs1 : List Loc) (als1 : Array Slot), qm_Wd s B0 L xs dC dI cs h' H1 locs1 → qm_Lo mi B0 sb sa als1 ls' → qm_So st' → W p l e R s m args below meth c H1 locs1 cells slots Q (F0 m (pc + n) als1 (st'.map (qm_cv B0 sb sa)))) (k2 : ∀ (b : Nat) (st' : List qm_AV), r = .inr (.inl (b, st')) → qm_So st' → W p l e R s m args below meth c H locs cells slots Q (F0 m (qm_bpc mi b) als (st'.map (qm_cv B0 sb sa)))) : W p l e R s m args below meth c H locs cells slots Q (F0 m pc als (st.map (qm_cv B0 sb sa))) := by
  simp only [qkB, qk_var, Bool.or_eq_true, Bool.and_eq_true, decide_eq_true_eq] at hq
  obtain ⟨l1, s1, h1, e⟩ := qa_aald_inl ha
  subst e
  obtain ⟨hn, hx⟩ := hq
  subst hn; rw [hx] at hd
  exact so_aald X hw hl ho hd ha (k1 _ _ _ rfl)
theorem on_57 (X : qm_Cx p R s m args c cells slots d mi B0 sb sa sv L xs dC dI cs) (hw : qm_Wd s B0 L xs dC dI cs h H locs) (hl : qm_Lo mi B0 sb sa als ls) (ho : qm_So st) {r : qm_Act} {a : List Nat} {v : Int} (hd : decode (mC mi) pc = .ok (x, n)) (hq : qkB mi pc (57, a, v) x n = true) (hne : 57 ≠ 64 ∧ 57 ≠ 70 ∧ 57 ≠ 71 ∧ 57 ≠ 72 ∧ 57 ≠ 80 ∧ 57 ≠ 73) (ha : qm_act (57, a, v) ls st h = some r) (k1 : ∀ (ls' st' : List qm_AV) (h' : qm_Hp), r = .inl (ls', st', h') → ∀ (H1 : Heap) (locs1 : List Loc) (als1 : Array Slot), qm_Wd s B0 L xs dC dI cs h' H1 locs1 → qm_Lo mi B0 sb sa als1 ls' → qm_So st' → W p l e R s m args below meth c H1 locs1 cells slots Q (F0 m (pc + n) als1 (st'.map (qm_cv B0 sb sa)))) (k2 : ∀ (b : Nat) (st' : List qm_AV), r = .inr (.inl (b, st')) → qm_So st' → W p l e R s m args below meth c H locs cells slots Q (F0 m (qm_bpc mi b) als (st'.map (qm_cv B0 sb sa)))) : W p l e R s m args below meth c H locs cells slots Q (F0 m pc als (st.map (qm_cv B0 sb sa))) := by
  simp only [qkB, qk_var, Bool.or_eq_true, Bool.and_eq_true, decide_eq_true_eq] at hq
  obtain ⟨l1, s1, h1, e⟩ := qa_alen_inl ha
  subst e
  obtain ⟨hn, hx⟩ := hq
  subst hn; rw [hx] at hd
  exact so_alen X hw hl ho hd ha (k1 _ _ _ rfl)
theorem on_58 (X : qm_Cx p R s m args c cells slots d mi B0 sb sa sv L xs dC dI cs) (hw : qm_Wd s B0 L xs dC dI cs h H locs) (hl : qm_Lo mi B0 sb sa als ls) (ho : qm_So st) {r : qm_Act} {a : List Nat} {v : Int} (hd : decode (mC mi) pc = .ok (x, n)) (hq : qkB mi pc (58, a, v) x n = true) (hne : 58 ≠ 64 ∧ 58 ≠ 70 ∧ 58 ≠ 71 ∧ 58 ≠ 72 ∧ 58 ≠ 80 ∧ 58 ≠ 73) (ha : qm_act (58, a, v) ls st h = some r) (k1 : ∀ (ls' st' : List qm_AV) (h' : qm_Hp), r = .inl (ls', st', h') → ∀ (H1 : Heap) (locs1 : List Loc) (als1 : Array Slot), qm_Wd s B0 L xs dC dI cs h' H1 locs1 → qm_Lo mi B0 sb sa als1 ls' → qm_So st' → W p l e R s m args below meth c H1 locs1 cells slots Q (F0 m (pc + n) als1 (st'.map (qm_cv B0 sb sa)))) (k2 : ∀ (b : Nat) (st' : List qm_AV), r = .inr (.inl (b, st')) → qm_So st' → W p l e R s m args below meth c H locs cells slots Q (F0 m (qm_bpc mi b) als (st'.map (qm_cv B0 sb sa)))) : W p l e R s m args below meth c H locs cells slots Q (F0 m pc als (st.map (qm_cv B0 sb sa))) := by
  have e := Option.some.inj ha
  simp only [qkB, qk_var, Bool.or_eq_true, Bool.and_eq_true, decide_eq_true_eq] at hq
  obtain ⟨⟨hn, hx⟩, hm⟩ := hq
  subst hn; rw [hx] at hd
  have hown := X.2.2.2.1
  rw [hm] at hown
  exact va_ldcS X.1 X.2.1 hown X.2.2.2.2.2.1.2.2.2.2.2.2.1 hd (k1 _ _ _ e.symm H locs als hw hl (ho.cons (Or.inr (by decide))))
theorem on_60 (X : qm_Cx p R s m args c cells slots d mi B0 sb sa sv L xs dC dI cs) (hw : qm_Wd s B0 L xs dC dI cs h H locs) (hl : qm_Lo mi B0 sb sa als ls) (ho : qm_So st) {r : qm_Act} {a : List Nat} {v : Int} (hd : decode (mC mi) pc = .ok (x, n)) (hq : qkB mi pc (60, a, v) x n = true) (hne : 60 ≠ 64 ∧ 60 ≠ 70 ∧ 60 ≠ 71 ∧ 60 ≠ 72 ∧ 60 ≠ 80 ∧ 60 ≠ 73) (ha : qm_act (60, a, v) ls st h = some r) (k1 : ∀ (ls' st' : List qm_AV) (h' : qm_Hp), r = .inl (ls', st', h') → ∀ (H1 : Heap) (locs1 : List Loc) (als1 : Array Slot), qm_Wd s B0 L xs dC dI cs h' H1 locs1 → qm_Lo mi B0 sb sa als1 ls' → qm_So st' → W p l e R s m args below meth c H1 locs1 cells slots Q (F0 m (pc + n) als1 (st'.map (qm_cv B0 sb sa)))) (k2 : ∀ (b : Nat) (st' : List qm_AV), r = .inr (.inl (b, st')) → qm_So st' → W p l e R s m args below meth c H locs cells slots Q (F0 m (qm_bpc mi b) als (st'.map (qm_cv B0 sb sa)))) : W p l e R s m args below meth c H locs cells slots Q (F0 m pc als (st.map (qm_cv B0 sb sa))) := by
  rcases a with _ | ⟨k, _ | ⟨f, _ | ⟨k9, a9⟩⟩⟩
  · cases hq
  · cases hq
  · simp only [qkB, qk_var, Bool.or_eq_true, Bool.and_eq_true, decide_eq_true_eq] at hq
    obtain ⟨⟨hn, hx⟩, ht⟩ := hq
    rw [hx] at hd
    exact so_icmp X hw hl ho hd hn ht ha k1 k2
  · cases hq
theorem on_61 (X : qm_Cx p R s m args c cells slots d mi B0 sb sa sv L xs dC dI cs) (hw : qm_Wd s B0 L xs dC dI cs h H locs) (hl : qm_Lo mi B0 sb sa als ls) (ho : qm_So st) {r : qm_Act} {a : List Nat} {v : Int} (hd : decode (mC mi) pc = .ok (x, n)) (hq : qkB mi pc (61, a, v) x n = true) (hne : 61 ≠ 64 ∧ 61 ≠ 70 ∧ 61 ≠ 71 ∧ 61 ≠ 72 ∧ 61 ≠ 80 ∧ 61 ≠ 73) (ha : qm_act (61, a, v) ls st h = some r) (k1 : ∀ (ls' st' : List qm_AV) (h' : qm_Hp), r = .inl (ls', st', h') → ∀ (H1 : Heap) (locs1 : List Loc) (als1 : Array Slot), qm_Wd s B0 L xs dC dI cs h' H1 locs1 → qm_Lo mi B0 sb sa als1 ls' → qm_So st' → W p l e R s m args below meth c H1 locs1 cells slots Q (F0 m (pc + n) als1 (st'.map (qm_cv B0 sb sa)))) (k2 : ∀ (b : Nat) (st' : List qm_AV), r = .inr (.inl (b, st')) → qm_So st' → W p l e R s m args below meth c H locs cells slots Q (F0 m (qm_bpc mi b) als (st'.map (qm_cv B0 sb sa)))) : W p l e R s m args below meth c H locs cells slots Q (F0 m pc als (st.map (qm_cv B0 sb sa))) := by
  rcases a with _ | ⟨k, _ | ⟨f, _ | ⟨k9, a9⟩⟩⟩
  · cases hq
  · cases hq
  · simp only [qkB, qk_var, Bool.or_eq_true, Bool.and_eq_true, decide_eq_true_eq] at hq
    obtain ⟨⟨hn, hx⟩, ht⟩ := hq
    rw [hx] at hd
    exact so_if X hw hl ho hd hn ht ha k1 k2
  · cases hq
theorem on_62 (X : qm_Cx p R s m args c cells slots d mi B0 sb sa sv L xs dC dI cs) (hw : qm_Wd s B0 L xs dC dI cs h H locs) (hl : qm_Lo mi B0 sb sa als ls) (ho : qm_So st) {r : qm_Act} {a : List Nat} {v : Int} (hd : decode (mC mi) pc = .ok (x, n)) (hq : qkB mi pc (62, a, v) x n = true) (hne : 62 ≠ 64 ∧ 62 ≠ 70 ∧ 62 ≠ 71 ∧ 62 ≠ 72 ∧ 62 ≠ 80 ∧ 62 ≠ 73) (ha : qm_act (62, a, v) ls st h = some r) (k1 : ∀ (ls' st' : List qm_AV) (h' : qm_Hp), r = .inl (ls', st', h') → ∀ (H1 : Heap) (locs1 : List Loc) (als1 : Array Slot), qm_Wd s B0 L xs dC dI cs h' H1 locs1 → qm_Lo mi B0 sb sa als1 ls' → qm_So st' → W p l e R s m args below meth c H1 locs1 cells slots Q (F0 m (pc + n) als1 (st'.map (qm_cv B0 sb sa)))) (k2 : ∀ (b : Nat) (st' : List qm_AV), r = .inr (.inl (b, st')) → qm_So st' → W p l e R s m args below meth c H locs cells slots Q (F0 m (qm_bpc mi b) als (st'.map (qm_cv B0 sb sa)))) : W p l e R s m args below meth c H locs cells slots Q (F0 m pc als (st.map (qm_cv B0 sb sa))) := by
  rcases a with _ | ⟨k, _ | ⟨k9, a9⟩⟩
  · cases hq
  · simp only [qkB, qk_var, Bool.or_eq_true, Bool.and_eq_true, decide_eq_true_eq] at hq
    obtain ⟨l1, s1, h1, e⟩ := qa_null_inl _ ha
    subst e
    obtain ⟨⟨hn, hx⟩, ht⟩ := hq
    subst hn; rw [hx] at hd
    exact so_null X hw hl ho hd ha (k1 _ _ _ rfl)
  · cases hq
theorem on_63 (X : qm_Cx p R s m args c cells slots d mi B0 sb sa sv L xs dC dI cs) (hw : qm_Wd s B0 L xs dC dI cs h H locs) (hl : qm_Lo mi B0 sb sa als ls) (ho : qm_So st) {r : qm_Act} {a : List Nat} {v : Int} (hd : decode (mC mi) pc = .ok (x, n)) (hq : qkB mi pc (63, a, v) x n = true) (hne : 63 ≠ 64 ∧ 63 ≠ 70 ∧ 63 ≠ 71 ∧ 63 ≠ 72 ∧ 63 ≠ 80 ∧ 63 ≠ 73) (ha : qm_act (63, a, v) ls st h = some r) (k1 : ∀ (ls' st' : List qm_AV) (h' : qm_Hp), r = .inl (ls', st', h') → ∀ (H1 : Heap) (locs1 : List Loc) (als1 : Array Slot), qm_Wd s B0 L xs dC dI cs h' H1 locs1 → qm_Lo mi B0 sb sa als1 ls' → qm_So st' → W p l e R s m args below meth c H1 locs1 cells slots Q (F0 m (pc + n) als1 (st'.map (qm_cv B0 sb sa)))) (k2 : ∀ (b : Nat) (st' : List qm_AV), r = .inr (.inl (b, st')) → qm_So st' → W p l e R s m args below meth c H locs cells slots Q (F0 m (qm_bpc mi b) als (st'.map (qm_cv B0 sb sa)))) : W p l e R s m args below meth c H locs cells slots Q (F0 m pc als (st.map (qm_cv B0 sb sa))) := by
  rcases a with _ | ⟨k, _ | ⟨k9, a9⟩⟩
  · cases hq
  · simp only [qkB, qk_var, Bool.or_eq_true, Bool.and_eq_true, decide_eq_true_eq] at hq
    obtain ⟨⟨hn, hx⟩, ht⟩ := hq
    subst hn; rw [hx] at hd
    exact lv_goto X.1 X.2.1 hd ht (k2 k st (Option.some.inj ha).symm ho)
  · cases hq
theorem on_64 (X : qm_Cx p R s m args c cells slots d mi B0 sb sa sv L xs dC dI cs) (hw : qm_Wd s B0 L xs dC dI cs h H locs) (hl : qm_Lo mi B0 sb sa als ls) (ho : qm_So st) {r : qm_Act} {a : List Nat} {v : Int} (hd : decode (mC mi) pc = .ok (x, n)) (hq : qkB mi pc (64, a, v) x n = true) (hne : 64 ≠ 64 ∧ 64 ≠ 70 ∧ 64 ≠ 71 ∧ 64 ≠ 72 ∧ 64 ≠ 80 ∧ 64 ≠ 73) (ha : qm_act (64, a, v) ls st h = some r) (k1 : ∀ (ls' st' : List qm_AV) (h' : qm_Hp), r = .inl (ls', st', h') → ∀ (H1 : Heap) (locs1 : List Loc) (als1 : Array Slot), qm_Wd s B0 L xs dC dI cs h' H1 locs1 → qm_Lo mi B0 sb sa als1 ls' → qm_So st' → W p l e R s m args below meth c H1 locs1 cells slots Q (F0 m (pc + n) als1 (st'.map (qm_cv B0 sb sa)))) (k2 : ∀ (b : Nat) (st' : List qm_AV), r = .inr (.inl (b, st')) → qm_So st' → W p l e R s m args below meth c H locs cells slots Q (F0 m (qm_bpc mi b) als (st'.map (qm_cv B0 sb sa)))) : W p l e R s m args below meth c H locs cells slots Q (F0 m pc als (st.map (qm_cv B0 sb sa))) := by
  exact absurd rfl hne.1
theorem on_65 (X : qm_Cx p R s m args c cells slots d mi B0 sb sa sv L xs dC dI cs) (hw : qm_Wd s B0 L xs dC dI cs h H locs) (hl : qm_Lo mi B0 sb sa als ls) (ho : qm_So st) {r : qm_Act} {a : List Nat} {v : Int} (hd : decode (mC mi) pc = .ok (x, n)) (hq : qkB mi pc (65, a, v) x n = true) (hne : 65 ≠ 64 ∧ 65 ≠ 70 ∧ 65 ≠ 71 ∧ 65 ≠ 72 ∧ 65 ≠ 80 ∧ 65 ≠ 73) (ha : qm_act (65, a, v) ls st h = some r) (k1 : ∀ (ls' st' : List qm_AV) (h' : qm_Hp), r = .inl (ls', st', h') → ∀ (H1 : Heap) (locs1 : List Loc) (als1 : Array Slot), qm_Wd s B0 L xs dC dI cs h' H1 locs1 → qm_Lo mi B0 sb sa als1 ls' → qm_So st' → W p l e R s m args below meth c H1 locs1 cells slots Q (F0 m (pc + n) als1 (st'.map (qm_cv B0 sb sa)))) (k2 : ∀ (b : Nat) (st' : List qm_AV), r = .inr (.inl (b, st')) → qm_So st' → W p l e R s m args below meth c H locs cells slots Q (F0 m (qm_bpc mi b) als (st'.map (qm_cv B0 sb sa)))) : W p l e R s m args below meth c H locs cells slots Q (F0 m pc als (st.map (qm_cv B0 sb sa))) := by
  rcases a with _ | ⟨df, bs⟩
  · cases hq
  · simp only [qkB, qk_var, Bool.or_eq_true, Bool.and_eq_true, decide_eq_true_eq] at hq
    obtain ⟨⟨⟨⟨⟨⟨⟨hx, g1⟩, g2⟩, g3⟩, g4⟩, g5⟩, g6⟩, g7⟩ := hq
    rw [hx] at hd
    exact so_tsw X hw hl ho hd g1 g2 g3 g4 g5 g6 g7 ha k2
theorem on_66 (X : qm_Cx p R s m args c cells slots d mi B0 sb sa sv L xs dC dI cs) (hw : qm_Wd s B0 L xs dC dI cs h H locs) (hl : qm_Lo mi B0 sb sa als ls) (ho : qm_So st) {r : qm_Act} {a : List Nat} {v : Int} (hd : decode (mC mi) pc = .ok (x, n)) (hq : qkB mi pc (66, a, v) x n = true) (hne : 66 ≠ 64 ∧ 66 ≠ 70 ∧ 66 ≠ 71 ∧ 66 ≠ 72 ∧ 66 ≠ 80 ∧ 66 ≠ 73) (ha : qm_act (66, a, v) ls st h = some r) (k1 : ∀ (ls' st' : List qm_AV) (h' : qm_Hp), r = .inl (ls', st', h') → ∀ (H1 : Heap) (locs1 : List Loc) (als1 : Array Slot), qm_Wd s B0 L xs dC dI cs h' H1 locs1 → qm_Lo mi B0 sb sa als1 ls' → qm_So st' → W p l e R s m args below meth c H1 locs1 cells slots Q (F0 m (pc + n) als1 (st'.map (qm_cv B0 sb sa)))) (k2 : ∀ (b : Nat) (st' : List qm_AV), r = .inr (.inl (b, st')) → qm_So st' → W p l e R s m args below meth c H locs cells slots Q (F0 m (qm_bpc mi b) als (st'.map (qm_cv B0 sb sa)))) : W p l e R s m args below meth c H locs cells slots Q (F0 m pc als (st.map (qm_cv B0 sb sa))) := by
  rcases a with _ | ⟨df, bs⟩
  · cases hq
  · simp only [qkB, qk_var, Bool.or_eq_true, Bool.and_eq_true, decide_eq_true_eq] at hq
    obtain ⟨⟨⟨⟨⟨hx, g1⟩, g2⟩, g3⟩, g4⟩, g5⟩ := hq
    rw [hx] at hd
    exact so_lsw X hw hl ho hd g1 g2 g3 g4 g5 ha k2
theorem on_70 (X : qm_Cx p R s m args c cells slots d mi B0 sb sa sv L xs dC dI cs) (hw : qm_Wd s B0 L xs dC dI cs h H locs) (hl : qm_Lo mi B0 sb sa als ls) (ho : qm_So st) {r : qm_Act} {a : List Nat} {v : Int} (hd : decode (mC mi) pc = .ok (x, n)) (hq : qkB mi pc (70, a, v) x n = true) (hne : 70 ≠ 64 ∧ 70 ≠ 70 ∧ 70 ≠ 71 ∧ 70 ≠ 72 ∧ 70 ≠ 80 ∧ 70 ≠ 73) (ha : qm_act (70, a, v) ls st h = some r) (k1 : ∀ (ls' st' : List qm_AV) (h' : qm_Hp), r = .inl (ls', st', h') → ∀ (H1 : Heap) (locs1 : List Loc) (als1 : Array Slot), qm_Wd s B0 L xs dC dI cs h' H1 locs1 → qm_Lo mi B0 sb sa als1 ls' → qm_So st' → W p l e R s m args below meth c H1 locs1 cells slots Q (F0 m (pc + n) als1 (st'.map (qm_cv B0 sb sa)))) (k2 : ∀ (b : Nat) (st' : List qm_AV), r = .inr (.inl (b, st')) → qm_So st' → W p l e R s m args below meth c H locs cells slots Q (F0 m (qm_bpc mi b) als (st'.map (qm_cv B0 sb sa)))) : W p l e R s m args below meth c H locs cells slots Q (F0 m pc als (st.map (qm_cv B0 sb sa))) := by
  exact absurd rfl hne.2.1
theorem on_71 (X : qm_Cx p R s m args c cells slots d mi B0 sb sa sv L xs dC dI cs) (hw : qm_Wd s B0 L xs dC dI cs h H locs) (hl : qm_Lo mi B0 sb sa als ls) (ho : qm_So st) {r : qm_Act} {a : List Nat} {v : Int} (hd : decode (mC mi) pc = .ok (x, n)) (hq : qkB mi pc (71, a, v) x n = true) (hne : 71 ≠ 64 ∧ 71 ≠ 70 ∧ 71 ≠ 71 ∧ 71 ≠ 72 ∧ 71 ≠ 80 ∧ 71 ≠ 73) (ha : qm_act (71, a, v) ls st h = some r) (k1 : ∀ (ls' st' : List qm_AV) (h' : qm_Hp), r = .inl (ls', st', h') → ∀ (H1 : Heap) (locs1 : List Loc) (als1 : Array Slot), qm_Wd s B0 L xs dC dI cs h' H1 locs1 → qm_Lo mi B0 sb sa als1 ls' → qm_So st' → W p l e R s m args below meth c H1 locs1 cells slots Q (F0 m (pc + n) als1 (st'.map (qm_cv B0 sb sa)))) (k2 : ∀ (b : Nat) (st' : List qm_AV), r = .inr (.inl (b, st')) → qm_So st' → W p l e R s m args below meth c H locs cells slots Q (F0 m (qm_bpc mi b) als (st'.map (qm_cv B0 sb sa)))) : W p l e R s m args below meth c H locs cells slots Q (F0 m pc als (st.map (qm_cv B0 sb sa))) := by
  exact absurd rfl hne.2.2.1
theorem on_72 (X : qm_Cx p R s m args c cells slots d mi B0 sb sa sv L xs dC dI cs) (hw : qm_Wd s B0 L xs dC dI cs h H locs) (hl : qm_Lo mi B0 sb sa als ls) (ho : qm_So st) {r : qm_Act} {a : List Nat} {v : Int} (hd : decode (mC mi) pc = .ok (x, n)) (hq : qkB mi pc (72, a, v) x n = true) (hne : 72 ≠ 64 ∧ 72 ≠ 70 ∧ 72 ≠ 71 ∧ 72 ≠ 72 ∧ 72 ≠ 80 ∧ 72 ≠ 73) (ha : qm_act (72, a, v) ls st h = some r) (k1 : ∀ (ls' st' : List qm_AV) (h' : qm_Hp), r = .inl (ls', st', h') → ∀ (H1 : Heap) (locs1 : List Loc) (als1 : Array Slot), qm_Wd s B0 L xs dC dI cs h' H1 locs1 → qm_Lo mi B0 sb sa als1 ls' → qm_So st' → W p l e R s m args below meth c H1 locs1 cells slots Q (F0 m (pc + n) als1 (st'.map (qm_cv B0 sb sa)))) (k2 : ∀ (b : Nat) (st' : List qm_AV), r = .inr (.inl (b, st')) → qm_So st' → W p l e R s m args below meth c H locs cells slots Q (F0 m (qm_bpc mi b) als (st'.map (qm_cv B0 sb sa)))) : W p l e R s m args below meth c H locs cells slots Q (F0 m pc als (st.map (qm_cv B0 sb sa))) := by
  exact absurd rfl hne.2.2.2.1
theorem on_73 (X : qm_Cx p R s m args c cells slots d mi B0 sb sa sv L xs dC dI cs) (hw : qm_Wd s B0 L xs dC dI cs h H locs) (hl : qm_Lo mi B0 sb sa als ls) (ho : qm_So st) {r : qm_Act} {a : List Nat} {v : Int} (hd : decode (mC mi) pc = .ok (x, n)) (hq : qkB mi pc (73, a, v) x n = true) (hne : 73 ≠ 64 ∧ 73 ≠ 70 ∧ 73 ≠ 71 ∧ 73 ≠ 72 ∧ 73 ≠ 80 ∧ 73 ≠ 73) (ha : qm_act (73, a, v) ls st h = some r) (k1 : ∀ (ls' st' : List qm_AV) (h' : qm_Hp), r = .inl (ls', st', h') → ∀ (H1 : Heap) (locs1 : List Loc) (als1 : Array Slot), qm_Wd s B0 L xs dC dI cs h' H1 locs1 → qm_Lo mi B0 sb sa als1 ls' → qm_So st' → W p l e R s m args below meth c H1 locs1 cells slots Q (F0 m (pc + n) als1 (st'.map (qm_cv B0 sb sa)))) (k2 : ∀ (b : Nat) (st' : List qm_AV), r = .inr (.inl (b, st')) → qm_So st' → W p l e R s m args below meth c H locs cells slots Q (F0 m (qm_bpc mi b) als (st'.map (qm_cv B0 sb sa)))) : W p l e R s m args below meth c H locs cells slots Q (F0 m pc als (st.map (qm_cv B0 sb sa))) := by
  exact absurd rfl hne.2.2.2.2.2
theorem on_80 (X : qm_Cx p R s m args c cells slots d mi B0 sb sa sv L xs dC dI cs) (hw : qm_Wd s B0 L xs dC dI cs h H locs) (hl : qm_Lo mi B0 sb sa als ls) (ho : qm_So st) {r : qm_Act} {a : List Nat} {v : Int} (hd : decode (mC mi) pc = .ok (x, n)) (hq : qkB mi pc (80, a, v) x n = true) (hne : 80 ≠ 64 ∧ 80 ≠ 70 ∧ 80 ≠ 71 ∧ 80 ≠ 72 ∧ 80 ≠ 80 ∧ 80 ≠ 73) (ha : qm_act (80, a, v) ls st h = some r) (k1 : ∀ (ls' st' : List qm_AV) (h' : qm_Hp), r = .inl (ls', st', h') → ∀ (H1 : Heap) (locs1 : List Loc) (als1 : Array Slot), qm_Wd s B0 L xs dC dI cs h' H1 locs1 → qm_Lo mi B0 sb sa als1 ls' → qm_So st' → W p l e R s m args below meth c H1 locs1 cells slots Q (F0 m (pc + n) als1 (st'.map (qm_cv B0 sb sa)))) (k2 : ∀ (b : Nat) (st' : List qm_AV), r = .inr (.inl (b, st')) → qm_So st' → W p l e R s m args below meth c H locs cells slots Q (F0 m (qm_bpc mi b) als (st'.map (qm_cv B0 sb sa)))) : W p l e R s m args below meth c H locs cells slots Q (F0 m pc als (st.map (qm_cv B0 sb sa))) := by
  exact absurd rfl hne.2.2.2.2.1
theorem on_81 (X : qm_Cx p R s m args c cells slots d mi B0 sb sa sv L xs dC dI cs) (hw : qm_Wd s B0 L xs dC dI cs h H locs) (hl : qm_Lo mi B0 sb sa als ls) (ho : qm_So st) {r : qm_Act} {a : List Nat} {v : Int} (hd : decode (mC mi) pc = .ok (x, n)) (hq : qkB mi pc (81, a, v) x n = true) (hne : 81 ≠ 64 ∧ 81 ≠ 70 ∧ 81 ≠ 71 ∧ 81 ≠ 72 ∧ 81 ≠ 80 ∧ 81 ≠ 73) (ha : qm_act (81, a, v) ls st h = some r) (k1 : ∀ (ls' st' : List qm_AV) (h' : qm_Hp), r = .inl (ls', st', h') → ∀ (H1 : Heap) (locs1 : List Loc) (als1 : Array Slot), qm_Wd s B0 L xs dC dI cs h' H1 locs1 → qm_Lo mi B0 sb sa als1 ls' → qm_So st' → W p l e R s m args below meth c H1 locs1 cells slots Q (F0 m (pc + n) als1 (st'.map (qm_cv B0 sb sa)))) (k2 : ∀ (b : Nat) (st' : List qm_AV), r = .inr (.inl (b, st')) → qm_So st' → W p l e R s m args below meth c H locs cells slots Q (F0 m (qm_bpc mi b) als (st'.map (qm_cv B0 sb sa)))) : W p l e R s m args below meth c H locs cells slots Q (F0 m pc als (st.map (qm_cv B0 sb sa))) := by
  simp only [qkB, qk_var, Bool.or_eq_true, Bool.and_eq_true, decide_eq_true_eq] at hq
  obtain ⟨l1, s1, h1, e⟩ := qa_m2_inl _ ha
  subst e
  obtain ⟨⟨hn, hx⟩, hm⟩ := hq
  subst hn; rw [hx] at hd
  exact so_max X hw hl ho hm hd ha (k1 _ _ _ rfl)
theorem on_82 (X : qm_Cx p R s m args c cells slots d mi B0 sb sa sv L xs dC dI cs) (hw : qm_Wd s B0 L xs dC dI cs h H locs) (hl : qm_Lo mi B0 sb sa als ls) (ho : qm_So st) {r : qm_Act} {a : List Nat} {v : Int} (hd : decode (mC mi) pc = .ok (x, n)) (hq : qkB mi pc (82, a, v) x n = true) (hne : 82 ≠ 64 ∧ 82 ≠ 70 ∧ 82 ≠ 71 ∧ 82 ≠ 72 ∧ 82 ≠ 80 ∧ 82 ≠ 73) (ha : qm_act (82, a, v) ls st h = some r) (k1 : ∀ (ls' st' : List qm_AV) (h' : qm_Hp), r = .inl (ls', st', h') → ∀ (H1 : Heap) (locs1 : List Loc) (als1 : Array Slot), qm_Wd s B0 L xs dC dI cs h' H1 locs1 → qm_Lo mi B0 sb sa als1 ls' → qm_So st' → W p l e R s m args below meth c H1 locs1 cells slots Q (F0 m (pc + n) als1 (st'.map (qm_cv B0 sb sa)))) (k2 : ∀ (b : Nat) (st' : List qm_AV), r = .inr (.inl (b, st')) → qm_So st' → W p l e R s m args below meth c H locs cells slots Q (F0 m (qm_bpc mi b) als (st'.map (qm_cv B0 sb sa)))) : W p l e R s m args below meth c H locs cells slots Q (F0 m pc als (st.map (qm_cv B0 sb sa))) := by
  simp only [qkB, qk_var, Bool.or_eq_true, Bool.and_eq_true, decide_eq_true_eq] at hq
  obtain ⟨l1, s1, h1, e⟩ := qa_m2_inl _ ha
  subst e
  obtain ⟨⟨hn, hx⟩, hm⟩ := hq
  subst hn; rw [hx] at hd
  exact so_min X hw hl ho hm hd ha (k1 _ _ _ rfl)
theorem on_83 (X : qm_Cx p R s m args c cells slots d mi B0 sb sa sv L xs dC dI cs) (hw : qm_Wd s B0 L xs dC dI cs h H locs) (hl : qm_Lo mi B0 sb sa als ls) (ho : qm_So st) {r : qm_Act} {a : List Nat} {v : Int} (hd : decode (mC mi) pc = .ok (x, n)) (hq : qkB mi pc (83, a, v) x n = true) (hne : 83 ≠ 64 ∧ 83 ≠ 70 ∧ 83 ≠ 71 ∧ 83 ≠ 72 ∧ 83 ≠ 80 ∧ 83 ≠ 73) (ha : qm_act (83, a, v) ls st h = some r) (k1 : ∀ (ls' st' : List qm_AV) (h' : qm_Hp), r = .inl (ls', st', h') → ∀ (H1 : Heap) (locs1 : List Loc) (als1 : Array Slot), qm_Wd s B0 L xs dC dI cs h' H1 locs1 → qm_Lo mi B0 sb sa als1 ls' → qm_So st' → W p l e R s m args below meth c H1 locs1 cells slots Q (F0 m (pc + n) als1 (st'.map (qm_cv B0 sb sa)))) (k2 : ∀ (b : Nat) (st' : List qm_AV), r = .inr (.inl (b, st')) → qm_So st' → W p l e R s m args below meth c H locs cells slots Q (F0 m (qm_bpc mi b) als (st'.map (qm_cv B0 sb sa)))) : W p l e R s m args below meth c H locs cells slots Q (F0 m pc als (st.map (qm_cv B0 sb sa))) := by
  simp only [qkB, qk_var, Bool.or_eq_true, Bool.and_eq_true, decide_eq_true_eq] at hq
  obtain ⟨l1, s1, h1, e⟩ := qa_abs_inl ha
  subst e
  obtain ⟨⟨hn, hx⟩, hm⟩ := hq
  subst hn; rw [hx] at hd
  exact so_abs X hw hl ho hm hd ha (k1 _ _ _ rfl)
theorem on_84 (X : qm_Cx p R s m args c cells slots d mi B0 sb sa sv L xs dC dI cs) (hw : qm_Wd s B0 L xs dC dI cs h H locs) (hl : qm_Lo mi B0 sb sa als ls) (ho : qm_So st) {r : qm_Act} {a : List Nat} {v : Int} (hd : decode (mC mi) pc = .ok (x, n)) (hq : qkB mi pc (84, a, v) x n = true) (hne : 84 ≠ 64 ∧ 84 ≠ 70 ∧ 84 ≠ 71 ∧ 84 ≠ 72 ∧ 84 ≠ 80 ∧ 84 ≠ 73) (ha : qm_act (84, a, v) ls st h = some r) (k1 : ∀ (ls' st' : List qm_AV) (h' : qm_Hp), r = .inl (ls', st', h') → ∀ (H1 : Heap) (locs1 : List Loc) (als1 : Array Slot), qm_Wd s B0 L xs dC dI cs h' H1 locs1 → qm_Lo mi B0 sb sa als1 ls' → qm_So st' → W p l e R s m args below meth c H1 locs1 cells slots Q (F0 m (pc + n) als1 (st'.map (qm_cv B0 sb sa)))) (k2 : ∀ (b : Nat) (st' : List qm_AV), r = .inr (.inl (b, st')) → qm_So st' → W p l e R s m args below meth c H locs cells slots Q (F0 m (qm_bpc mi b) als (st'.map (qm_cv B0 sb sa)))) : W p l e R s m args below meth c H locs cells slots Q (F0 m pc als (st.map (qm_cv B0 sb sa))) := by
  simp only [qkB, qk_var, Bool.or_eq_true, Bool.and_eq_true, decide_eq_true_eq] at hq
  obtain ⟨l1, s1, h1, e⟩ := qa_lm2_inl _ ha
  subst e
  obtain ⟨⟨hn, hx⟩, hm⟩ := hq
  subst hn; rw [hx] at hd
  exact so_maxl X hw hl ho hm hd ha (k1 _ _ _ rfl)
theorem on_85 (X : qm_Cx p R s m args c cells slots d mi B0 sb sa sv L xs dC dI cs) (hw : qm_Wd s B0 L xs dC dI cs h H locs) (hl : qm_Lo mi B0 sb sa als ls) (ho : qm_So st) {r : qm_Act} {a : List Nat} {v : Int} (hd : decode (mC mi) pc = .ok (x, n)) (hq : qkB mi pc (85, a, v) x n = true) (hne : 85 ≠ 64 ∧ 85 ≠ 70 ∧ 85 ≠ 71 ∧ 85 ≠ 72 ∧ 85 ≠ 80 ∧ 85 ≠ 73) (ha : qm_act (85, a, v) ls st h = some r) (k1 : ∀ (ls' st' : List qm_AV) (h' : qm_Hp), r = .inl (ls', st', h') → ∀ (H1 : Heap) (locs1 : List Loc) (als1 : Array Slot), qm_Wd s B0 L xs dC dI cs h' H1 locs1 → qm_Lo mi B0 sb sa als1 ls' → qm_So st' → W p l e R s m args below meth c H1 locs1 cells slots Q (F0 m (pc + n) als1 (st'.map (qm_cv B0 sb sa)))) (k2 : ∀ (b : Nat) (st' : List qm_AV), r = .inr (.inl (b, st')) → qm_So st' → W p l e R s m args below meth c H locs cells slots Q (F0 m (qm_bpc mi b) als (st'.map (qm_cv B0 sb sa)))) : W p l e R s m args below meth c H locs cells slots Q (F0 m pc als (st.map (qm_cv B0 sb sa))) := by
  simp only [qkB, qk_var, Bool.or_eq_true, Bool.and_eq_true, decide_eq_true_eq] at hq
  obtain ⟨l1, s1, h1, e⟩ := qa_lm2_inl _ ha
  subst e
  obtain ⟨⟨hn, hx⟩, hm⟩ := hq
  subst hn; rw [hx] at hd
  exact so_minl X hw hl ho hm hd ha (k1 _ _ _ rfl)
theorem on_86 (X : qm_Cx p R s m args c cells slots d mi B0 sb sa sv L xs dC dI cs) (hw : qm_Wd s B0 L xs dC dI cs h H locs) (hl : qm_Lo mi B0 sb sa als ls) (ho : qm_So st) {r : qm_Act} {a : List Nat} {v : Int} (hd : decode (mC mi) pc = .ok (x, n)) (hq : qkB mi pc (86, a, v) x n = true) (hne : 86 ≠ 64 ∧ 86 ≠ 70 ∧ 86 ≠ 71 ∧ 86 ≠ 72 ∧ 86 ≠ 80 ∧ 86 ≠ 73) (ha : qm_act (86, a, v) ls st h = some r) (k1 : ∀ (ls' st' : List qm_AV) (h' : qm_Hp), r = .inl (ls', st', h') → ∀ (H1 : Heap) (locs1 : List Loc) (als1 : Array Slot), qm_Wd s B0 L xs dC dI cs h' H1 locs1 → qm_Lo mi B0 sb sa als1 ls' → qm_So st' → W p l e R s m args below meth c H1 locs1 cells slots Q (F0 m (pc + n) als1 (st'.map (qm_cv B0 sb sa)))) (k2 : ∀ (b : Nat) (st' : List qm_AV), r = .inr (.inl (b, st')) → qm_So st' → W p l e R s m args below meth c H locs cells slots Q (F0 m (qm_bpc mi b) als (st'.map (qm_cv B0 sb sa)))) : W p l e R s m args below meth c H locs cells slots Q (F0 m pc als (st.map (qm_cv B0 sb sa))) := by
  simp only [qkB, qk_var, Bool.or_eq_true, Bool.and_eq_true, decide_eq_true_eq] at hq
  obtain ⟨l1, s1, h1, e⟩ := qa_copy_inl ha
  subst e
  obtain ⟨⟨hn, hx⟩, hm⟩ := hq
  subst hn; rw [hx] at hd
  exact so_copy X hw hl ho hm hd ha (k1 _ _ _ rfl)
theorem on_87 (X : qm_Cx p R s m args c cells slots d mi B0 sb sa sv L xs dC dI cs) (hw : qm_Wd s B0 L xs dC dI cs h H locs) (hl : qm_Lo mi B0 sb sa als ls) (ho : qm_So st) {r : qm_Act} {a : List Nat} {v : Int} (hd : decode (mC mi) pc = .ok (x, n)) (hq : qkB mi pc (87, a, v) x n = true) (hne : 87 ≠ 64 ∧ 87 ≠ 70 ∧ 87 ≠ 71 ∧ 87 ≠ 72 ∧ 87 ≠ 80 ∧ 87 ≠ 73) (ha : qm_act (87, a, v) ls st h = some r) (k1 : ∀ (ls' st' : List qm_AV) (h' : qm_Hp), r = .inl (ls', st', h') → ∀ (H1 : Heap) (locs1 : List Loc) (als1 : Array Slot), qm_Wd s B0 L xs dC dI cs h' H1 locs1 → qm_Lo mi B0 sb sa als1 ls' → qm_So st' → W p l e R s m args below meth c H1 locs1 cells slots Q (F0 m (pc + n) als1 (st'.map (qm_cv B0 sb sa)))) (k2 : ∀ (b : Nat) (st' : List qm_AV), r = .inr (.inl (b, st')) → qm_So st' → W p l e R s m args below meth c H locs cells slots Q (F0 m (qm_bpc mi b) als (st'.map (qm_cv B0 sb sa)))) : W p l e R s m args below meth c H locs cells slots Q (F0 m pc als (st.map (qm_cv B0 sb sa))) := by
  simp only [qkB, qk_var, Bool.or_eq_true, Bool.and_eq_true, decide_eq_true_eq] at hq
  obtain ⟨l1, s1, h1, e⟩ := qa_slen_inl ha
  subst e
  obtain ⟨⟨hn, hx⟩, hm⟩ := hq
  subst hn; rw [hx] at hd
  exact so_slen X hw hl ho hm hd ha (k1 _ _ _ rfl)
theorem on_88 (X : qm_Cx p R s m args c cells slots d mi B0 sb sa sv L xs dC dI cs) (hw : qm_Wd s B0 L xs dC dI cs h H locs) (hl : qm_Lo mi B0 sb sa als ls) (ho : qm_So st) {r : qm_Act} {a : List Nat} {v : Int} (hd : decode (mC mi) pc = .ok (x, n)) (hq : qkB mi pc (88, a, v) x n = true) (hne : 88 ≠ 64 ∧ 88 ≠ 70 ∧ 88 ≠ 71 ∧ 88 ≠ 72 ∧ 88 ≠ 80 ∧ 88 ≠ 73) (ha : qm_act (88, a, v) ls st h = some r) (k1 : ∀ (ls' st' : List qm_AV) (h' : qm_Hp), r = .inl (ls', st', h') → ∀ (H1 : Heap) (locs1 : List Loc) (als1 : Array Slot), qm_Wd s B0 L xs dC dI cs h' H1 locs1 → qm_Lo mi B0 sb sa als1 ls' → qm_So st' → W p l e R s m args below meth c H1 locs1 cells slots Q (F0 m (pc + n) als1 (st'.map (qm_cv B0 sb sa)))) (k2 : ∀ (b : Nat) (st' : List qm_AV), r = .inr (.inl (b, st')) → qm_So st' → W p l e R s m args below meth c H locs cells slots Q (F0 m (qm_bpc mi b) als (st'.map (qm_cv B0 sb sa)))) : W p l e R s m args below meth c H locs cells slots Q (F0 m pc als (st.map (qm_cv B0 sb sa))) := by
  simp only [qkB, qk_var, Bool.or_eq_true, Bool.and_eq_true, decide_eq_true_eq] at hq
  obtain ⟨l1, s1, h1, e⟩ := qa_char_inl ha
  subst e
  obtain ⟨⟨hn, hx⟩, hm⟩ := hq
  subst hn; rw [hx] at hd
  exact so_char X hw hl ho hm hd ha (k1 _ _ _ rfl)
theorem qm_one (X : qm_Cx p R s m args c cells slots d mi B0 sb sa sv L xs dC dI cs) (hw : qm_Wd s B0 L xs dC dI cs h H locs) (hl : qm_Lo mi B0 sb sa als ls) (ho : qm_So st) {r : qm_Act} {i : qm_Ins} (hd : decode (mC mi) pc = .ok (x, n)) (hq : qkB mi pc i x n = true) (hne : i.1 ≠ 64 ∧ i.1 ≠ 70 ∧ i.1 ≠ 71 ∧ i.1 ≠ 72 ∧ i.1 ≠ 80 ∧ i.1 ≠ 73) (ha : qm_act i ls st h = some r) (k1 : ∀ (ls' st' : List qm_AV) (h' : qm_Hp), r = .inl (ls', st', h') → ∀ (H1 : Heap) (locs1 : List Loc) (als1 : Array Slot), qm_Wd s B0 L xs dC dI cs h' H1 locs1 → qm_Lo mi B0 sb sa als1 ls' → qm_So st' → W p l e R s m args below meth c H1 locs1 cells slots Q (F0 m (pc + n) als1 (st'.map (qm_cv B0 sb sa)))) (k2 : ∀ (b : Nat) (st' : List qm_AV), r = .inr (.inl (b, st')) → qm_So st' → W p l e R s m args below meth c H locs cells slots Q (F0 m (qm_bpc mi b) als (st'.map (qm_cv B0 sb sa)))) : W p l e R s m args below meth c H locs cells slots Q (F0 m pc als (st.map (qm_cv B0 sb sa))) := by
  obtain ⟨op, a, v⟩ := i
  have ha' := ha
  unfold qm_act at ha'
  dsimp only at ha' hne
  split at ha'
  · exact on_0 X hw hl ho hd hq hne ha k1 k2
  · exact on_1 X hw hl ho hd hq hne ha k1 k2
  · exact on_2 X hw hl ho hd hq hne ha k1 k2
  · exact on_3 X hw hl ho hd hq hne ha k1 k2
  · exact on_4 X hw hl ho hd hq hne ha k1 k2
  · exact on_5 X hw hl ho hd hq hne ha k1 k2
  · exact on_6 X hw hl ho hd hq hne ha k1 k2
  · exact on_7 X hw hl ho hd hq hne ha k1 k2
  · exact on_8 X hw hl ho hd hq hne ha k1 k2
  · exact on_10 X hw hl ho hd hq hne ha k1 k2
  · exact on_11 X hw hl ho hd hq hne ha k1 k2
  · exact on_12 X hw hl ho hd hq hne ha k1 k2
  · exact on_13 X hw hl ho hd hq hne ha k1 k2
  · exact on_14 X hw hl ho hd hq hne ha k1 k2
  · exact on_15 X hw hl ho hd hq hne ha k1 k2
  · exact on_16 X hw hl ho hd hq hne ha k1 k2
  · exact on_17 X hw hl ho hd hq hne ha k1 k2
  · exact on_18 X hw hl ho hd hq hne ha k1 k2
  · exact on_19 X hw hl ho hd hq hne ha k1 k2
  · exact on_20 X hw hl ho hd hq hne ha k1 k2
  · exact on_21 X hw hl ho hd hq hne ha k1 k2
  · exact on_22 X hw hl ho hd hq hne ha k1 k2
  · exact on_23 X hw hl ho hd hq hne ha k1 k2
  · exact on_24 X hw hl ho hd hq hne ha k1 k2
  · exact on_25 X hw hl ho hd hq hne ha k1 k2
  · exact on_26 X hw hl ho hd hq hne ha k1 k2
  · exact on_27 X hw hl ho hd hq hne ha k1 k2
  · exact on_28 X hw hl ho hd hq hne ha k1 k2
  · exact on_29 X hw hl ho hd hq hne ha k1 k2
  · exact on_30 X hw hl ho hd hq hne ha k1 k2
  · exact on_31 X hw hl ho hd hq hne ha k1 k2
  · exact on_32 X hw hl ho hd hq hne ha k1 k2
  · exact on_33 X hw hl ho hd hq hne ha k1 k2
  · exact on_34 X hw hl ho hd hq hne ha k1 k2
  · exact on_40 X hw hl ho hd hq hne ha k1 k2
  · exact on_41 X hw hl ho hd hq hne ha k1 k2
  · exact on_42 X hw hl ho hd hq hne ha k1 k2
  · exact on_43 X hw hl ho hd hq hne ha k1 k2
  · exact on_44 X hw hl ho hd hq hne ha k1 k2
  · exact on_45 X hw hl ho hd hq hne ha k1 k2
  · exact on_46 X hw hl ho hd hq hne ha k1 k2
  · exact on_47 X hw hl ho hd hq hne ha k1 k2
  · exact on_50 X hw hl ho hd hq hne ha k1 k2
  · exact on_51 X hw hl ho hd hq hne ha k1 k2
  · exact on_52 X hw hl ho hd hq hne ha k1 k2
  · exact on_53 X hw hl ho hd hq hne ha k1 k2
  · exact on_54 X hw hl ho hd hq hne ha k1 k2
  · exact on_55 X hw hl ho hd hq hne ha k1 k2
  · exact on_56 X hw hl ho hd hq hne ha k1 k2
  · exact on_57 X hw hl ho hd hq hne ha k1 k2
  · exact on_58 X hw hl ho hd hq hne ha k1 k2
  · exact on_60 X hw hl ho hd hq hne ha k1 k2
  · exact on_61 X hw hl ho hd hq hne ha k1 k2
  · exact on_62 X hw hl ho hd hq hne ha k1 k2
  · exact on_63 X hw hl ho hd hq hne ha k1 k2
  · exact on_64 X hw hl ho hd hq hne ha k1 k2
  · exact on_65 X hw hl ho hd hq hne ha k1 k2
  · exact on_66 X hw hl ho hd hq hne ha k1 k2
  · exact on_70 X hw hl ho hd hq hne ha k1 k2
  · exact on_71 X hw hl ho hd hq hne ha k1 k2
  · exact on_72 X hw hl ho hd hq hne ha k1 k2
  · exact on_73 X hw hl ho hd hq hne ha k1 k2
  · exact on_80 X hw hl ho hd hq hne ha k1 k2
  · exact on_81 X hw hl ho hd hq hne ha k1 k2
  · exact on_82 X hw hl ho hd hq hne ha k1 k2
  · exact on_83 X hw hl ho hd hq hne ha k1 k2
  · exact on_84 X hw hl ho hd hq hne ha k1 k2
  · exact on_85 X hw hl ho hd hq hne ha k1 k2
  · exact on_86 X hw hl ho hd hq hne ha k1 k2
  · exact on_87 X hw hl ho hd hq hne ha k1 k2
  · exact on_88 X hw hl ho hd hq hne ha k1 k2
  · cases ha'
end QDI
