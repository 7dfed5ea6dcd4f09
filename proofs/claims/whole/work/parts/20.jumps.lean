theorem qa_load_inl (a : List Nat) (t : Nat) {ls st : List qm_AV} {s : qm_Hp} {r : qm_Act} (h : qa_load a t ls st s = some r) : ∃ x y z, r = .inl (x, y, z) := by
  unfold qa_load at h
  repeat' split at h
  all_goals first | (cases h; done) | (cases h; exact ⟨_, _, _, rfl⟩)
theorem qa_store_inl (a : List Nat) (t : Nat) {ls st : List qm_AV} {s : qm_Hp} {r : qm_Act} (h : qa_store a t ls st s = some r) : ∃ x y z, r = .inl (x, y, z) := by
  unfold qa_store at h
  repeat' split at h
  all_goals first | (cases h; done) | (cases h; exact ⟨_, _, _, rfl⟩)
theorem qa_iinc_inl (a : List Nat) (c : Int) {ls st : List qm_AV} {s : qm_Hp} {r : qm_Act} (h : qa_iinc a c ls st s = some r) : ∃ x y z, r = .inl (x, y, z) := by
  unfold qa_iinc at h
  repeat' split at h
  all_goals first | (cases h; done) | (cases h; exact ⟨_, _, _, rfl⟩)
theorem qa_bin_inl (f : Int32 → Int32 → Int32) {ls st : List qm_AV} {s : qm_Hp} {r : qm_Act} (h : qa_bin f ls st s = some r) : ∃ x y z, r = .inl (x, y, z) := by
  unfold qa_bin at h
  repeat' split at h
  all_goals first | (cases h; done) | (cases h; exact ⟨_, _, _, rfl⟩)
theorem qa_div_inl (f : Int32 → Int32 → Int32) {ls st : List qm_AV} {s : qm_Hp} {r : qm_Act} (h : qa_div f ls st s = some r) : ∃ x y z, r = .inl (x, y, z) := by
  unfold qa_div at h
  repeat' split at h
  all_goals first | (cases h; done) | (cases h; exact ⟨_, _, _, rfl⟩)
theorem qa_neg_inl  {ls st : List qm_AV} {s : qm_Hp} {r : qm_Act} (h : qa_neg ls st s = some r) : ∃ x y z, r = .inl (x, y, z) := by
  unfold qa_neg at h
  repeat' split at h
  all_goals first | (cases h; done) | (cases h; exact ⟨_, _, _, rfl⟩)
theorem qa_lbin_inl (f : Int64 → Int64 → Int64) {ls st : List qm_AV} {s : qm_Hp} {r : qm_Act} (h : qa_lbin f ls st s = some r) : ∃ x y z, r = .inl (x, y, z) := by
  unfold qa_lbin at h
  repeat' split at h
  all_goals first | (cases h; done) | (cases h; exact ⟨_, _, _, rfl⟩)
theorem qa_ldiv_inl  {ls st : List qm_AV} {s : qm_Hp} {r : qm_Act} (h : qa_ldiv ls st s = some r) : ∃ x y z, r = .inl (x, y, z) := by
  unfold qa_ldiv at h
  repeat' split at h
  all_goals first | (cases h; done) | (cases h; exact ⟨_, _, _, rfl⟩)
theorem qa_lneg_inl  {ls st : List qm_AV} {s : qm_Hp} {r : qm_Act} (h : qa_lneg ls st s = some r) : ∃ x y z, r = .inl (x, y, z) := by
  unfold qa_lneg at h
  repeat' split at h
  all_goals first | (cases h; done) | (cases h; exact ⟨_, _, _, rfl⟩)
theorem qa_lshl_inl  {ls st : List qm_AV} {s : qm_Hp} {r : qm_Act} (h : qa_lshl ls st s = some r) : ∃ x y z, r = .inl (x, y, z) := by
  unfold qa_lshl at h
  repeat' split at h
  all_goals first | (cases h; done) | (cases h; exact ⟨_, _, _, rfl⟩)
theorem qa_lcmp_inl  {ls st : List qm_AV} {s : qm_Hp} {r : qm_Act} (h : qa_lcmp ls st s = some r) : ∃ x y z, r = .inl (x, y, z) := by
  unfold qa_lcmp at h
  repeat' split at h
  all_goals first | (cases h; done) | (cases h; exact ⟨_, _, _, rfl⟩)
theorem qa_i2l_inl  {ls st : List qm_AV} {s : qm_Hp} {r : qm_Act} (h : qa_i2l ls st s = some r) : ∃ x y z, r = .inl (x, y, z) := by
  unfold qa_i2l at h
  repeat' split at h
  all_goals first | (cases h; done) | (cases h; exact ⟨_, _, _, rfl⟩)
theorem qa_l2i_inl  {ls st : List qm_AV} {s : qm_Hp} {r : qm_Act} (h : qa_l2i ls st s = some r) : ∃ x y z, r = .inl (x, y, z) := by
  unfold qa_l2i at h
  repeat' split at h
  all_goals first | (cases h; done) | (cases h; exact ⟨_, _, _, rfl⟩)
theorem qa_dup_inl  {ls st : List qm_AV} {s : qm_Hp} {r : qm_Act} (h : qa_dup ls st s = some r) : ∃ x y z, r = .inl (x, y, z) := by
  unfold qa_dup at h
  repeat' split at h
  all_goals first | (cases h; done) | (cases h; exact ⟨_, _, _, rfl⟩)
theorem qa_dup2_inl  {ls st : List qm_AV} {s : qm_Hp} {r : qm_Act} (h : qa_dup2 ls st s = some r) : ∃ x y z, r = .inl (x, y, z) := by
  unfold qa_dup2 at h
  repeat' split at h
  all_goals first | (cases h; done) | (cases h; exact ⟨_, _, _, rfl⟩)
theorem qa_pop_inl  {ls st : List qm_AV} {s : qm_Hp} {r : qm_Act} (h : qa_pop ls st s = some r) : ∃ x y z, r = .inl (x, y, z) := by
  unfold qa_pop at h
  repeat' split at h
  all_goals first | (cases h; done) | (cases h; exact ⟨_, _, _, rfl⟩)
theorem qa_getI_inl (a : List Nat) {ls st : List qm_AV} {s : qm_Hp} {r : qm_Act} (h : qa_getI a ls st s = some r) : ∃ x y z, r = .inl (x, y, z) := by
  unfold qa_getI at h
  repeat' split at h
  all_goals first | (cases h; done) | (cases h; exact ⟨_, _, _, rfl⟩)
theorem qa_getL_inl (a : List Nat) {ls st : List qm_AV} {s : qm_Hp} {r : qm_Act} (h : qa_getL a ls st s = some r) : ∃ x y z, r = .inl (x, y, z) := by
  unfold qa_getL at h
  repeat' split at h
  all_goals first | (cases h; done) | (cases h; exact ⟨_, _, _, rfl⟩)
theorem qa_getP_inl (a : List Nat) {ls st : List qm_AV} {s : qm_Hp} {r : qm_Act} (h : qa_getP a ls st s = some r) : ∃ x y z, r = .inl (x, y, z) := by
  unfold qa_getP at h
  repeat' split at h
  all_goals first | (cases h; done) | (cases h; exact ⟨_, _, _, rfl⟩)
theorem qa_getM_inl (a : List Nat) {ls st : List qm_AV} {s : qm_Hp} {r : qm_Act} (h : qa_getM a ls st s = some r) : ∃ x y z, r = .inl (x, y, z) := by
  unfold qa_getM at h
  repeat' split at h
  all_goals first | (cases h; done) | (cases h; exact ⟨_, _, _, rfl⟩)
theorem qa_putI_inl (a : List Nat) {ls st : List qm_AV} {s : qm_Hp} {r : qm_Act} (h : qa_putI a ls st s = some r) : ∃ x y z, r = .inl (x, y, z) := by
  unfold qa_putI at h
  repeat' split at h
  all_goals first | (cases h; done) | (cases h; exact ⟨_, _, _, rfl⟩)
theorem qa_putZ_inl (a : List Nat) {ls st : List qm_AV} {s : qm_Hp} {r : qm_Act} (h : qa_putZ a ls st s = some r) : ∃ x y z, r = .inl (x, y, z) := by
  unfold qa_putZ at h
  repeat' split at h
  all_goals first | (cases h; done) | (cases h; exact ⟨_, _, _, rfl⟩)
theorem qa_putL_inl (a : List Nat) {ls st : List qm_AV} {s : qm_Hp} {r : qm_Act} (h : qa_putL a ls st s = some r) : ∃ x y z, r = .inl (x, y, z) := by
  unfold qa_putL at h
  repeat' split at h
  all_goals first | (cases h; done) | (cases h; exact ⟨_, _, _, rfl⟩)
theorem qa_putM_inl (a : List Nat) {ls st : List qm_AV} {s : qm_Hp} {r : qm_Act} (h : qa_putM a ls st s = some r) : ∃ x y z, r = .inl (x, y, z) := by
  unfold qa_putM at h
  repeat' split at h
  all_goals first | (cases h; done) | (cases h; exact ⟨_, _, _, rfl⟩)
theorem qa_null_inl (a : List Nat) {ls st : List qm_AV} {s : qm_Hp} {r : qm_Act} (h : qa_null a ls st s = some r) : ∃ x y z, r = .inl (x, y, z) := by
  unfold qa_null at h
  repeat' split at h
  all_goals first | (cases h; done) | (cases h; exact ⟨_, _, _, rfl⟩)
theorem qa_iald_inl  {ls st : List qm_AV} {s : qm_Hp} {r : qm_Act} (h : qa_iald ls st s = some r) : ∃ x y z, r = .inl (x, y, z) := by
  unfold qa_iald at h
  repeat' split at h
  all_goals first | (cases h; done) | (cases h; exact ⟨_, _, _, rfl⟩)
theorem qa_iast_inl  {ls st : List qm_AV} {s : qm_Hp} {r : qm_Act} (h : qa_iast ls st s = some r) : ∃ x y z, r = .inl (x, y, z) := by
  unfold qa_iast at h
  repeat' split at h
  all_goals first | (cases h; done) | (cases h; exact ⟨_, _, _, rfl⟩)
theorem qa_lald_inl  {ls st : List qm_AV} {s : qm_Hp} {r : qm_Act} (h : qa_lald ls st s = some r) : ∃ x y z, r = .inl (x, y, z) := by
  unfold qa_lald at h
  repeat' split at h
  all_goals first | (cases h; done) | (cases h; exact ⟨_, _, _, rfl⟩)
theorem qa_last_inl  {ls st : List qm_AV} {s : qm_Hp} {r : qm_Act} (h : qa_last ls st s = some r) : ∃ x y z, r = .inl (x, y, z) := by
  unfold qa_last at h
  repeat' split at h
  all_goals first | (cases h; done) | (cases h; exact ⟨_, _, _, rfl⟩)
theorem qa_bald_inl  {ls st : List qm_AV} {s : qm_Hp} {r : qm_Act} (h : qa_bald ls st s = some r) : ∃ x y z, r = .inl (x, y, z) := by
  unfold qa_bald at h
  repeat' split at h
  all_goals first | (cases h; done) | (cases h; exact ⟨_, _, _, rfl⟩)
theorem qa_bast_inl  {ls st : List qm_AV} {s : qm_Hp} {r : qm_Act} (h : qa_bast ls st s = some r) : ∃ x y z, r = .inl (x, y, z) := by
  unfold qa_bast at h
  repeat' split at h
  all_goals first | (cases h; done) | (cases h; exact ⟨_, _, _, rfl⟩)
theorem qa_aald_inl  {ls st : List qm_AV} {s : qm_Hp} {r : qm_Act} (h : qa_aald ls st s = some r) : ∃ x y z, r = .inl (x, y, z) := by
  unfold qa_aald at h
  repeat' split at h
  all_goals first | (cases h; done) | (cases h; exact ⟨_, _, _, rfl⟩)
theorem qa_alen_inl  {ls st : List qm_AV} {s : qm_Hp} {r : qm_Act} (h : qa_alen ls st s = some r) : ∃ x y z, r = .inl (x, y, z) := by
  unfold qa_alen at h
  repeat' split at h
  all_goals first | (cases h; done) | (cases h; exact ⟨_, _, _, rfl⟩)
theorem qa_abs_inl  {ls st : List qm_AV} {s : qm_Hp} {r : qm_Act} (h : qa_abs ls st s = some r) : ∃ x y z, r = .inl (x, y, z) := by
  unfold qa_abs at h
  repeat' split at h
  all_goals first | (cases h; done) | (cases h; exact ⟨_, _, _, rfl⟩)
theorem qa_copy_inl  {ls st : List qm_AV} {s : qm_Hp} {r : qm_Act} (h : qa_copy ls st s = some r) : ∃ x y z, r = .inl (x, y, z) := by
  unfold qa_copy at h
  repeat' split at h
  all_goals first | (cases h; done) | (cases h; exact ⟨_, _, _, rfl⟩)
theorem qa_slen_inl  {ls st : List qm_AV} {s : qm_Hp} {r : qm_Act} (h : qa_slen ls st s = some r) : ∃ x y z, r = .inl (x, y, z) := by
  unfold qa_slen at h
  repeat' split at h
  all_goals first | (cases h; done) | (cases h; exact ⟨_, _, _, rfl⟩)
theorem qa_char_inl  {ls st : List qm_AV} {s : qm_Hp} {r : qm_Act} (h : qa_char ls st s = some r) : ∃ x y z, r = .inl (x, y, z) := by
  unfold qa_char at h
  repeat' split at h
  all_goals first | (cases h; done) | (cases h; exact ⟨_, _, _, rfl⟩)
theorem qa_m2_inl (f : Int32 → Int32 → Int32) {ls st : List qm_AV} {s : qm_Hp} {r : qm_Act} (h : qa_m2 f ls st s = some r) : ∃ x y z, r = .inl (x, y, z) := by
  unfold qa_m2 at h
  repeat' split at h
  all_goals first | (cases h; done) | (cases h; exact ⟨_, _, _, rfl⟩)
theorem qa_lm2_inl (f : Int64 → Int64 → Int64) {ls st : List qm_AV} {s : qm_Hp} {r : qm_Act} (h : qa_lm2 f ls st s = some r) : ∃ x y z, r = .inl (x, y, z) := by
  unfold qa_lm2 at h
  repeat' split at h
  all_goals first | (cases h; done) | (cases h; exact ⟨_, _, _, rfl⟩)
theorem qm_ofInt_toInt {a : Int} (h0 : 0 ≤ a) (h1 : a < 100000) : (Int32.ofInt a).toInt = a := Int32.toInt_ofInt_of_le (by omega) (by omega)
theorem qm_sw_in : ∀ (bs : List Nat) (lo : Int) (x : Int32) (df : Nat), 0 ≤ lo → lo + bs.length < 100000 → ¬ x.toInt < lo → x.toInt < lo + bs.length → ∃ b, bs[(x.toInt - lo).toNat]? = some b ∧ qm_sw bs lo x df = b
  | [], lo, x, df, h0, h1, h2, h3 => by simp at h3; omega
  | b :: r, lo, x, df, h0, h1, h2, h3 => by
    simp only [List.length_cons] at h1 h3
    rw [qm_sw]
    by_cases hx : x = Int32.ofInt lo
    · rw [if_pos hx]
      refine ⟨b, ?_, rfl⟩
      have : x.toInt = lo := by rw [hx]; exact qm_ofInt_toInt h0 (by omega)
      rw [this]
      simp
    · rw [if_neg hx]
      have hne : x.toInt ≠ lo := fun z => hx (Int32.toInt_inj.mp (by rw [z, qm_ofInt_toInt h0 (by omega)]))
      obtain ⟨b', e1, e2⟩ := qm_sw_in r (lo + 1) x df (by omega) (by omega) (by omega) (by omega)
      refine ⟨b', ?_, e2⟩
      have : (x.toInt - lo).toNat = (x.toInt - (lo + 1)).toNat + 1 := by omega
      rw [this]
      simpa using e1
theorem qm_sw_out : ∀ (bs : List Nat) (lo : Int) (x : Int32) (df : Nat), 0 ≤ lo → lo + bs.length < 100000 → (x.toInt < lo ∨ lo + bs.length - 1 < x.toInt) → qm_sw bs lo x df = df
  | [], lo, x, df, h0, h1, h2 => rfl
  | b :: r, lo, x, df, h0, h1, h2 => by
    simp only [List.length_cons] at h1 h2
    have hx : ¬ x = Int32.ofInt lo := fun z => by
      have : x.toInt = lo := by rw [z]; exact qm_ofInt_toInt h0 (by omega)
      omega
    rw [qm_sw, if_neg hx]
    exact qm_sw_out r (lo + 1) x df (by omega) (by omega) (by omega)
theorem qm_lk_off (mi pc : Nat) (dflt : Int) (df : Nat) (x : Int32) (hdf : (pc : Int) + dflt = (qm_bpc mi df : Int)) : ∀ (bs : List Nat) (ps : List (Int × Int)), ps.map (fun o => (o.1, (pc : Int) + o.2)) = (qk_pairs bs).map (fun q => ((q.1 : Int), (qm_bpc mi q.2 : Int))) → (qk_pairs bs).all (fun q => decide (q.1 < 1000)) = true → bs.length % 2 = 0 → (pc : Int) + Op.lookupswitch.offset ps dflt x.toInt = (qm_bpc mi (qm_lk bs x df) : Int)
  | [], ps, h, _, _ => by
    cases ps with
    | nil => exact hdf
    | cons a r => simp [qk_pairs] at h
  | [k], ps, h, _, hl => by simp at hl
  | k :: b :: r, ps, h, ha, hl => by
    cases ps with
    | nil => simp [qk_pairs] at h
    | cons a ps =>
      obtain ⟨a1, a2⟩ := a
      simp only [qk_pairs, List.map_cons, List.cons.injEq, Prod.mk.injEq] at h
      simp only [qk_pairs, List.all_cons, Bool.and_eq_true, decide_eq_true_eq] at ha
      obtain ⟨⟨h1, h2⟩, h3⟩ := h
      rw [Op.lookupswitch.offset_cons, qm_lk]
      have hk : (Int32.ofNat k).toInt = (k : Int) := nI_toInt (by have := ha.1; omega)
      by_cases hx : x = Int32.ofNat k
      · rw [if_pos (by rw [hx, hk]; exact h1), if_pos hx]
        exact h2
      · rw [if_neg (fun z => hx (Int32.toInt_inj.mp (by rw [hk, ← h1]; exact z.symm))), if_neg hx]
        exact qm_lk_off mi pc dflt df x hdf r ps h3 ha.2 (by simp at hl; omega)
section QON
variable {p : Program} {l : Launch} {e : Env} {R : Room} {s : State} {m : MethodId} {args : Array Value} {below : List Frame} {meth : Method} {c : Code} {cells slots : Nat} {Q : State → Prop} {H : Heap} {locs : List Loc}
variable {d B0 sb sa sv L mi : Nat} {xs : Nat → Int32} {dC : Nat → ClassId} {dI : Nat → Nat → Nat} {cs : Nat × Nat × Nat × Nat × Nat} {pc n : Nat} {als : Array Slot} {ls st ls' st' : List qm_AV} {h h' : qm_Hp} {x : Instr}
theorem so_icmp (X : qm_Cx p R s m args c cells slots d mi B0 sb sa sv L xs dC dI cs) (hw : qm_Wd s B0 L xs dC dI cs h H locs) (hl : qm_Lo mi B0 sb sa als ls) (ho : qm_So st) {r : qm_Act} {c0 b0 : Nat} (hd : decode (mC mi) pc = .ok (.if_icmp (qk_cnd c0) (qk_off x), n)) (hn : n = 3) (ht : (pc : Int) + qk_off x = (qm_bpc mi b0 : Int)) (ha : qa_icmp [c0, b0] ls st h = some r) (k1 : ∀ (ls' st' : List qm_AV) (h' : qm_Hp), r = .inl (ls', st', h') → ∀ (H1 : Heap) (locs1 : List Loc) (als1 : Array Slot), qm_Wd s B0 L xs dC dI cs h' H1 locs1 → qm_Lo mi B0 sb sa als1 ls' → qm_So st' → W p l e R s m args below meth c H1 locs1 cells slots Q (F0 m (pc + n) als1 (st'.map (qm_cv B0 sb sa)))) (k2 : ∀ (b : Nat) (st' : List qm_AV), r = .inr (.inl (b, st')) → qm_So st' → W p l e R s m args below meth c H locs cells slots Q (F0 m (qm_bpc mi b) als (st'.map (qm_cv B0 sb sa)))) : W p l e R s m args below meth c H locs cells slots Q (F0 m pc als (st.map (qm_cv B0 sb sa))) := by
  subst hn
  unfold qa_icmp at ha
  rcases st with _ | ⟨v, _ | ⟨v2, t⟩⟩
  · cases ha
  · rcases v with v | v | ⟨q', i'⟩ <;> cases ha
  · rcases v with y | v | ⟨q', i'⟩
    · rcases v2 with x0 | v2 | ⟨q, i⟩
      · replace ha : (if qm_cond c0 x0 y = true then some (.inr (.inl (b0, t))) else some (.inl (ls, t, h)) : Option qm_Act) = some r := ha
        match c0, hd, ha with
        | 0, hd, ha =>
          simp only [qm_cond] at ha
          exact lv_icmp_eq X.1 X.2.1 hd ht (fun hc => k2 b0 t (by rw [decide_eq_true hc] at ha; exact (Option.some.inj ha).symm) ho.t.t) (fun hc => k1 ls t h (by rw [decide_eq_false hc] at ha; exact (Option.some.inj ha).symm) H locs als hw hl ho.t.t)
        | 1, hd, ha =>
          simp only [qm_cond] at ha
          exact lv_icmp_ne X.1 X.2.1 hd ht (fun hc => k2 b0 t (by rw [decide_eq_true hc] at ha; exact (Option.some.inj ha).symm) ho.t.t) (fun hc => k1 ls t h (by rw [decide_eq_false (fun z => z hc)] at ha; exact (Option.some.inj ha).symm) H locs als hw hl ho.t.t)
        | 2, hd, ha =>
          simp only [qm_cond] at ha
          exact lv_icmp_lt X.1 X.2.1 hd ht (fun hc => k2 b0 t (by rw [decide_eq_true hc] at ha; exact (Option.some.inj ha).symm) ho.t.t) (fun hc => k1 ls t h (by rw [decide_eq_false hc] at ha; exact (Option.some.inj ha).symm) H locs als hw hl ho.t.t)
        | 3, hd, ha =>
          simp only [qm_cond] at ha
          exact lv_icmp_ge X.1 X.2.1 hd ht (fun hc => k2 b0 t (by rw [decide_eq_true hc] at ha; exact (Option.some.inj ha).symm) ho.t.t) (fun hc => k1 ls t h (by rw [decide_eq_false hc] at ha; exact (Option.some.inj ha).symm) H locs als hw hl ho.t.t)
        | 4, hd, ha =>
          simp only [qm_cond] at ha
          exact lv_icmp_gt X.1 X.2.1 hd ht (fun hc => k2 b0 t (by rw [decide_eq_true hc] at ha; exact (Option.some.inj ha).symm) ho.t.t) (fun hc => k1 ls t h (by rw [decide_eq_false hc] at ha; exact (Option.some.inj ha).symm) H locs als hw hl ho.t.t)
        | _ + 5, hd, ha =>
          simp only [qm_cond] at ha
          exact lv_icmp_le X.1 X.2.1 hd ht (fun hc => k2 b0 t (by rw [decide_eq_true hc] at ha; exact (Option.some.inj ha).symm) ho.t.t) (fun hc => k1 ls t h (by rw [decide_eq_false hc] at ha; exact (Option.some.inj ha).symm) H locs als hw hl ho.t.t)
      · cases ha
      · cases ha
    · rcases v2 with v2 | v2 | ⟨q, i⟩ <;> cases ha
    · rcases v2 with v2 | v2 | ⟨q, i⟩ <;> cases ha
theorem so_if (X : qm_Cx p R s m args c cells slots d mi B0 sb sa sv L xs dC dI cs) (hw : qm_Wd s B0 L xs dC dI cs h H locs) (hl : qm_Lo mi B0 sb sa als ls) (ho : qm_So st) {r : qm_Act} {c0 b0 : Nat} (hd : decode (mC mi) pc = .ok (.ifCond (qk_cnd c0) (qk_off x), n)) (hn : n = 3) (ht : (pc : Int) + qk_off x = (qm_bpc mi b0 : Int)) (ha : qa_if [c0, b0] ls st h = some r) (k1 : ∀ (ls' st' : List qm_AV) (h' : qm_Hp), r = .inl (ls', st', h') → ∀ (H1 : Heap) (locs1 : List Loc) (als1 : Array Slot), qm_Wd s B0 L xs dC dI cs h' H1 locs1 → qm_Lo mi B0 sb sa als1 ls' → qm_So st' → W p l e R s m args below meth c H1 locs1 cells slots Q (F0 m (pc + n) als1 (st'.map (qm_cv B0 sb sa)))) (k2 : ∀ (b : Nat) (st' : List qm_AV), r = .inr (.inl (b, st')) → qm_So st' → W p l e R s m args below meth c H locs cells slots Q (F0 m (qm_bpc mi b) als (st'.map (qm_cv B0 sb sa)))) : W p l e R s m args below meth c H locs cells slots Q (F0 m pc als (st.map (qm_cv B0 sb sa))) := by
  subst hn
  unfold qa_if at ha
  rcases st with _ | ⟨v, t⟩
  · cases ha
  · rcases v with x0 | v | ⟨q', i'⟩
    · replace ha : (if qm_cond c0 x0 0 = true then some (.inr (.inl (b0, t))) else some (.inl (ls, t, h)) : Option qm_Act) = some r := ha
      match c0, hd, ha with
      | 0, hd, ha =>
        simp only [qm_cond] at ha
        exact lv_if_eq X.1 X.2.1 hd ht (fun hc => k2 b0 t (by rw [decide_eq_true hc] at ha; exact (Option.some.inj ha).symm) ho.t) (fun hc => k1 ls t h (by rw [decide_eq_false hc] at ha; exact (Option.some.inj ha).symm) H locs als hw hl ho.t)
      | 1, hd, ha =>
        simp only [qm_cond] at ha
        exact lv_if_ne X.1 X.2.1 hd ht (fun hc => k2 b0 t (by rw [decide_eq_true hc] at ha; exact (Option.some.inj ha).symm) ho.t) (fun hc => k1 ls t h (by rw [decide_eq_false (fun z => z hc)] at ha; exact (Option.some.inj ha).symm) H locs als hw hl ho.t)
      | 2, hd, ha =>
        simp only [qm_cond] at ha
        exact lv_if_lt X.1 X.2.1 hd ht (fun hc => k2 b0 t (by rw [decide_eq_true hc] at ha; exact (Option.some.inj ha).symm) ho.t) (fun hc => k1 ls t h (by rw [decide_eq_false hc] at ha; exact (Option.some.inj ha).symm) H locs als hw hl ho.t)
      | 3, hd, ha =>
        simp only [qm_cond] at ha
        exact lv_if_ge X.1 X.2.1 hd ht (fun hc => k2 b0 t (by rw [decide_eq_true hc] at ha; exact (Option.some.inj ha).symm) ho.t) (fun hc => k1 ls t h (by rw [decide_eq_false hc] at ha; exact (Option.some.inj ha).symm) H locs als hw hl ho.t)
      | 4, hd, ha =>
        simp only [qm_cond] at ha
        exact lv_if_gt X.1 X.2.1 hd ht (fun hc => k2 b0 t (by rw [decide_eq_true hc] at ha; exact (Option.some.inj ha).symm) ho.t) (fun hc => k1 ls t h (by rw [decide_eq_false hc] at ha; exact (Option.some.inj ha).symm) H locs als hw hl ho.t)
      | _ + 5, hd, ha =>
        simp only [qm_cond] at ha
        exact lv_if_le X.1 X.2.1 hd ht (fun hc => k2 b0 t (by rw [decide_eq_true hc] at ha; exact (Option.some.inj ha).symm) ho.t) (fun hc => k1 ls t h (by rw [decide_eq_false hc] at ha; exact (Option.some.inj ha).symm) H locs als hw hl ho.t)
    · cases ha
    · cases ha
theorem so_tsw (X : qm_Cx p R s m args c cells slots d mi B0 sb sa sv L xs dC dI cs) (hw : qm_Wd s B0 L xs dC dI cs h H locs) (hl : qm_Lo mi B0 sb sa als ls) (ho : qm_So st) {r : qm_Act} {df : Nat} {bs : List Nat} {lo : Int} (hd : decode (mC mi) pc = .ok (.tableswitch (qk_tsw x).1 (qk_tsw x).2.1 (qk_tsw x).2.2.1 (qk_tsw x).2.2.2, n)) (h1 : (qk_tsw x).2.1 = lo) (h2 : (qk_tsw x).2.2.1 = lo + bs.length - 1) (h3 : 0 ≤ lo) (h4 : bs.length < 1000) (h5 : lo < 1000) (h6 : (pc : Int) + (qk_tsw x).1 = (qm_bpc mi df : Int)) (h7 : (qk_tsw x).2.2.2.toList.map (fun o => (pc : Int) + o) = bs.map (fun b => (qm_bpc mi b : Int))) (ha : qa_tsw (df :: bs) lo st = some r) (k2 : ∀ (b : Nat) (st' : List qm_AV), r = .inr (.inl (b, st')) → qm_So st' → W p l e R s m args below meth c H locs cells slots Q (F0 m (qm_bpc mi b) als (st'.map (qm_cv B0 sb sa)))) : W p l e R s m args below meth c H locs cells slots Q (F0 m pc als (st.map (qm_cv B0 sb sa))) := by
  unfold qa_tsw at ha
  rcases st with _ | ⟨v, t⟩
  · cases ha
  · rcases v with x0 | v | ⟨q', i'⟩
    · have e : r = .inr (.inl (qm_sw bs lo x0 df, t)) := (Option.some.inj ha).symm
      have k3 := k2 _ t e ho.t
      rw [h1, h2] at hd
      by_cases hc : x0.toInt < lo ∨ lo + bs.length - 1 < x0.toInt
      · rw [qm_sw_out bs lo x0 df h3 (by omega) hc] at k3
        exact lv_tableOut X.1 X.2.1 hd hc h6 k3
      · obtain ⟨b, e1, e2⟩ := qm_sw_in bs lo x0 df h3 (by omega) (fun z => hc (Or.inl z)) (by have : ¬ lo + bs.length - 1 < x0.toInt := fun z => hc (Or.inr z); omega)
        rw [e2] at k3
        have h8 : ((qk_tsw x).2.2.2.toList.map (fun o => (pc : Int) + o))[(x0.toInt - lo).toNat]? = some (qm_bpc mi b : Int) := by rw [h7, List.getElem?_map, e1]; rfl
        rw [List.getElem?_map] at h8
        cases ho2 : (qk_tsw x).2.2.2.toList[(x0.toInt - lo).toNat]? with
        | none => rw [ho2] at h8; cases h8
        | some off =>
          rw [ho2] at h8
          exact lv_tableIn X.1 X.2.1 hd (fun z => hc (Or.inl z)) (fun z => hc (Or.inr z)) (by rw [← Array.getElem?_toList]; exact ho2) (Option.some.inj h8) k3
    · cases ha
    · cases ha
theorem so_lsw (X : qm_Cx p R s m args c cells slots d mi B0 sb sa sv L xs dC dI cs) (hw : qm_Wd s B0 L xs dC dI cs h H locs) (hl : qm_Lo mi B0 sb sa als ls) (ho : qm_So st) {r : qm_Act} {df : Nat} {bs : List Nat} (hd : decode (mC mi) pc = .ok (.lookupswitch (qk_lsw x).1 (qk_lsw x).2, n)) (h1 : ((qk_lsw x).2.toList.zip ((qk_lsw x).2.toList.drop 1)).all (fun (a, next) => a.1 < next.1) = true) (h2 : (pc : Int) + (qk_lsw x).1 = (qm_bpc mi df : Int)) (h3 : (qk_lsw x).2.toList.map (fun o => (o.1, (pc : Int) + o.2)) = (qk_pairs bs).map (fun q => ((q.1 : Int), (qm_bpc mi q.2 : Int)))) (h4 : bs.length % 2 = 0) (h5 : (qk_pairs bs).all (fun q => decide (q.1 < 1000)) = true) (ha : qa_lsw (df :: bs) st = some r) (k2 : ∀ (b : Nat) (st' : List qm_AV), r = .inr (.inl (b, st')) → qm_So st' → W p l e R s m args below meth c H locs cells slots Q (F0 m (qm_bpc mi b) als (st'.map (qm_cv B0 sb sa)))) : W p l e R s m args below meth c H locs cells slots Q (F0 m pc als (st.map (qm_cv B0 sb sa))) := by
  unfold qa_lsw at ha
  rcases st with _ | ⟨v, t⟩
  · cases ha
  · rcases v with x0 | v | ⟨q', i'⟩
    · have e : r = .inr (.inl (qm_lk bs x0 df, t)) := (Option.some.inj ha).symm
      exact lv_lookup X.1 X.2.1 hd h1 rfl (qm_lk_off mi pc _ df x0 h2 bs _ h3 h5 h4) (k2 _ t e ho.t)
    · cases ha
    · cases ha
theorem so_null (X : qm_Cx p R s m args c cells slots d mi B0 sb sa sv L xs dC dI cs) (hw : qm_Wd s B0 L xs dC dI cs h H locs) (hl : qm_Lo mi B0 sb sa als ls) (ho : qm_So st) {a : List Nat} (hd : decode (mC mi) pc = .ok (.ifnull (qk_off x), 3)) (ha : qa_null a ls st h = some (.inl (ls', st', h'))) (kk : ∀ (H1 : Heap) (locs1 : List Loc) (als1 : Array Slot), qm_Wd s B0 L xs dC dI cs h' H1 locs1 → qm_Lo mi B0 sb sa als1 ls' → qm_So st' → W p l e R s m args below meth c H1 locs1 cells slots Q (F0 m (pc + 3) als1 (st'.map (qm_cv B0 sb sa)))) : W p l e R s m args below meth c H locs cells slots Q (F0 m pc als (st.map (qm_cv B0 sb sa))) := by
  unfold qa_null at ha
  split at ha
  · next b q j t =>
    split at ha
    · cases ha
    · next hq =>
      cases ha
      have h0 : ∃ a : Nat, qm_cv B0 sb sa (qP q j) = .ref a := by
        simp only [qm_cv]
        rw [if_neg hq]
        split
        · exact ⟨_, rfl⟩
        · split <;> exact ⟨_, rfl⟩
      obtain ⟨a, ea⟩ := h0
      rw [List.map_cons, ea]
      exact lv_ifnull X.1 X.2.1 hd (kk H locs als hw hl ho.t)
  · cases ha
end QON
