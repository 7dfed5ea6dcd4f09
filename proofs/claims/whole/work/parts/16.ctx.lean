/-! the machine's step over the kit's rows -/
def qm_strT : String := "water size kind bark high top beside sunny wind sun rain air week wide tall posts crossed dry thick stand take heat beetle lay min max not and or on "
def qm_Str (B0 sa sv : Nat) (U : State) : Prop := vk_R RX5 49 qm_strT sa U ∧ vk_S 1 [qm_str.length] [qm_str.map Int32.ofNat] (fun _ => sa) (fun _ => sv) (fun q => B0 ≤ q) U U.heap ∧ va_Z "java/lang/String" "COMPACT_STRINGS" "Z" (.int 1) (fun q => B0 ≤ q) U U.heap ∧ ∃ v : Value, (v = .null ∨ ∃ a, v = .ref a) ∧ va_Z "jdk/internal/util/Preconditions" "SIOOBE_FORMATTER" "Ljava/util/function/BiFunction;" v (fun q => B0 ≤ q) U U.heap
/-- what a state says beside the machine's cells: classes, nest mates' links, the script, the text constant -/
def qm_Env (B0 sb sa sv L : Nat) (xs : Nat → Int32) (dC : Nat → ClassId) (dI : Nat → Nat → Nat) (cs : Nat × Nat × Nat × Nat × Nat) (U : State) : Prop :=
  va_K (dC, dI) qm_clss (qm_tys cs) U ∧ (∀ w ∈ qm_nest, va_Nw w U) ∧ va_X sb L xs U U.heap ∧ sb < B0 ∧ L < 2 ^ 31 ∧ B0 ≤ U.heap.size ∧ qm_Str B0 sa sv U
def qm_Cx (p : Program) (R : Room) (s : State) (m : MethodId) (args : Array Value) (c : Code) (cells slots d mi B0 sb sa sv L : Nat) (xs : Nat → Int32) (dC : Nat → ClassId) (dI : Nat → Nat → Nat) (cs : Nat × Nat × Nat × Nat × Nat) : Prop :=
  p.tables.exec = Jvm.exec ∧ c.code = mC mi ∧ c.maxLocals = qm_maxL mi ∧ s.vm.findClass (qm_cls (mN mi)) = some m.cls ∧ (∀ w ∈ qm_tb, w.before args s = true) ∧ qm_Env B0 sb sa sv L xs dC dI cs s ∧ cells ≤ R.cells ∧ slots ≤ R.slots ∧ d + 4 ≤ R.frames ∧ 64 * d + 256 ≤ R.locals
def qm_okP (q : Nat × Nat) : Prop := q.1 = 0 ∨ (q.1 = 4 ∧ q.2 < 5)
/-- final references are set -/
def qm_flags (h : qm_Hp) : Prop := ∀ k i f, (qm_fk k f = 3 ∨ f < qm_rlen k) → i < qm_cnt k → zI h k i f = 1
def qm_okH (h : qm_Hp) : Prop := qm_okP (zP h 5 0 0) ∧ qm_okP (zP h 6 0 1) ∧ qm_flags h
def qm_Wd (s : State) (B0 L : Nat) (xs : Nat → Int32) (dC : Nat → ClassId) (dI : Nat → Nat → Nat) (cs : Nat × Nat × Nat × Nat × Nat) (h : qm_Hp) (H : Heap) (locs : List Loc) : Prop :=
  va_P (dC, dI) qm_clss (qm_W B0 cs h) H ∧ va_D (fun q => B0 ≤ q) (qm_W B0 cs h) ∧ va_S (fun q => B0 ≤ q) s.heap H locs ∧ qm_okH h ∧ (∀ j, j < L → zI h 80 0 j = xs j) ∧ zI h 82 0 0 = nI L
def qm_Lo (mi B0 sb sa : Nat) (als : Array Slot) (ls : List qm_AV) : Prop := lv_has als (qm_maxL mi) (qm_lv B0 sb sa 0 ls) ∧ ls.length = qm_maxL mi ∧ ∀ v ∈ ls, v = qU ∨ qm_okV v
def qm_So (st : List qm_AV) : Prop := ∀ v ∈ st, qm_okV v
theorem qm_So.cons {v : qm_AV} {r : List qm_AV} (hv : qm_okV v) (h : qm_So r) : qm_So (v :: r) := fun w hw => (List.mem_cons.mp hw).elim (fun e => e ▸ hv) (h w)
theorem qm_So.t {v : qm_AV} {r : List qm_AV} (h : qm_So (v :: r)) : qm_So r := fun w hw => h w (List.mem_cons_of_mem _ hw)
theorem qm_So.h {v : qm_AV} {r : List qm_AV} (h : qm_So (v :: r)) : qm_okV v := h v List.mem_cons_self
theorem qm_ls_at : ∀ {l : List qm_AV} {k : Nat} {x : qm_AV} {n : Nat}, (qm_ls l k x)[n]? = if n = k ∧ k < l.length then some x else l[n]?
  | [], k, x, n => by simp [qm_ls]
  | v :: l, 0, x, n => by cases n <;> simp [qm_ls]
  | v :: l, k + 1, x, n => by
    cases n with
    | zero => simp [qm_ls]
    | succ n => simp [qm_ls, qm_ls_at (l := l) (k := k) (x := x) (n := n)]
theorem qm_ls_len : ∀ {l : List qm_AV} {k : Nat} {x : qm_AV}, (qm_ls l k x).length = l.length
  | [], k, x => rfl
  | v :: l, 0, x => rfl
  | v :: l, k + 1, x => by simp [qm_ls, qm_ls_len]
theorem qm_lg_at : ∀ {l : List qm_AV} {k : Nat} {v : qm_AV}, qm_lg l k = v → v ≠ qU → l[k]? = some v
  | [], k, v, h, hn => absurd h.symm hn
  | w :: l, 0, v, h, hn => by simpa [qm_lg] using h
  | w :: l, k + 1, v, h, hn => by simpa using qm_lg_at (l := l) (k := k) (by simpa [qm_lg] using h) hn
theorem qm_lg_get {l : List qm_AV} {k : Nat} {v : qm_AV} (h : l[k]? = some v) : qm_lg l k = v := by
  induction l generalizing k with
  | nil => simp at h
  | cons w l ih => cases k with
    | zero => simpa [qm_lg] using h
    | succ k => simpa [qm_lg] using ih (by simpa using h)
theorem qm_cv_P {B0 sb sa k i : Nat} (h0 : k ≠ 0) (h1 : k ≠ 80) (h2 : k ≠ 81) : qm_cv B0 sb sa (qP k i) = .ref (B0 + qm_ad k i) := by simp [qm_cv, h0, h1, h2]
theorem qm_cv_cat {B0 sb sa : Nat} (v : qm_AV) : (qm_cv B0 sb sa v).category = if qm_isL v = true then 2 else 1 := by
  rcases v with x | x | ⟨k, i⟩
  · rfl
  · rfl
  · simp only [qm_cv, qm_isL]
    split
    · rfl
    · split
      · rfl
      · split <;> rfl
theorem qm_Lo.at {mi B0 sb sa : Nat} {als : Array Slot} {ls : List qm_AV} {k : Nat} {v : qm_AV} (h : qm_Lo mi B0 sb sa als ls) (hk : qm_lg ls k = v) (hn : ∀ i, v ≠ qP 99 i) : als[k]? = some (.val (qm_cv B0 sb sa v)) := by
  have h1 := qm_lg_at hk (hn 0)
  have h2 := h.1.2.2 (0 + k, qm_cv B0 sb sa v) (qm_lv_mem.mpr ⟨k, v, h1, hn, rfl⟩)
  rw [Nat.zero_add] at h2
  exact h2
theorem qm_Lo.ok {mi B0 sb sa : Nat} {als : Array Slot} {ls : List qm_AV} {k : Nat} {v : qm_AV} (h : qm_Lo mi B0 sb sa als ls) (hk : qm_lg ls k = v) (hn : ∀ i, v ≠ qP 99 i) : qm_okV v := by
  rcases h.2.2 v (List.mem_of_getElem? (qm_lg_at hk (hn 0))) with e | e
  · exact absurd e (hn 0)
  · exact e
theorem qm_lv_s1 {B0 sb sa nL : Nat} {a : Array Slot} {ls : List qm_AV} {k : Nat} {x : qm_AV} (hk : k < ls.length) (h : lv_has a nL ((k, qm_cv B0 sb sa x) :: (qm_lv B0 sb sa 0 ls).filter (fun q => !(q.1 == k) && !(q.1 + 1 == k && q.2.category == 2)))) : lv_has a nL (qm_lv B0 sb sa 0 (qm_s1 ls k x)) := by
  refine ⟨h.1, h.2.1, fun q hq => h.2.2 q ?_⟩
  obtain ⟨n, v, h1, h2, rfl⟩ := qm_lv_mem.mp hq
  rw [Nat.zero_add]
  have hne : ∀ {l : List qm_AV}, (qm_ls l k x)[n]? = some v → n ≠ k → l[n]? = some v := by
    intro l hl hnk
    rw [qm_ls_at, if_neg (fun z => hnk z.1)] at hl
    exact hl
  by_cases hnk : n = k
  · subst hnk
    have : v = x := by
      cases n with
      | zero =>
        rw [qm_s1, qm_ls_at, if_pos ⟨rfl, hk⟩] at h1
        exact (Option.some.inj h1).symm
      | succ n =>
        rw [qm_s1] at h1
        split at h1
        · rw [qm_ls_at, if_pos ⟨rfl, by rw [qm_ls_len]; exact hk⟩] at h1
          exact (Option.some.inj h1).symm
        · rw [qm_ls_at, if_pos ⟨rfl, hk⟩] at h1
          exact (Option.some.inj h1).symm
    rw [this]
    exact List.mem_cons_self
  · refine List.mem_cons_of_mem _ (List.mem_filter.mpr ⟨?_, ?_⟩)
    · refine qm_lv_mem.mpr ⟨n, v, ?_, h2, by rw [Nat.zero_add]⟩
      cases k with
      | zero => exact hne h1 hnk
      | succ k =>
        rw [qm_s1] at h1
        split at h1
        · have h3 := hne h1 hnk
          rw [qm_ls_at] at h3
          split at h3
          · exact absurd (Option.some.inj h3).symm (h2 0)
          · exact h3
        · exact hne h1 hnk
    · simp only [Bool.and_eq_true, Bool.not_eq_true', beq_eq_false_iff_ne, ne_eq, hnk, not_false_eq_true, true_and, Bool.and_eq_false_iff, qm_cv_cat]
      by_cases hk2 : n + 1 = k
      · subst hk2
        right
        rw [qm_s1] at h1
        split at h1
        · next hL =>
          have h3 := hne h1 hnk
          rw [qm_ls_at, if_pos ⟨rfl, by omega⟩] at h3
          exact absurd (Option.some.inj h3).symm (h2 0)
        · next hL =>
          have h3 := hne h1 hnk
          rw [qm_lg_get h3] at hL
          simp [hL]
      · left
        exact hk2
theorem qm_s1_len {ls : List qm_AV} {k : Nat} {x : qm_AV} : (qm_s1 ls k x).length = ls.length := by
  cases k with
  | zero => exact qm_ls_len
  | succ k =>
    rw [qm_s1]
    split
    · rw [qm_ls_len, qm_ls_len]
    · exact qm_ls_len
theorem qm_ls_all {P : qm_AV → Prop} {ls : List qm_AV} {k : Nat} {x : qm_AV} (h : ∀ v ∈ ls, P v) (hx : P x) : ∀ v ∈ qm_ls ls k x, P v := by
  intro v hv
  obtain ⟨n, hn⟩ := List.getElem?_of_mem hv
  rw [qm_ls_at] at hn
  split at hn
  · cases hn; exact hx
  · exact h v (List.mem_of_getElem? hn)
theorem qm_s1_all {ls : List qm_AV} {k : Nat} {x : qm_AV} (h : ∀ v ∈ ls, v = qU ∨ qm_okV v) (hx : x = qU ∨ qm_okV x) : ∀ v ∈ qm_s1 ls k x, v = qU ∨ qm_okV v := by
  cases k with
  | zero => exact qm_ls_all h hx
  | succ k =>
    rw [qm_s1]
    split
    · exact qm_ls_all (qm_ls_all h (Or.inl rfl)) hx
    · exact qm_ls_all h hx
theorem qm_Lo.s1 {mi B0 sb sa : Nat} {als a : Array Slot} {ls : List qm_AV} {k : Nat} {x : qm_AV} (h : qm_Lo mi B0 sb sa als ls) (hk : k < ls.length) (hx : qm_okV x) (ha : lv_has a (qm_maxL mi) ((k, qm_cv B0 sb sa x) :: (qm_lv B0 sb sa 0 ls).filter (fun q => !(q.1 == k) && !(q.1 + 1 == k && q.2.category == 2)))) : qm_Lo mi B0 sb sa a (qm_s1 ls k x) :=
  ⟨qm_lv_s1 hk ha, by rw [qm_s1_len]; exact h.2.1, qm_s1_all h.2.2 (Or.inr hx)⟩
theorem qm_lv_s2 {B0 sb sa nL : Nat} {a : Array Slot} {ls : List qm_AV} {k : Nat} {x : qm_AV} (hk : k + 1 < ls.length) (h : lv_has a nL ((k, qm_cv B0 sb sa x) :: (qm_lv B0 sb sa 0 ls).filter (fun q => !(q.1 == k) && (!(q.1 == k + 1) && !(q.1 + 1 == k && q.2.category == 2))))) : lv_has a nL (qm_lv B0 sb sa 0 (qm_s2 ls k x)) := by
  have h1 : ∀ q ∈ qm_lv B0 sb sa 0 (qm_s2 ls k x), q ∈ qm_lv B0 sb sa 0 (qm_s1 ls k x) ∧ q.1 ≠ k + 1 := by
    intro q hq
    obtain ⟨n, v, g1, g2, rfl⟩ := qm_lv_mem.mp hq
    rw [qm_s2, qm_ls_at] at g1
    split at g1
    · cases g1
      exact absurd rfl (g2 0)
    · next hc => exact ⟨qm_lv_mem.mpr ⟨n, v, g1, g2, rfl⟩, fun z => hc ⟨by simpa using z, by rw [qm_s1_len]; exact hk⟩⟩
  have h2 : ∀ q ∈ qm_lv B0 sb sa 0 (qm_s1 ls k x), q ∈ ((k, qm_cv B0 sb sa x) :: (qm_lv B0 sb sa 0 ls).filter (fun q => !(q.1 == k) && !(q.1 + 1 == k && q.2.category == 2))) := by
    intro q hq
    -- the same walk as for one word, over a frame that holds just the listed values
    obtain ⟨n, v, g1, g2, rfl⟩ := qm_lv_mem.mp hq
    rw [Nat.zero_add]
    have hne : ∀ {l : List qm_AV}, (qm_ls l k x)[n]? = some v → n ≠ k → l[n]? = some v := by
      intro l hl hnk
      rw [qm_ls_at, if_neg (fun z => hnk z.1)] at hl
      exact hl
    have hk' : k < ls.length := by omega
    by_cases hnk : n = k
    · subst hnk
      have : v = x := by
        cases n with
        | zero =>
          rw [qm_s1, qm_ls_at, if_pos ⟨rfl, hk'⟩] at g1
          exact (Option.some.inj g1).symm
        | succ n =>
          rw [qm_s1] at g1
          split at g1
          · rw [qm_ls_at, if_pos ⟨rfl, by rw [qm_ls_len]; exact hk'⟩] at g1
            exact (Option.some.inj g1).symm
          · rw [qm_ls_at, if_pos ⟨rfl, hk'⟩] at g1
            exact (Option.some.inj g1).symm
      rw [this]
      exact List.mem_cons_self
    · refine List.mem_cons_of_mem _ (List.mem_filter.mpr ⟨?_, ?_⟩)
      · refine qm_lv_mem.mpr ⟨n, v, ?_, g2, by rw [Nat.zero_add]⟩
        cases k with
        | zero => exact hne g1 hnk
        | succ k =>
          rw [qm_s1] at g1
          split at g1
          · have h3 := hne g1 hnk
            rw [qm_ls_at] at h3
            split at h3
            · exact absurd (Option.some.inj h3).symm (g2 0)
            · exact h3
          · exact hne g1 hnk
      · simp only [Bool.and_eq_true, Bool.not_eq_true', beq_eq_false_iff_ne, ne_eq, hnk, not_false_eq_true, true_and, Bool.and_eq_false_iff, qm_cv_cat]
        by_cases hk2 : n + 1 = k
        · subst hk2
          right
          rw [qm_s1] at g1
          split at g1
          · next hL =>
            have h3 := hne g1 hnk
            rw [qm_ls_at, if_pos ⟨rfl, by omega⟩] at h3
            exact absurd (Option.some.inj h3).symm (g2 0)
          · next hL =>
            have h3 := hne g1 hnk
            rw [qm_lg_get h3] at hL
            simp [hL]
        · left
          exact hk2
  refine ⟨h.1, h.2.1, fun q hq => h.2.2 q ?_⟩
  obtain ⟨g1, g2⟩ := h1 q hq
  rcases List.mem_cons.mp (h2 q g1) with g | g
  · rw [g]; exact List.mem_cons_self
  · obtain ⟨g3, g4⟩ := List.mem_filter.mp g
    refine List.mem_cons_of_mem _ (List.mem_filter.mpr ⟨g3, ?_⟩)
    simp only [Bool.and_eq_true] at g4 ⊢
    exact ⟨g4.1, by simpa using g2, g4.2⟩
theorem qm_Lo.s2 {mi B0 sb sa : Nat} {als a : Array Slot} {ls : List qm_AV} {k : Nat} {x : qm_AV} (h : qm_Lo mi B0 sb sa als ls) (hk : k + 1 < ls.length) (hx : qm_okV x) (ha : lv_has a (qm_maxL mi) ((k, qm_cv B0 sb sa x) :: (qm_lv B0 sb sa 0 ls).filter (fun q => !(q.1 == k) && (!(q.1 == k + 1) && !(q.1 + 1 == k && q.2.category == 2))))) : qm_Lo mi B0 sb sa a (qm_s2 ls k x) :=
  ⟨qm_lv_s2 hk ha, by rw [qm_s2, qm_ls_len, qm_s1_len]; exact h.2.1, by rw [qm_s2]; exact qm_ls_all (qm_s1_all h.2.2 (Or.inr hx)) (Or.inl rfl)⟩
