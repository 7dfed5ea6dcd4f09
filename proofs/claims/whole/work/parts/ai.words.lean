/-! words: the class's number of a word against the reference's packed one -/
def gl (B : Nat → Nat) : Nat → Nat → List Nat
  | _, 0 => []
  | f, n + 1 => B f :: gl B (f + 1) n
theorem gl_len (B : Nat → Nat) : ∀ n f, (gl B f n).length = n
  | 0, _ => rfl
  | n + 1, f => by
    show (gl B (f + 1) n).length + 1 = n + 1
    rw [gl_len B n (f + 1)]
theorem wo_w {B : Nat → Nat} {f e : Nat} (cs : List Nat) (k : Nat) : ∀ (w : List Nat) (j : Nat) (sm : Bool), (∀ c, c ∈ w → c ≠ 32) → wo B f e (w ++ 32 :: cs) k j sm = if sm = true ∧ f + j ≤ e ∧ gl B (f + j) (e - (f + j)) = w then k else wo B f e cs (k + 1) 0 true
  | [], j, sm, _ => by
    show (if (32 : Nat) = 32 then (if sm = true ∧ f + j = e then k else wo B f e cs (k + 1) 0 true) else wo B f e cs k (j + 1) (sm && decide (f + j < e ∧ B (f + j) = 32))) = _
    rw [if_pos rfl]
    by_cases q : sm = true ∧ f + j = e
    · rw [if_pos q, if_pos ⟨q.1, by omega, by rw [show e - (f + j) = 0 by omega]; rfl⟩]
    · rw [if_neg q]
      refine (if_neg (fun g => q ⟨g.1, ?_⟩)).symm
      have h1 := congrArg List.length g.2.2
      rw [gl_len] at h1
      have h2 : e - (f + j) = 0 := h1
      have h3 := g.2.1
      omega
  | c :: w, j, sm, h => by
    have hc : c ≠ 32 := h c (List.mem_cons_self ..)
    show (if c = 32 then (if sm = true ∧ f + j = e then k else wo B f e (w ++ 32 :: cs) (k + 1) 0 true) else wo B f e (w ++ 32 :: cs) k (j + 1) (sm && decide (f + j < e ∧ B (f + j) = c))) = _
    rw [if_neg hc, wo_w cs k w (j + 1) _ (fun c' h' => h c' (List.mem_cons_of_mem _ h'))]
    have iff : ((sm && decide (f + j < e ∧ B (f + j) = c)) = true ∧ f + (j + 1) ≤ e ∧ gl B (f + (j + 1)) (e - (f + (j + 1))) = w) ↔ (sm = true ∧ f + j ≤ e ∧ gl B (f + j) (e - (f + j)) = c :: w) := by
      constructor
      · intro g
        obtain ⟨g1, g2, g3⟩ := g
        rw [Bool.and_eq_true] at g1
        have g4 := of_decide_eq_true g1.2
        refine ⟨g1.1, by omega, ?_⟩
        rw [show e - (f + j) = (e - (f + (j + 1))) + 1 by omega]
        show B (f + j) :: gl B (f + j + 1) (e - (f + (j + 1))) = c :: w
        rw [g4.2]
        exact congrArg _ g3
      · intro g
        obtain ⟨g1, g2, g3⟩ := g
        have hl := congrArg List.length g3
        rw [gl_len, List.length_cons] at hl
        rw [show e - (f + j) = (e - (f + (j + 1))) + 1 by omega] at g3
        have g3 : B (f + j) :: gl B (f + j + 1) (e - (f + (j + 1))) = c :: w := g3
        injection g3 with g4 g5
        refine ⟨?_, by omega, g5⟩
        rw [Bool.and_eq_true]
        exact ⟨g1, decide_eq_true ⟨by omega, g4⟩⟩
    exact ite_congr (propext iff) (fun _ => rfl) (fun _ => rfl)
def WS : List (List Nat) := [[119, 97, 116, 101, 114], [115, 105, 122, 101], [107, 105, 110, 100], [98, 97, 114, 107], [104, 105, 103, 104], [116, 111, 112], [98, 101, 115, 105, 100, 101], [115, 117, 110, 110, 121], [119, 105, 110, 100], [115, 117, 110], [114, 97, 105, 110], [97, 105, 114], [119, 101, 101, 107], [119, 105, 100, 101], [116, 97, 108, 108], [112, 111, 115, 116, 115], [99, 114, 111, 115, 115, 101, 100], [100, 114, 121], [116, 104, 105, 99, 107], [115, 116, 97, 110, 100], [116, 97, 107, 101], [104, 101, 97, 116], [98, 101, 101, 116, 108, 101], [108, 97, 121], [109, 105, 110], [109, 97, 120], [110, 111, 116], [97, 110, 100], [111, 114], [111, 110]]
theorem str_WS : qm_str = (WS.map (fun w => w ++ [32])).flatten := by decide +kernel
def wk (g : List Nat) : List (List Nat) → Nat → Nat
  | [], _ => 42
  | w :: ws, k => if g = w then k else wk g ws (k + 1)
theorem wo_wk {B : Nat → Nat} {f e : Nat} (he : f ≤ e) : ∀ (ws : List (List Nat)) (k : Nat), (∀ w, w ∈ ws → ∀ c, c ∈ w → c ≠ 32) → wo B f e (ws.map (fun w => w ++ [32])).flatten k 0 true = wk (gl B f (e - f)) ws k
  | [], k, _ => rfl
  | w :: ws, k, h => by
    have e1 : ((w :: ws).map (fun w => w ++ [32])).flatten = w ++ 32 :: (ws.map (fun w => w ++ [32])).flatten := by
      rw [List.map_cons, List.flatten_cons, List.append_assoc]; rfl
    rw [e1, wo_w _ _ _ _ _ (h w (List.mem_cons_self ..)), wo_wk he ws (k + 1) (fun w' h' => h w' (List.mem_cons_of_mem _ h'))]
    show _ = if gl B f (e - f) = w then k else wk (gl B f (e - f)) ws (k + 1)
    exact ite_congr (propext ⟨fun g => g.2.2, fun g => ⟨rfl, he, g⟩⟩) (fun _ => rfl) (fun _ => rfl)
theorem wk_or (g : List Nat) : ∀ (ws : List (List Nat)) (k : Nat), wk g ws k = 42 ∨ ∃ i, i < ws.length ∧ wk g ws k = k + i ∧ g = ws.getD i []
  | [], _ => Or.inl rfl
  | w :: ws, k => by
    unfold wk
    by_cases q : g = w
    · rw [if_pos q]; exact Or.inr ⟨0, by rw [List.length_cons]; omega, rfl, q⟩
    · rw [if_neg q]
      rcases wk_or g ws (k + 1) with h | ⟨i, h1, h2, h3⟩
      · exact Or.inl h
      · exact Or.inr ⟨i + 1, by rw [List.length_cons]; omega, by omega, h3⟩
def wdK (k : Nat) : Int64 := (WS.getD k []).foldl pkc 0
theorem WS_self : ∀ k, k < 30 → wk (WS.getD k []) WS 0 = k := by decide +kernel
theorem WS_len : ∀ k, k < 30 → 1 ≤ (WS.getD k []).length ∧ (WS.getD k []).length ≤ 7 := by decide +kernel
theorem WS_ch : ∀ k, k < 30 → ∀ b, b ∈ WS.getD k [] → 1 ≤ b ∧ b < 256 := by decide +kernel
theorem WS_32 : ∀ w, w ∈ WS → ∀ c, c ∈ w → c ≠ 32 := by decide +kernel
theorem WS_n : WS.length = 30 := by decide
def tn (w : Int64) : Nat := w.toBitVec.toNat
theorem sh8 : ((nI 8).toInt64 &&& 63 : Int64).toBitVec.smod 64 = 8#64 := by decide +kernel
theorem tn_b : ∀ b, b < 256 → tn (nI b).toInt64 = b := by decide +kernel
theorem tn_pkc {w : Int64} {b : Nat} (hw : tn w < 72057594037927936) (hb : b < 256) : tn (pkc w b) = 256 * tn w + b := by
  have e1 : tn (pkc w b) = tn (w <<< ((nI 8).toInt64 &&& 63)) ||| tn (nI b).toInt64 := by
    unfold tn pkc
    rw [Int64.toBitVec_or, BitVec.toNat_or]
  have e2 : tn (w <<< ((nI 8).toInt64 &&& 63)) = tn w <<< 8 := by
    unfold tn at hw ⊢
    rw [Int64.toBitVec_shiftLeft, sh8, BitVec.shiftLeft_eq', BitVec.toNat_shiftLeft]
    show w.toBitVec.toNat <<< 8 % 2 ^ 64 = _
    rw [Nat.shiftLeft_eq, Nat.mod_eq_of_lt (by omega)]
  rw [e1, e2, tn_b b hb, ← Nat.shiftLeft_add_eq_or_of_lt (show b < 2 ^ 8 by omega), Nat.shiftLeft_eq]
  omega
def nbf (l : List Nat) (a : Nat) : Nat := l.foldl (fun a b => 256 * a + b) a
theorem tn_f : ∀ (l : List Nat) (w : Int64) (m : Nat), (∀ b, b ∈ l → b < 256) → tn w < 256 ^ m → m + l.length ≤ 7 → tn (l.foldl pkc w) = nbf l (tn w)
  | [], _, _, _, _, _ => rfl
  | b :: l, w, m, h, hw, hm => by
    rw [List.length_cons] at hm
    have hb := h b (List.mem_cons_self ..)
    have hp : 256 ^ m ≤ 256 ^ 6 := Nat.pow_le_pow_right (by decide) (by omega)
    have h6 : (256 : Nat) ^ 6 = 281474976710656 := by decide
    have e := tn_pkc (w := w) (b := b) (by omega) hb
    have hs : (256 : Nat) ^ (m + 1) = 256 * 256 ^ m := by rw [Nat.pow_succ]; omega
    show tn (l.foldl pkc (pkc w b)) = nbf l (256 * tn w + b)
    rw [tn_f l (pkc w b) (m + 1) (fun b' h' => h b' (List.mem_cons_of_mem _ h')) (by rw [e, hs]; omega) (by omega), e]
theorem nbf_snoc (l : List Nat) (b a : Nat) : nbf (l ++ [b]) a = 256 * nbf l a + b := by
  unfold nbf
  rw [List.foldl_append]
  rfl
theorem nbf_inj : ∀ (n : Nat) (l l' : List Nat), l.length = n → (∀ b, b ∈ l → 1 ≤ b ∧ b < 256) → (∀ b, b ∈ l' → 1 ≤ b ∧ b < 256) → nbf l 0 = nbf l' 0 → l = l' := by
  intro n
  induction n with
  | zero =>
    intro l l' hl _ h' e
    have e0 : l = [] := List.eq_nil_of_length_eq_zero hl
    subst e0
    rcases List.eq_nil_or_concat l' with g | ⟨a, b, g⟩
    · exact g.symm
    · rw [List.concat_eq_append] at g
      rw [g, nbf_snoc] at e
      have e : 0 = 256 * nbf a 0 + b := e
      have := (h' b (by rw [g]; exact List.mem_append_right _ (List.mem_singleton.mpr rfl))).1
      omega
  | succ n ih =>
    intro l l' hl h h' e
    rcases List.eq_nil_or_concat l with g | ⟨a, b, g⟩
    · rw [g] at hl; exact absurd hl (by show ¬ 0 = n + 1; omega)
    · rw [List.concat_eq_append] at g
      have hb := h b (by rw [g]; exact List.mem_append_right _ (List.mem_singleton.mpr rfl))
      rcases List.eq_nil_or_concat l' with g' | ⟨a', b', g'⟩
      · rw [g, g', nbf_snoc] at e
        have e : 256 * nbf a 0 + b = 0 := e
        omega
      · rw [List.concat_eq_append] at g'
        have hb' := h' b' (by rw [g']; exact List.mem_append_right _ (List.mem_singleton.mpr rfl))
        rw [g, g', nbf_snoc, nbf_snoc] at e
        have ha : a.length = n := by rw [g, List.length_append] at hl; have hl : a.length + 1 = n + 1 := hl; omega
        have := ih a a' ha (fun c hc => h c (by rw [g]; exact List.mem_append_left _ hc)) (fun c hc => h' c (by rw [g']; exact List.mem_append_left _ hc)) (by omega)
        rw [g, g', this, show b = b' by omega]
theorem pkf_inj {l l' : List Nat} (h7 : l.length ≤ 7) (h7' : l'.length ≤ 7) (h : ∀ b, b ∈ l → 1 ≤ b ∧ b < 256) (h' : ∀ b, b ∈ l' → 1 ≤ b ∧ b < 256) (e : l.foldl pkc 0 = l'.foldl pkc 0) : l = l' := by
  have e1 := tn_f l 0 0 (fun b hb => (h b hb).2) (by decide) (by omega)
  have e2 := tn_f l' 0 0 (fun b hb => (h' b hb).2) (by decide) (by omega)
  rw [e, e2] at e1
  exact nbf_inj _ l l' rfl h h' e1.symm
theorem wdK_0 : ∀ k, k < 30 → wdK k ≠ 0 := by decide +kernel
theorem rwd_gl {B : Nat → Nat} {f : Nat} : ∀ n j w, f ≤ j → rwn B isL n j - f ≤ 7 → rwd B f n j w = (gl B j (rwn B isL n j - j)).foldl pkc w
  | 0, j, w, _, _ => by
    show w = (gl B j (j - j)).foldl pkc w
    rw [Nat.sub_self]; rfl
  | n + 1, j, w, hf, h7 => by
    by_cases q : isL (B j) = true
    · have e : rwn B isL (n + 1) j = rwn B isL n (j + 1) := if_pos q
      have e2 : rwd B f (n + 1) j w = rwd B f n (j + 1) (if j - f < 7 then pkc w (B j) else w) := if_pos q
      have hb := rwn_b B isL n (j + 1)
      rw [e] at h7
      rw [e, e2, if_pos (by omega), rwd_gl n (j + 1) _ (by omega) h7, show rwn B isL n (j + 1) - j = (rwn B isL n (j + 1) - (j + 1)) + 1 by omega]
      rfl
    · have e : rwn B isL (n + 1) j = j := if_neg q
      have e2 : rwd B f (n + 1) j w = w := if_neg q
      rw [e, e2, Nat.sub_self]; rfl
theorem gl_L {B : Nat → Nat} : ∀ n j, ∀ b, b ∈ gl B j (rwn B isL n j - j) → isL b = true
  | 0, j, b, h => by
    have h : b ∈ gl B j (j - j) := h
    rw [Nat.sub_self] at h
    exact absurd h List.not_mem_nil
  | n + 1, j, b, h => by
    by_cases q : isL (B j) = true
    · have e : rwn B isL (n + 1) j = rwn B isL n (j + 1) := if_pos q
      have hb := rwn_b B isL n (j + 1)
      rw [e, show rwn B isL n (j + 1) - j = (rwn B isL n (j + 1) - (j + 1)) + 1 by omega] at h
      have h : b ∈ B j :: gl B (j + 1) (rwn B isL n (j + 1) - (j + 1)) := h
      rcases List.mem_cons.mp h with g | g
      · rw [g]; exact q
      · exact gl_L n (j + 1) b g
    · have e : rwn B isL (n + 1) j = j := if_neg q
      rw [e, Nat.sub_self] at h
      exact absurd h List.not_mem_nil
/-- a word is one in both -/
theorem wd_iff {B : Nat → Nat} {L p : Nat} (hp : p < L) (hl : isL (B p) = true) {k : Nat} (hk : k < 30) : ((if 7 < rwn B isL (L - p) p - p then 0 else rwd B p (L - p) p 0) = wdK k) ↔ (tk0 B L p).1 = k := by
  have hb := rwn_b B isL (L - p) p
  have et : (tk0 B L p).1 = wk (gl B p (rwn B isL (L - p) p - p)) WS 0 := by
    have e1 : (tk0 B L p).1 = wo B p (rwn B isL (L - p) p) qm_str 0 0 true := by unfold tk0; rw [if_neg (by omega), if_pos hl]
    rw [e1, str_WS]
    exact wo_wk hb.1 WS 0 WS_32
  have gL : ∀ b, b ∈ gl B p (rwn B isL (L - p) p - p) → 1 ≤ b ∧ b < 256 := fun b h => by
    have : (97 ≤ b ∧ b ≤ 122) ∨ (65 ≤ b ∧ b ≤ 90) := of_decide_eq_true (gl_L _ _ b h)
    omega
  have gn := gl_len B (rwn B isL (L - p) p - p) p
  rw [et]
  constructor
  · intro e
    by_cases q : 7 < rwn B isL (L - p) p - p
    · rw [if_pos q] at e; exact absurd e.symm (wdK_0 k hk)
    · rw [if_neg q, rwd_gl _ _ _ (Nat.le_refl _) (by omega)] at e
      rw [pkf_inj (by omega) (WS_len k hk).2 gL (WS_ch k hk) e]
      exact WS_self k hk
  · intro e
    rcases wk_or (gl B p (rwn B isL (L - p) p - p)) WS 0 with h | ⟨i, h1, h2, h3⟩
    · omega
    · have ei : i = k := by omega
      rw [ei] at h3
      rw [h3] at gn
      have := (WS_len k hk).2
      rw [if_neg (by omega), rwd_gl _ _ _ (Nat.le_refl _) (by omega), h3]
      rfl
