/-! the class's reader: clauses of a text -/
def tad (τ : TX) (a : Nat) (out : List (Nat × Nat)) : TX := (τ.1 + 1, fun k => if k = τ.1 then (a, out) else τ.2 k)
theorem fg_snoc (f : Nat → Nat) (b : Nat) : ∀ m k, fg f b (m + 1) k = if fg f b m k < k + m then fg f b m k else if f (k + m) = b then k + m else k + m + 1
  | 0, k => by
    show (if f k = b then k else k + 1) = if k < k + 0 then k else if f (k + 0) = b then k + 0 else k + 0 + 1
    rw [if_neg (show ¬ k < k + 0 by omega)]
    rfl
  | m + 1, k => by
    have ih := fg_snoc f b m (k + 1)
    show (if f k = b then k else fg f b (m + 1) (k + 1)) = _
    by_cases q : f k = b
    · rw [if_pos q]
      have e : fg f b (m + 1) k = k := if_pos q
      rw [e, if_pos (by omega)]
    · rw [if_neg q, ih]
      have e : fg f b (m + 1) k = fg f b m (k + 1) := if_neg q
      rw [e, show k + 1 + m = k + (m + 1) by omega]
theorem fg_cong {f g : Nat → Nat} (b : Nat) : ∀ m k, (∀ j, k ≤ j → j < k + m → f j = g j) → fg f b m k = fg g b m k
  | 0, _, _ => rfl
  | m + 1, k, h => by
    show (if f k = b then k else fg f b m (k + 1)) = if g k = b then k else fg g b m (k + 1)
    rw [h k (Nat.le_refl _) (by omega), fg_cong b m (k + 1) (fun j h1 h2 => h j (by omega) (by omega))]
theorem fnd_tad (τ : TX) (a : Nat) (out : List (Nat × Nat)) (b : Nat) : fnd (tad τ a out) b = if fnd τ b < τ.1 then fnd τ b else if a = b then τ.1 else τ.1 + 1 := by
  have e : fg (fun j => ((tad τ a out).2 j).1) b τ.1 0 = fnd τ b := fg_cong b τ.1 0 (fun j _ h => by
    show (if j = τ.1 then (a, out) else τ.2 j).1 = (τ.2 j).1
    rw [if_neg (by omega)])
  show fg (fun j => ((tad τ a out).2 j).1) b (τ.1 + 1) 0 = _
  rw [fg_snoc, e, Nat.zero_add]
  show (if fnd τ b < τ.1 then fnd τ b else if (if τ.1 = τ.1 then (a, out) else τ.2 τ.1).1 = b then τ.1 else τ.1 + 1) = _
  rw [if_pos rfl]
/-- what a reading of clauses may change -/
def XFp (t k i j : Nat) : Prop := (k = 6 ∧ 2 ≤ j ∧ j ≤ 5) ∨ (k = 4 ∧ i = t) ∨ (31 ≤ k ∧ k ≤ 35 ∧ i = t)
def XF (t : Nat) (x x' : qm_Hp) : Prop := (∀ k i j, ¬ XFp t k i j → zI x' k i j = zI x k i j) ∧ (∀ k i j, zL x' k i j = zL x k i j) ∧ (∀ k i j, zP x' k i j = zP x k i j)
theorem XF_refl (t : Nat) (x : qm_Hp) : XF t x x := ⟨fun _ _ _ _ => rfl, fun _ _ _ => rfl, fun _ _ _ => rfl⟩
theorem XF_tr {t : Nat} {x1 x2 x3 : qm_Hp} (h1 : XF t x1 x2) (h2 : XF t x2 x3) : XF t x1 x3 := ⟨fun k i j h => (h2.1 k i j h).trans (h1.1 k i j h), fun k i j => (h2.2.1 k i j).trans (h1.2.1 k i j), fun k i j => (h2.2.2 k i j).trans (h1.2.2 k i j)⟩
theorem TFp_X {t cl k i j : Nat} (h : TFp t cl k i j) : XFp t k i j := by
  rcases h with h | h | h | h
  · exact Or.inl ⟨h.1, by omega⟩
  · exact Or.inr (Or.inr ⟨by omega, by omega, h.2⟩)
  · exact Or.inr (Or.inl ⟨h.1, h.2.1⟩)
  · exact Or.inr (Or.inr ⟨by omega, by omega, h.2.1⟩)
theorem TF_XF {t cl : Nat} {x x' : qm_Hp} (h : TF t cl x x') : XF t x x' := ⟨fun k i j q => h.1 k i j (fun g => q (TFp_X g)), h.2.1, h.2.2⟩
theorem XF_u6 {t : Nat} {x : qm_Hp} (j : Nat) (v : Int32) (hj : 2 ≤ j ∧ j ≤ 5) : XF t x (uI x 6 0 j v) := ⟨fun k i j' q => by rw [zI_uI, if_neg (fun g => q (Or.inl ⟨g.1, by rw [g.2.2]; exact hj⟩))], fun _ _ _ => rfl, fun _ _ _ => rfl⟩
theorem XF_bg {t a cl u : Nat} {x : qm_Hp} : XF t x (hbg x t a cl u) := ⟨fun k i j q => by
  have n4 : ¬ (k = 4 ∧ i = t) := fun g => q (Or.inr (Or.inl g))
  have n3 : ¬ (31 ≤ k ∧ k ≤ 35 ∧ i = t) := fun g => q (Or.inr (Or.inr g))
  rw [hbg_z, if_neg (fun g => n4 ⟨g.1, g.2.1⟩), if_neg (fun g => n3 ⟨by omega, by omega, g.2.2.1⟩), if_neg (fun g => n3 ⟨by omega, by omega, g.2.1⟩), if_neg (fun g => n3 ⟨by omega, by omega, g.2.1⟩), if_neg (fun g => n3 ⟨by omega, by omega, g.2.1⟩)], fun _ _ _ => hbg_L _ _ _ _ _ _ _ _, fun _ _ _ => hbg_P _ _ _ _ _ _ _ _⟩
/-- clauses written so far: code below u -/
def TU (x : qm_Hp) (t u : Nat) (τ : TX) : Prop := zI x 4 t 6 = nI τ.1 ∧ (∀ k, k < τ.1 → zI x 32 t k = nI (17 + (τ.2 k).1) ∧ ∃ fm, zI x 33 t k = nI fm ∧ zI x 34 t k = nI (fm + (τ.2 k).2.length) ∧ fm + (τ.2 k).2.length ≤ u ∧ cdC (fun j => zI x 31 t j) fm (τ.2 k).2) ∧ (∀ a, a < 5 → zI x 35 t a = if fnd τ a < τ.1 then nI (fnd τ a) else N1)
theorem TU_TC {x : qm_Hp} {t u : Nat} {τ : TX} (hu : u ≤ 300) (h : TU x t u τ) : TC x t τ := ⟨h.1, fun k hk => by
  obtain ⟨h1, fm, h2, h3, h4, h5⟩ := h.2.1 k hk
  exact ⟨h1, fm, h2, h3, by omega, h5⟩, h.2.2⟩
/-- between clauses -/
def CSI (Tk Vl Pc : Nat → Nat) (E t : Nat) (x : qm_Hp) (τ : TX) (i u : Nat) : Prop := KT Tk Vl Pc E x ∧ zP x 6 0 1 = (4, t) ∧ zI x 6 0 2 = nI i ∧ zI x 6 0 4 = nI 0 ∧ zI x 4 t 5 = nI u ∧ TU x t u τ ∧ u ≤ i ∧ i ≤ E ∧ τ.1 ≤ 20 ∧ zI x 6 0 5 = N1
def pBody (Tk Vl : Nat → Nat) (a i : Nat) : PR := if a = 6 then pLay Tk Vl i else if a = 5 then pp Tk Vl a 3020 0 0 0 i else pp Tk Vl a 3020 0 3 0 i
def pClause (Tk Vl : Nat → Nat) (τ : TX) (i : Nat) : PR := if 17 ≤ Tk i ∧ Tk i ≤ 23 then (if Tk i - 17 < 5 ∧ fnd τ (Tk i - 17) < τ.1 then (4, i, []) else if 20 ≤ τ.1 then (6, i, []) else sq (pBody Tk Vl (Tk i - 17) (i + 1)) (want Tk 56)) else (1, i, [])
theorem KT_XF {Tk Vl Pc : Nat → Nat} {E t : Nat} {x x' : qm_Hp} (h : XF t x x') (g : KT Tk Vl Pc E x) : KT Tk Vl Pc E x' := by
  have e : ∀ k i j, k = 7 ∨ (43 ≤ k ∧ k ≤ 45) → zI x' k i j = zI x k i j := fun k i j hk => h.1 k i j (by unfold XFp; omega)
  exact ⟨(e 7 0 3 (by decide)).trans g.1, fun i hi => ⟨(e 43 0 i (by decide)).trans (g.2 i hi).1, (e 44 0 i (by decide)).trans (g.2 i hi).2.1, (e 45 0 i (by decide)).trans (g.2 i hi).2.2⟩⟩
/-- the clause begun and read -/
theorem TU_add {Tk Vl Pc : Nat → Nat} {E t a i j u : Nat} {x x1 x3 x5 : qm_Hp} {τ : TX} {out : List (Nat × Nat)} (h : CSI Tk Vl Pc E t x τ i u) (hn : a < 5 → ¬ fnd τ a < τ.1) (hcl : τ.1 < 20) (e3 : x3 = hbg (uI x 6 0 3 (nI (17 + a))) t a τ.1 u) (hq : QC t (τ.1 + 1) x3 x5 u out j) : TU x5 t (u + out.length) (tad τ a out) := by
  obtain ⟨hK, hP, h2, h4, h5, hTU, hu, hi, ht, _⟩ := h
  have eq : ∀ k c, (k = 32 ∨ k = 33 ∨ k = 35 ∨ (k = 34 ∧ c ≠ τ.1)) → zI x5 k t c = zI x3 k t c := fun k c hk => hq.1.1 k t c (by unfold TFp; omega)
  have e6 : zI x5 4 t 6 = zI x3 4 t 6 := hq.1.1 4 t 6 (by unfold TFp; omega)
  have z3 : ∀ k c, zI x3 k t c = if k = 4 ∧ c = 6 then nI (τ.1 + 1) else if a < 5 ∧ k = 35 ∧ c = a then nI τ.1 else if k = 34 ∧ c = τ.1 then nI u else if k = 33 ∧ c = τ.1 then nI u else if k = 32 ∧ c = τ.1 then nI (17 + a) else zI (uI x 6 0 3 (nI (17 + a))) k t c := fun k c => by
    rw [e3, hbg_z]
    simp only [true_and]
  have z0 : ∀ k c, k ≠ 6 → zI (uI x 6 0 3 (nI (17 + a))) k t c = zI x k t c := fun k c hk => by rw [zI_uI, if_neg (fun g => hk g.1)]
  refine ⟨?_, ?_, ?_⟩
  · rw [e6, z3, if_pos ⟨rfl, rfl⟩]; rfl
  · intro k hk
    have hk' : k < τ.1 + 1 := hk
    by_cases q : k = τ.1
    · have e : (tad τ a out).2 k = (a, out) := if_pos q
      rw [e, q]
      refine ⟨?_, u, ?_, hq.2.1.2.2.2.1, Nat.le_refl _, hq.2.2.2⟩
      · rw [eq 32 _ (Or.inl rfl), z3, if_neg (by omega), if_neg (by omega), if_neg (by omega), if_neg (by omega), if_pos ⟨rfl, rfl⟩]
      · rw [eq 33 _ (Or.inr (Or.inl rfl)), z3, if_neg (by omega), if_neg (by omega), if_neg (by omega), if_pos ⟨rfl, rfl⟩]
    · have e : (tad τ a out).2 k = τ.2 k := if_neg q
      rw [e]
      obtain ⟨g1, fm, g2, g3, g4, g5⟩ := hTU.2.1 k (by omega)
      refine ⟨?_, fm, ?_, ?_, by omega, ?_⟩
      · rw [eq 32 _ (Or.inl rfl), z3, if_neg (by omega), if_neg (by omega), if_neg (by omega), if_neg (by omega), if_neg (by omega), z0 _ _ (by decide)]; exact g1
      · rw [eq 33 _ (Or.inr (Or.inl rfl)), z3, if_neg (by omega), if_neg (by omega), if_neg (by omega), if_neg (by omega), if_neg (by omega), z0 _ _ (by decide)]; exact g2
      · rw [eq 34 _ (by omega), z3, if_neg (by omega), if_neg (by omega), if_neg (by omega), if_neg (by omega), if_neg (by omega), z0 _ _ (by decide)]; exact g3
      · refine cdC_cong (fun p _ hp => ?_) g5
        show zI x5 31 t p = zI x 31 t p
        rw [hq.2.2.1 p (by omega), z3, if_neg (by omega), if_neg (by omega), if_neg (by omega), if_neg (by omega), if_neg (by omega), z0 _ _ (by decide)]
  · intro b hb
    rw [fnd_tad, eq 35 _ (Or.inr (Or.inr (Or.inl rfl))), z3, if_neg (by omega)]
    show _ = if (if fnd τ b < τ.1 then fnd τ b else if a = b then τ.1 else τ.1 + 1) < τ.1 + 1 then nI (if fnd τ b < τ.1 then fnd τ b else if a = b then τ.1 else τ.1 + 1) else N1
    by_cases q : a = b
    · subst q
      rw [if_pos ⟨hb, rfl, rfl⟩, if_neg (hn hb), if_pos rfl, if_pos (by omega)]
    · rw [if_neg (by omega), if_neg (by omega), if_neg (by omega), if_neg (by omega), z0 _ _ (by decide), hTU.2.2 b hb]
      by_cases k : fnd τ b < τ.1
      · rw [if_pos k, if_pos k, if_pos (by omega)]
      · rw [if_neg k, if_neg k, if_neg q, if_neg (by omega)]
theorem RDR_body {Tk Vl Pc : Nat → Nat} {E t cl a : Nat} (hE : Tk E = 41) (hE3 : E ≤ 300) (hT : ∀ i, i ≤ E → Tk i < 100 ∧ Vl i ≤ 10000) (hcl : 1 ≤ cl ∧ cl ≤ 20) (d : Nat) : (a = 6 → RDR Tk Vl Pc E t cl a (d + 120) jR_readLay [qP 6 0] (pBody Tk Vl a)) ∧ (a = 5 → RDR Tk Vl Pc E t cl a (d + 120) jR_readPart [qP 6 0, qI (nI 0), qI (nI 0)] (pBody Tk Vl a)) ∧ (a < 5 → RDR Tk Vl Pc E t cl a (d + 120) jR_readPart [qP 6 0, qI (nI 3), qI (nI 0)] (pBody Tk Vl a)) := by
  refine ⟨fun h => ?_, fun h => ?_, fun h => ?_⟩
  · have e : pBody Tk Vl a = pLay Tk Vl := by funext i; unfold pBody; rw [if_pos h]
    rw [e]; exact RDR_lay hE hE3 hT hcl (d + 117)
  · have e : pBody Tk Vl a = pp Tk Vl a 3020 0 0 0 := by funext i; unfold pBody; rw [if_neg (by omega), if_pos h]
    rw [e]; exact RDR_part hE hE3 hT hcl (by omega) (d + 6) 0 (by decide)
  · have e : pBody Tk Vl a = pp Tk Vl a 3020 0 3 0 := by funext i; unfold pBody; rw [if_neg (by omega), if_neg (by omega)]
    rw [e]; exact RDR_part hE hE3 hT hcl (by omega) (d + 12) 3 (by decide)
theorem c_clause {Tk Vl Pc : Nat → Nat} {E t i u : Nat} {x : qm_Hp} {τ : TX} (hE : Tk E = 41) (hE3 : E ≤ 300) (hT : ∀ i, i ≤ E → Tk i < 100 ∧ Vl i ≤ 10000) (h : CSI Tk Vl Pc E t x τ i u) (d : Nat) : ∃ x', qm_evM (d + 121) jR_readClause [qP 6 0, qI (nI τ.1)] x = some (none, x') ∧ XF t x x' ∧ ((pClause Tk Vl τ i).1 = 0 → CSI Tk Vl Pc E t x' (tad τ (Tk i - 17) (pClause Tk Vl τ i).2.2) (pClause Tk Vl τ i).2.1 (u + (pClause Tk Vl τ i).2.2.length)) ∧ ((pClause Tk Vl τ i).1 ≠ 0 → FA Pc x' (pClause Tk Vl τ i).1 (pClause Tk Vl τ i).2.1 ∧ (pClause Tk Vl τ i).2.1 ≤ E) := by
  obtain ⟨hK, hP, h2, h4, h5, hTU, hu, hi, ht, h65⟩ := id h
  have tk := c_tokenA (d + 119) hE3 hK h2 hi
  have hv := (hT i hi).1
  have u1 : XF t x (uI x 6 0 3 (nI (Tk i))) := XF_u6 3 _ (by decide)
  have K1 := KT_XF u1 hK
  have fl := fun f => c_failA (d + 119) hE3 K1 (show zI (uI x 6 0 3 (nI (Tk i))) 6 0 2 = nI i from h2) (show zI (uI x 6 0 3 (nI (Tk i))) 6 0 4 = nI 0 from h4) hi f
  have fx : ∀ f, XF t x (uI (uI (uI x 6 0 3 (nI (Tk i))) 6 0 4 (nI f)) 6 0 5 (nI (Pc i))) := fun f => XF_tr u1 (XF_tr (XF_u6 4 _ (by decide)) (XF_u6 5 _ (by decide)))
  have fa : ∀ f, 1 ≤ f ∧ f ≤ 9 → FA Pc (uI (uI (uI x 6 0 3 (nI (Tk i))) 6 0 4 (nI f)) 6 0 5 (nI (Pc i))) f i := fun f hf => ⟨h2, rfl, rfl, hf⟩
  unfold pClause
  by_cases q : 17 ≤ Tk i ∧ Tk i ≤ 23
  · rw [if_pos q]
    by_cases q4 : Tk i - 17 < 5 ∧ fnd τ (Tk i - 17) < τ.1
    · rw [if_pos q4]
      have co := s_clauseOf (d + 118) (uI x 6 0 3 (nI (Tk i))) t (Tk i) ⟨q.1, by omega⟩
      rw [show zI (uI x 6 0 3 (nI (Tk i))) 35 t (Tk i - 17) = zI x 35 t (Tk i - 17) from rfl, hTU.2.2 _ q4.1, if_pos q4.2] at co
      exact ⟨_, rc_4 _ hP q (by omega) tk co (fl 4), fx 4, fun g => absurd g (show ¬ (4 : Nat) = 0 by decide), fun _ => ⟨fa 4 (by decide), hi⟩⟩
    · rw [if_neg q4]
      have co : qm_evM (d + 120) jT_clauseOf [qP 4 t, qI (nI (Tk i))] (uI x 6 0 3 (nI (Tk i))) = some (some (qI N1), uI x 6 0 3 (nI (Tk i))) := by
        by_cases k : Tk i ≤ 21
        · have co := s_clauseOf (d + 118) (uI x 6 0 3 (nI (Tk i))) t (Tk i) ⟨q.1, k⟩
          rw [show zI (uI x 6 0 3 (nI (Tk i))) 35 t (Tk i - 17) = zI x 35 t (Tk i - 17) from rfl, hTU.2.2 _ (by omega), if_neg (fun g => q4 ⟨by omega, g⟩)] at co
          exact co
        · exact c_cofN (d + 118) _ t (Tk i) (by omega)
      by_cases q6 : 20 ≤ τ.1
      · rw [if_pos q6]
        exact ⟨_, rc_6 _ hP q (by omega) tk co (fl 6), fx 6, fun g => absurd g (show ¬ (6 : Nat) = 0 by decide), fun _ => ⟨fa 6 (by decide), hi⟩⟩
      · rw [if_neg q6]
        have hcl : 1 ≤ τ.1 + 1 ∧ τ.1 + 1 ≤ 20 := by omega
        generalize ha : Tk i - 17 = a at q4 ⊢
        have hta : Tk i = 17 + a := by omega
        have hi1 : i + 1 ≤ E := by
          by_cases k : i = E
          · rw [k, hE] at q; omega
          · omega
        have bg : qm_evM (d + 120) jT_begin [qP 4 t, qI (nI (17 + a))] (uI x 6 0 3 (nI (17 + a))) = some (some (qI (nI 1)), hbg (uI x 6 0 3 (nI (17 + a))) t a τ.1 u) := by
          by_cases k : a < 5
          · exact c_begin1 (d + 118) k (by omega) h5 hTU.1
          · exact c_begin2 (d + 118) (by omega) (by omega) h5 hTU.1
        rw [hta] at tk co u1
        have X2 : XF t x (hbg (uI x 6 0 3 (nI (17 + a))) t a τ.1 u) := XF_tr u1 XF_bg
        have R2 : RS Tk Vl Pc E t (τ.1 + 1) a (hbg (uI x 6 0 3 (nI (17 + a))) t a τ.1 u) := by
          refine ⟨KT_XF X2 hK, by rw [hbg_P]; exact hP, ?_, ?_⟩
          · rw [hbg_z, if_neg (by omega), if_neg (by omega), if_neg (by omega), if_neg (by omega), if_neg (by omega)]; rfl
          · rw [hbg_z, if_pos ⟨rfl, rfl, rfl⟩]
        have C2 : CI t (τ.1 + 1) (hbg (uI x 6 0 3 (nI (17 + a))) t a τ.1 u) i u := by
          refine ⟨?_, ?_, ?_, ?_, ?_⟩
          · rw [hbg_z, if_neg (by omega), if_neg (by omega), if_neg (by omega), if_neg (by omega), if_neg (by omega)]; exact h2
          · rw [hbg_z, if_neg (by omega), if_neg (by omega), if_neg (by omega), if_neg (by omega), if_neg (by omega)]; exact h4
          · rw [hbg_z, if_neg (by omega), if_neg (by omega), if_neg (by omega), if_neg (by omega), if_neg (by omega)]; exact h5
          · rw [hbg_z, if_neg (by omega), if_neg (by omega), if_pos ⟨rfl, rfl, rfl⟩]
          · rw [hbg_z, if_neg (by omega), if_neg (by omega), if_neg (by omega), if_neg (by omega), if_neg (by omega)]; exact h65
        generalize hx2 : hbg (uI x 6 0 3 (nI (17 + a))) t a τ.1 u = x2 at bg X2 R2 C2
        have st := c_stepA (d + 120) hE3 R2.1 C2.1 C2.2.1 hi1
        have q3 := QC_step C2
        have R3 := RS_TF q3.1 R2
        have bd := RDR_body (Pc := Pc) (t := t) (a := a) hE hE3 hT hcl d
        have wn := RDR_want (Vl := Vl) (Pc := Pc) (t := t) (cl := τ.1 + 1) (a := a) hE hE3 hT (d + 118) 56 (by decide)
        have fin : ∀ f as, RDR Tk Vl Pc E t (τ.1 + 1) a (d + 120) f as (pBody Tk Vl a) → ∃ x4 x5, qm_evM (d + 120) f as (uI x2 6 0 2 (nI (i + 1))) = some (none, x4) ∧ qm_evM (d + 120) jR_expect [qP 6 0, qI (nI 56)] x4 = some (none, x5) ∧ QR Pc t (τ.1 + 1) (uI x2 6 0 2 (nI (i + 1))) x5 u (sq (pBody Tk Vl a (i + 1)) (want Tk 56)) ∧ PB E u (sq (pBody Tk Vl a (i + 1)) (want Tk 56)) := fun f as g => by
          obtain ⟨x4, e4, r4, b4⟩ := g.1 _ (i + 1) u hi1 (by omega) R3 q3.2.1
          obtain ⟨x5, e5, r5, b5⟩ := RDR_sq wn R3 r4 b4
          exact ⟨x4, x5, e4, e5, r5, b5⟩
        have all : ∃ x5, qm_evM (d + 121) jR_readClause [qP 6 0, qI (nI τ.1)] x = some (none, x5) ∧ QR Pc t (τ.1 + 1) (uI x2 6 0 2 (nI (i + 1))) x5 u (sq (pBody Tk Vl a (i + 1)) (want Tk 56)) ∧ PB E u (sq (pBody Tk Vl a (i + 1)) (want Tk 56)) := by
          rcases (by omega : a = 6 ∨ a = 5 ∨ a < 5) with k | k | k
          · obtain ⟨x4, x5, e4, e5, r5, b5⟩ := fin _ _ (bd.1 k)
            have h33 := R3.2.2.1
            subst k
            exact ⟨x5, rc_lay _ hP (by omega) tk co bg st h33 e4 e5, r5, b5⟩
          · obtain ⟨x4, x5, e4, e5, r5, b5⟩ := fin _ _ (bd.2.1 k)
            have h33 := R3.2.2.1
            subst k
            exact ⟨x5, rc_p0 _ hP (by omega) tk co bg st h33 e4 e5, r5, b5⟩
          · obtain ⟨x4, x5, e4, e5, r5, b5⟩ := fin _ _ (bd.2.2 k)
            exact ⟨x5, rc_p3 _ hP (by omega) (by omega) tk co bg st R3.2.2.1 e4 e5, r5, b5⟩
        obtain ⟨x5, e, r5, b5⟩ := all
        refine ⟨x5, e, ?_, fun g => ?_, fun g => ?_⟩
        · by_cases g : (sq (pBody Tk Vl a (i + 1)) (want Tk 56)).1 = 0
          · exact XF_tr X2 (XF_tr (TF_XF q3.1) (TF_XF (r5.1 g).1))
          · exact XF_tr X2 (XF_tr (TF_XF q3.1) (TF_XF (r5.2 g).1))
        · have c5 := r5.1 g
          have qz := QC_tr q3 c5
          rw [List.nil_append] at qz
          have R5 := RS_TF qz.1 R2
          exact ⟨R5.1, R5.2.1, qz.2.1.1, qz.2.1.2.1, qz.2.1.2.2.1, TU_add (x1 := x) h (fun k g => q4 ⟨k, g⟩) (by omega) hx2.symm qz, b5.2 g, b5.1, by show τ.1 + 1 ≤ 20; omega, qz.2.1.2.2.2.2⟩
        · exact ⟨(r5.2 g).2, b5.1⟩
  · rw [if_neg q]
    exact ⟨_, rc_1 _ hP hv q tk (fl 1), fx 1, fun g => absurd g (show ¬ (1 : Nat) = 0 by decide), fun _ => ⟨fa 1 (by decide), hi⟩⟩
