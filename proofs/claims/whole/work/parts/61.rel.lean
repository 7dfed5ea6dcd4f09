/-! pictures: a yard y (0 scalars: week fallen posts crossed side weathers texts ruling faced; 1 counts; 2..7 kind size water bark low high at 8c+z; 8..11 wind sun rain air; 12 plan; 13, 14 spans; 15 face); a text (number of clauses, clause by clause sort and code) -/
abbrev VW : Type := Nat → Nat → Int32
abbrev TX : Type := Nat × (Nat → Nat × List (Nat × Nat))
def cn (y : VW) (c : Nat) : Nat := (y 1 c).toNatClampNeg
/-- a number between a and b -/
def rg (x : Int32) (a b : Nat) : Prop := ∃ k, a ≤ k ∧ k ≤ b ∧ x = nI k
/-- the class's pile p is y -/
def PC (s : qm_Hp) (p w : Nat) (y : VW) : Prop :=
  zI s 3 p 0 = nI w ∧ (zI s 3 p 8 = y 0 0 ∧ zI s 3 p 9 = y 0 1 ∧ zI s 3 p 10 = y 0 2 ∧ zI s 3 p 11 = y 0 3 ∧ zI s 3 p 12 = y 0 4) ∧ (∀ c, c < w → zI s 17 p c = nI (cn y c)) ∧ (∀ f c z, f < 6 → c < w → z < cn y c → zI s (11 + f) p (8 * c + z) = y (2 + f) (8 * c + z))
/-- the reference's row at b is y -/
def PM (s : qm_Hp) (b w : Nat) (y : VW) : Prop :=
  zI s 9 0 1 = nI w ∧ (zI s 61 0 b = y 0 0 ∧ zI s 61 0 (b + 7) = y 0 1 ∧ zI s 61 0 (b + 4) = y 0 2 ∧ zI s 61 0 (b + 5) = y 0 3 ∧ zI s 61 0 (b + 6) = y 0 4) ∧ (∀ c, c < w → zI s 61 0 (b + 120 + c) = nI (cn y c)) ∧ (∀ f c z, f < 6 → c < w → z < cn y c → zI s 61 0 (b + 130 + 6 * (8 * c + z) + f) = y (2 + f) (8 * c + z))
/-- a split in its bounds -/
def OKs (y : VW) (j : Nat) : Prop := rg (y 2 j) 0 3 ∧ rg (y 3 j) 1 20 ∧ rg (y 4 j) 0 2000 ∧ rg (y 5 j) 0 1 ∧ ((y 6 j = N1 ∧ y 7 j = N1) ∨ (rg (y 6 j) 0 2000 ∧ rg (y 7 j) 0 2000))
def OKP (w : Nat) (y : VW) : Prop :=
  (2 ≤ w ∧ w ≤ 6) ∧ (rg (y 0 0) 0 399 ∧ (y 0 1 = N1 ∨ rg (y 0 1) 0 399) ∧ rg (y 0 2) 0 9 ∧ rg (y 0 3) 0 1 ∧ rg (y 0 4) 0 1) ∧ (∀ c, c < w → cn y c ≤ 8 ∧ y 1 c = nI (cn y c)) ∧ (∀ c z, c < w → z < cn y c → OKs y (8 * c + z))
theorem PC_w {s : qm_Hp} {p w : Nat} {y : VW} (h : PC s p w y) : zI s 3 p 0 = nI w := h.1
theorem PC_c {s : qm_Hp} {p w : Nat} {y : VW} (h : PC s p w y) {c : Nat} (hc : c < w) : zI s 17 p c = nI (cn y c) := h.2.2.1 c hc
theorem PC_kd {s : qm_Hp} {p w : Nat} {y : VW} (h : PC s p w y) {c z : Nat} (hc : c < w) (hz : z < cn y c) : zI s 11 p (8 * c + z) = y 2 (8 * c + z) := h.2.2.2 0 c z (by decide) hc hz
theorem PC_sz {s : qm_Hp} {p w : Nat} {y : VW} (h : PC s p w y) {c z : Nat} (hc : c < w) (hz : z < cn y c) : zI s 12 p (8 * c + z) = y 3 (8 * c + z) := h.2.2.2 1 c z (by decide) hc hz
theorem PC_wt {s : qm_Hp} {p w : Nat} {y : VW} (h : PC s p w y) {c z : Nat} (hc : c < w) (hz : z < cn y c) : zI s 13 p (8 * c + z) = y 4 (8 * c + z) := h.2.2.2 2 c z (by decide) hc hz
theorem PC_bk {s : qm_Hp} {p w : Nat} {y : VW} (h : PC s p w y) {c z : Nat} (hc : c < w) (hz : z < cn y c) : zI s 14 p (8 * c + z) = y 5 (8 * c + z) := h.2.2.2 3 c z (by decide) hc hz
theorem PC_lo {s : qm_Hp} {p w : Nat} {y : VW} (h : PC s p w y) {c z : Nat} (hc : c < w) (hz : z < cn y c) : zI s 15 p (8 * c + z) = y 6 (8 * c + z) := h.2.2.2 4 c z (by decide) hc hz
theorem PC_hi {s : qm_Hp} {p w : Nat} {y : VW} (h : PC s p w y) {c z : Nat} (hc : c < w) (hz : z < cn y c) : zI s 16 p (8 * c + z) = y 7 (8 * c + z) := h.2.2.2 5 c z (by decide) hc hz
theorem PM_c {s : qm_Hp} {b w : Nat} {y : VW} (h : PM s b w y) {c : Nat} (hc : c < w) : zI s 61 0 (b + 120 + c) = nI (cn y c) := h.2.2.1 c hc
theorem PM_s {s : qm_Hp} {b w : Nat} {y : VW} (h : PM s b w y) {c z : Nat} (hc : c < w) (hz : z < cn y c) (f : Nat) (hf : f < 6) : zI s 61 0 (b + 130 + 6 * (8 * c + z) + f) = y (2 + f) (8 * c + z) := h.2.2.2 f c z hf hc hz
theorem OK_n {w : Nat} {y : VW} (h : OKP w y) {c : Nat} (hc : c < w) : cn y c ≤ 8 := (h.2.2.1 c hc).1
theorem PC_fr {K : List Nat} {s s' : qm_Hp} {p w : Nat} {y : VW} (hK : ∀ k, k ∈ [3, 11, 12, 13, 14, 15, 16, 17] → k ∉ K) (hf : fr K s s') (h : PC s p w y) : PC s' p w y := by
  have e3 : ∀ j, zI s' 3 p j = zI s 3 p j := fun j => hf.1 3 p j (hK 3 (by decide))
  refine ⟨(e3 0).trans h.1, ⟨(e3 8).trans h.2.1.1, (e3 9).trans h.2.1.2.1, (e3 10).trans h.2.1.2.2.1, (e3 11).trans h.2.1.2.2.2.1, (e3 12).trans h.2.1.2.2.2.2⟩, fun c hc => (hf.1 17 p c (hK 17 (by decide))).trans (h.2.2.1 c hc), fun f c z hf' hc hz => (hf.1 (11 + f) p _ (hK (11 + f) ?_)).trans (h.2.2.2 f c z hf' hc hz)⟩
  have : f = 0 ∨ f = 1 ∨ f = 2 ∨ f = 3 ∨ f = 4 ∨ f = 5 := by omega
  rcases this with h | h | h | h | h | h <;> subst h <;> decide
theorem PM_fr {K : List Nat} {s s' : qm_Hp} {b w : Nat} {y : VW} (hK : ∀ k, k ∈ [61] → k ∉ K) (hw : zI s' 9 0 1 = zI s 9 0 1) (hf : fr K s s') (h : PM s b w y) : PM s' b w y := by
  have e : ∀ j, zI s' 61 0 j = zI s 61 0 j := fun j => hf.1 61 0 j (hK 61 (by decide))
  exact ⟨hw.trans h.1, ⟨(e _).trans h.2.1.1, (e _).trans h.2.1.2.1, (e _).trans h.2.1.2.2.1, (e _).trans h.2.1.2.2.2.1, (e _).trans h.2.1.2.2.2.2⟩, fun c hc => (e _).trans (h.2.2.1 c hc), fun f c z hf' hc hz => (e _).trans (h.2.2.2 f c z hf' hc hz)⟩
/-- the first clause of a sort from k on, m of them -/
def fg (f : Nat → Nat) (a : Nat) : Nat → Nat → Nat
  | 0, k => k
  | m + 1, k => if f k = a then k else fg f a m (k + 1)
def fnd (τ : TX) (a : Nat) : Nat := fg (fun j => (τ.2 j).1) a τ.1 0
/-- the class's text t is τ -/
def TC (s : qm_Hp) (t : Nat) (τ : TX) : Prop :=
  zI s 4 t 6 = nI τ.1 ∧ (∀ k, k < τ.1 → zI s 32 t k = nI (17 + (τ.2 k).1) ∧ ∃ fm, zI s 33 t k = nI fm ∧ zI s 34 t k = nI (fm + (τ.2 k).2.length) ∧ fm + (τ.2 k).2.length ≤ 300 ∧ cdC (fun j => zI s 31 t j) fm (τ.2 k).2) ∧ (∀ a, a < 5 → zI s 35 t a = if fnd τ a < τ.1 then nI (fnd τ a) else N1)
/-- the reference's text t is τ -/
def TM (s : qm_Hp) (t : Nat) (τ : TX) : Prop :=
  zI s 62 0 (720 * t) = nI τ.1 ∧ (∀ k, k < τ.1 → zI s 62 0 (720 * t + 1 + 5 * k) = nI (τ.2 k).1 ∧ ((τ.2 k).1 = 6 → ∀ i, i < 4 → zI s 62 0 (720 * t + 1 + 5 * k + 1 + i) = nI ((τ.2 k).2.getD i (0, 0)).2) ∧ ((τ.2 k).1 < 6 → ∃ fm, zI s 62 0 (720 * t + 1 + 5 * k + 1) = nI fm ∧ zI s 62 0 (720 * t + 1 + 5 * k + 2) = nI (fm + (τ.2 k).2.length) ∧ fm + (τ.2 k).2.length ≤ 300 ∧ cdM (fun j => zI s 62 0 (720 * t + 110 + j)) fm (τ.2 k).2))
/-- names that a clause of a sort may hold -/
def nmok (a v : Nat) : Prop := v = 12 ∨ (a = 2 ∧ 13 ≤ v ∧ v < 17) ∨ (a ≠ 2 ∧ v < 8) ∨ (a = 0 ∧ v < 12)
/-- a clause in its bounds -/
def OKc (q : Nat × List (Nat × Nat)) : Prop := q.1 ≤ 6 ∧ (q.1 < 5 → wt q.2 0 0 0 1) ∧ (q.1 = 5 → wt q.2 0 0 1 0) ∧ (q.1 < 6 → ∀ c, c ∈ q.2 → c.1 = 1 → nmok q.1 c.2) ∧ (q.1 = 6 → q.2.length = 4 ∧ (∀ i, i < 4 → (q.2.getD i (0, 0)).1 = 0) ∧ (q.2.getD 0 (0, 0)).2 ≤ 3 ∧ 1 ≤ (q.2.getD 1 (0, 0)).2 ∧ (q.2.getD 1 (0, 0)).2 ≤ 20 ∧ (q.2.getD 2 (0, 0)).2 ≤ 2000 ∧ (q.2.getD 3 (0, 0)).2 ≤ 5)
def OKT (τ : TX) : Prop := τ.1 ≤ 20 ∧ ∀ k, k < τ.1 → OKc (τ.2 k)
theorem TC_fr {K : List Nat} {s s' : qm_Hp} {t : Nat} {τ : TX} (hK : ∀ k, k ∈ [4, 31, 32, 33, 34, 35] → k ∉ K) (hf : fr K s s') (h : TC s t τ) : TC s' t τ := by
  have e : ∀ k i j, k ∈ [4, 31, 32, 33, 34, 35] → zI s' k i j = zI s k i j := fun k i j hk => hf.1 k i j (hK k hk)
  have hfun : (fun j => zI s' 31 t j) = fun j => zI s 31 t j := funext fun j => e 31 t j (by decide)
  refine ⟨(e 4 t 6 (by decide)).trans h.1, fun k hk => ?_, fun a ha => (e 35 t a (by decide)).trans (h.2.2 a ha)⟩
  obtain ⟨h1, fm, h2, h3, h4, h5⟩ := h.2.1 k hk
  exact ⟨(e 32 t k (by decide)).trans h1, fm, (e 33 t k (by decide)).trans h2, (e 34 t k (by decide)).trans h3, h4, by rw [hfun]; exact h5⟩
theorem TM_eq {s s' : qm_Hp} {t : Nat} {τ : TX} (e : ∀ j, zI s' 62 0 j = zI s 62 0 j) (h : TM s t τ) : TM s' t τ := by
  have hfun : (fun j => zI s' 62 0 (720 * t + 110 + j)) = fun j => zI s 62 0 (720 * t + 110 + j) := funext fun j => e _
  refine ⟨(e _).trans h.1, fun k hk => ?_⟩
  obtain ⟨h1, h2, h3⟩ := h.2 k hk
  refine ⟨(e _).trans h1, fun q i hi => (e _).trans (h2 q i hi), fun q => ?_⟩
  obtain ⟨fm, a1, a2, a3, a4⟩ := h3 q
  exact ⟨fm, (e _).trans a1, (e _).trans a2, a3, by rw [hfun]; exact a4⟩
theorem fg_ge (f : Nat → Nat) (a : Nat) : ∀ m k, k ≤ fg f a m k ∧ fg f a m k ≤ k + m
  | 0, k => ⟨Nat.le_refl _, Nat.le_refl _⟩
  | m + 1, k => by
    unfold fg
    by_cases h : f k = a
    · rw [if_pos h]; omega
    · rw [if_neg h]
      have := fg_ge f a m (k + 1)
      omega
theorem fg_is (f : Nat → Nat) (a : Nat) : ∀ m k, fg f a m k < k + m → f (fg f a m k) = a
  | 0, k => fun h => absurd h (Nat.lt_irrefl _)
  | m + 1, k => fun h => by
    unfold fg at h ⊢
    by_cases q : f k = a
    · rw [if_pos q]; exact q
    · rw [if_neg q] at h ⊢
      exact fg_is f a m (k + 1) (by omega)
theorem fnd_is {τ : TX} {a : Nat} (h : fnd τ a < τ.1) : (τ.2 (fnd τ a)).1 = a := fg_is (fun j => (τ.2 j).1) a τ.1 0 (by rw [Nat.zero_add]; exact h)
theorem fnd_le (τ : TX) (a : Nat) : fnd τ a ≤ τ.1 := by
  have := (fg_ge (fun j => (τ.2 j).1) a τ.1 0).2
  rw [Nat.zero_add] at this
  exact this
/-- clamped -/
def ck (v a b : Int32) : Int32 := if a < (if v < b then v else b) then (if v < b then v else b) else a
/-- the neighbours of a split -/
def nbs (y : VW) (w c z : Nat) : Nat := (if 0 < z then 1 else 0) + (if z + 1 < cn y c then 1 else 0) + (if 0 < c ∧ z < cn y (c - 1) then 1 else 0) + (if c + 1 < w ∧ z < cn y (c + 1) then 1 else 0)
def tl (y : VW) : Nat → Nat
  | 0 => 0
  | c + 1 => if tl y c < cn y c then cn y c else tl y c
/-- what a name stands for at a split -/
def ev (y : VW) (w : Nat) (W : Nat → Int32) (c z v : Nat) : Int32 := match v with
  | 0 => y 4 (8 * c + z)
  | 1 => y 3 (8 * c + z)
  | 2 => y 2 (8 * c + z)
  | 3 => y 5 (8 * c + z)
  | 4 => if y 0 1 = N1 then nI z else nI 0
  | 5 => if y 0 1 = N1 ∧ z + 1 < cn y c then nI 0 else nI 1
  | 6 => if y 0 1 = N1 then nI (nbs y w c z) else nI 4
  | 7 => if c = (if y 0 4 = nI 0 then 0 else w - 1) then nI 1 else nI 0
  | 8 => W 0
  | 9 => W 1
  | 10 => W 2
  | 11 => W 3
  | 12 => y 0 0
  | 13 => nI w
  | 14 => nI (tl y w)
  | 15 => y 0 2
  | 16 => y 0 3
  | _ => nI 0
def W0 : Nat → Int32 := fun _ => nI 0
/-- a clause of a sort, clamped, or what stands without one -/
def sm (τ : TX) (a : Nat) (env : Nat → Int32) (lo hi dft : Int32) : Int32 := if fnd τ a < τ.1 then ck (cv env (τ.2 (fnd τ a)).2) lo hi else dft
def dthick (sz wt : Int32) : Int32 := nI 10 * sz - (if wt < nI 300 then sz * (nI 300 - wt) / nI 100 else nI 0)
def thick (τ : TX) (y : VW) (w c z : Nat) : Int32 := sm τ 1 (ev y w W0 c z) (nI 1) (nI 999) (dthick (y 3 (8 * c + z)) (y 4 (8 * c + z)))
def heat (τ : TX) (y : VW) (w c z : Nat) : Int32 := sm τ 4 (ev y w W0 c z) (nI 0) (nI 9999) (y 3 (8 * c + z) * (nI 2500 - y 4 (8 * c + z)) / nI 100)
def worth (τ : TX) (y : VW) (w c z : Nat) : Int32 := if fnd τ 3 < τ.1 then cv (ev y w W0 c z) (τ.2 (fnd τ 3)).2 else -(y 4 (8 * c + z))
def stand (τ : TX) (y : VW) (w : Nat) : Int32 := sm τ 2 (ev y w W0 0 0) (nI 0) (nI 9999) (nI 10 * nI w + nI 20 * y 0 2 + nI 15 * y 0 3)
/-- a sum -/
def su (f : Nat → Int32) : Nat → Int32
  | 0 => nI 0
  | n + 1 => su f n + f n
def height (τ : TX) (y : VW) (w c : Nat) : Int32 := su (fun z => thick τ y w c z) (cn y c)
def lean (τ : TX) (y : VW) (w : Nat) : Int32 := height τ y w (w - 1) - height τ y w 0
/-- what a split's drying takes off, without a clause -/
def dless (y : VW) (w : Nat) (W : Nat → Int32) (c z : Nat) : Int32 := (y 4 (8 * c + z) - nI 10 * W 3) * (nI 2 + W 0 + W 1 - ev y w W c z 6) / nI 40
/-- a split's water behind a week -/
def drd (τ : TX) (y : VW) (w : Nat) (W : Nat → Int32) (c z : Nat) : Int32 :=
  if fnd τ 0 < τ.1 then ck (y 4 (8 * c + z) - cv (ev y w W c z) (τ.2 (fnd τ 0)).2) (nI 0) (nI 2000)
  else ck (y 4 (8 * c + z) - (if y 5 (8 * c + z) = nI 0 ∧ ev y w W c z 5 = nI 1 then dless y w W c z - nI 10 * W 2 else dless y w W c z)) (nI 0) (nI 2000)
def dryv (τ : TX) (w : Nat) (W : Nat → Int32) (y : VW) : VW := fun a j => if a = 4 then drd τ y w W (j / 8) (j % 8) else if a = 0 ∧ j = 0 then y 0 0 + nI 1 else y a j
def absI (x : Int32) : Int32 := if nI 0 ≤ x then x else nI 0 - x
def fallv (τ : TX) (w : Nat) (y : VW) : VW := if y 0 1 = N1 ∧ stand τ y w < absI (lean τ y w) then (fun a j => if a = 0 ∧ j = 1 then y 0 0 else y a j) else y
def passv (τ : TX) (w : Nat) (W : Nat → Int32) (y : VW) : VW := fallv τ w (dryv τ w W y)
