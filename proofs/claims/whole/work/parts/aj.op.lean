/-! the reference's way of reading a clause (a pile of deeds), purely, against pp -/
def rk (c : Nat) : Nat := if 40 ≤ c then 0 else if c = 22 then 1 else if c = 21 then 2 else if c = 20 then 3 else if 10 ≤ c then 4 else if c = 2 then 7 else if 5 ≤ c then 6 else 5
/-- the openings on a pile -/
def oc : List Nat → Nat
  | [] => 0
  | c :: p => oc p + (if c = 2 ∨ c = 20 ∨ 40 ≤ c then 1 else 0)
def em (p : List Nat) : List (Nat × Nat) := p.map (fun c => (c, 0))
def sett (r : Nat) : List Nat → List (Nat × Nat) → List Nat × List (Nat × Nat)
  | [], out => ([], out)
  | c :: p, out => if r ≤ rk c then sett r p (out ++ [(c, 0)]) else (c :: p, out)
/-- the nearest marker -/
def mkd : List Nat → Nat
  | [] => 0
  | c :: p => if 40 ≤ c then c else mkd p
def cpd : List Nat → Bool
  | [] => false
  | c :: p => if 4 < rk c then cpd p else decide (rk c = 4)
def AA (e : Bool) (pl : List Nat) : Prop := e = true ∧ mkd pl = 0 ∧ ∀ c p, pl = c :: p → 1 ≤ rk c ∧ rk c ≤ 3
def BD (w0 E i : Nat) (pl : List Nat) (out : List (Nat × Nat)) : Prop := pl.length ≤ 60 ∧ oc pl ≤ 8 ∧ w0 + out.length + pl.length ≤ i ∧ i ≤ E ∧ ∀ c, c ∈ pl → c < 50
def xt (m : Nat) : List (Nat × Nat) := if m = 40 then [] else if m = 43 then [(7, 0)] else [(8, 0)]
def SC (Tk : Nat → Nat) (e : Bool) (i : Nat) (pl : List Nat) : Prop := (lvl (Tk i) ≠ 3 ∧ lvl (Tk i) ≠ 4) ∧ (e = true → mkd pl = 0 → cpd pl = false → ¬ (43 ≤ Tk i ∧ Tk i ≤ 48)) ∧ (e = true → mkd pl = 0 → cpd pl = true → lvl (Tk i) ≠ 0 ∧ lvl (Tk i) ≠ 1) ∧ (Tk i = 54 → mkd pl ≠ 40 ∧ mkd pl < 43) ∧ (Tk i = 55 → mkd pl ≠ 41 ∧ mkd pl ≠ 42)
def BT (Tk : Nat → Nat) (e : Bool) (i : Nat) (pl : List Nat) : Prop := (lvl (Tk i) = 3 ∨ lvl (Tk i) = 4) ∨ (e = true ∧ mkd pl = 0 ∧ cpd pl = false ∧ 43 ≤ Tk i ∧ Tk i ≤ 48) ∨ (e = true ∧ mkd pl = 0 ∧ cpd pl = true ∧ (lvl (Tk i) = 0 ∨ lvl (Tk i) = 1))
abbrev QQ : Type := Nat → Bool → List Nat → List (Nat × Nat) → Prop
def qs (Q : QQ) (i : Nat) (wh : Bool) (z : List Nat × List (Nat × Nat)) : Prop := Q i wh z.1 z.2
def RU1 (Tk Vl : Nat → Nat) (a E w0 : Nat) (Q : QQ) (F : Nat → Nat → Prop) : Prop :=
  (∀ i pl out, BD w0 E i pl out → Tk i = 40 → Vl i ≤ 9999 → qs Q (i + 1) true (sett 7 pl (out ++ [(0, Vl i)])) → Q i false pl out) ∧
  (∀ i pl out, BD w0 E i pl out → Tk i = 40 → ¬ Vl i ≤ 9999 → F 2 i → Q i false pl out) ∧
  (∀ i pl out, BD w0 E i pl out → Tk i < 17 → nmb a (Tk i) = true → qs Q (i + 1) true (sett 7 pl (out ++ [(1, Tk i)])) → Q i false pl out) ∧
  (∀ i pl out, BD w0 E i pl out → Tk i < 17 → ¬ nmb a (Tk i) = true → F 5 i → Q i false pl out)
def OPN (Tk : Nat → Nat) (e : Bool) (i : Nat) (pl : List Nat) (m : Nat) : Prop := (Tk i = 53 ∧ m = 40) ∨ (Tk i = 50 ∧ m = 2) ∨ (Tk i = 26 ∧ AA e pl ∧ m = 20)
def RU2 (Tk : Nat → Nat) (E w0 : Nat) (e : Bool) (Q : QQ) (F : Nat → Nat → Prop) : Prop :=
  (∀ i pl out m, BD w0 E i pl out → OPN Tk e i pl m → oc pl < 8 → Q (i + 1) false (m :: pl) out → Q i false pl out) ∧
  (∀ i pl out m, BD w0 E i pl out → OPN Tk e i pl m → ¬ oc pl < 8 → F 3 i → Q i false pl out) ∧
  (∀ i pl out, BD w0 E i pl out → Tk i = 24 ∨ Tk i = 25 → Tk (i + 1) ≠ 53 → F 1 (i + 1) → Q i false pl out) ∧
  (∀ i pl out, BD w0 E i pl out → Tk i = 24 ∨ Tk i = 25 → Tk (i + 1) = 53 → ¬ oc pl < 8 → F 3 (i + 1) → Q i false pl out) ∧
  (∀ i pl out, BD w0 E i pl out → Tk i = 24 ∨ Tk i = 25 → Tk (i + 1) = 53 → oc pl < 8 → Q (i + 2) false ((Tk i + 17) :: pl) out → Q i false pl out) ∧
  (∀ i pl out, BD w0 E i pl out → Tk i ≠ 40 → ¬ Tk i < 17 → ¬ (Tk i = 24 ∨ Tk i = 25) → Tk i ≠ 53 → Tk i ≠ 50 → (Tk i = 26 → ¬ AA e pl) → F 1 i → Q i false pl out)
def RU3 (Tk : Nat → Nat) (E w0 : Nat) (e : Bool) (Q : QQ) (F : Nat → Nat → Prop) (Z : Nat → List (Nat × Nat) → Prop) : Prop :=
  (∀ i pl out, BD w0 E i pl out → BT Tk e i pl → Q (i + 1) false (opt (Tk i) :: (sett (rk (opt (Tk i))) pl out).1) (sett (rk (opt (Tk i))) pl out).2 → Q i true pl out) ∧
  (∀ i pd m rest out, BD w0 E i (pd ++ m :: rest) out → Tk i = 54 → (∀ c, c ∈ pd → c < 40) → m = 40 ∨ m = 43 ∨ m = 44 → qs Q (i + 1) true (sett 7 rest (out ++ em pd ++ xt m)) → Q i true (pd ++ m :: rest) out) ∧
  (∀ i pd m rest out, BD w0 E i (pd ++ m :: rest) out → Tk i = 55 → (∀ c, c ∈ pd → c < 40) → m = 41 ∨ m = 42 → Q (i + 1) false ((m + 2) :: rest) (out ++ em pd) → Q i true (pd ++ m :: rest) out) ∧
  (∀ i pl out, BD w0 E i pl out → SC Tk e i pl → (mkd pl ≠ 0 ∨ (e = true ∧ cpd pl = false)) → F 1 i → Q i true pl out) ∧
  (∀ i pl out, BD w0 E i pl out → SC Tk e i pl → mkd pl = 0 → (e = true → cpd pl = true) → Z i (sett 1 pl out).2 → Q i true pl out)
theorem oc_o {c : Nat} (h : c = 2 ∨ c = 20 ∨ 40 ≤ c) (p : List Nat) : oc (c :: p) = oc p + 1 := by
  show oc p + (if c = 2 ∨ c = 20 ∨ 40 ≤ c then 1 else 0) = _
  rw [if_pos h]
theorem oc_n {c : Nat} (h : ¬ (c = 2 ∨ c = 20 ∨ 40 ≤ c)) (p : List Nat) : oc (c :: p) = oc p := by
  show oc p + (if c = 2 ∨ c = 20 ∨ 40 ≤ c then 1 else 0) = _
  rw [if_neg h]
  rfl
theorem oc_app (q : List Nat) : ∀ p, oc (p ++ q) = oc p + oc q
  | [] => by show oc q = 0 + oc q; omega
  | c :: p => by
    show oc (p ++ q) + (if c = 2 ∨ c = 20 ∨ 40 ≤ c then 1 else 0) = oc p + (if c = 2 ∨ c = 20 ∨ 40 ≤ c then 1 else 0) + oc q
    rw [oc_app q p]
    omega
theorem mkd_app {m : Nat} (hm : 40 ≤ m) (rest : List Nat) : ∀ p, (∀ c, c ∈ p → c < 40) → mkd (p ++ m :: rest) = m
  | [], _ => if_pos hm
  | c :: p, h => by
    show (if 40 ≤ c then c else mkd (p ++ m :: rest)) = m
    have := h c (List.mem_cons_self ..)
    rw [if_neg (by omega)]
    exact mkd_app hm rest p (fun c' h' => h c' (List.mem_cons_of_mem _ h'))
theorem mkd_no (q : List Nat) : ∀ p, (∀ c, c ∈ p → c < 40) → mkd (p ++ q) = mkd q
  | [], _ => rfl
  | c :: p, h => by
    show (if 40 ≤ c then c else mkd (p ++ q)) = mkd q
    have := h c (List.mem_cons_self ..)
    rw [if_neg (by omega)]
    exact mkd_no q p (fun c' h' => h c' (List.mem_cons_of_mem _ h'))
theorem cpd_app (q : List Nat) : ∀ p, cpd p = true → cpd (p ++ q) = true
  | [], h => absurd h (by decide)
  | c :: p, h => by
    have h : (if 4 < rk c then cpd p else decide (rk c = 4)) = true := h
    show (if 4 < rk c then cpd (p ++ q) else decide (rk c = 4)) = true
    by_cases k : 4 < rk c
    · rw [if_pos k] at h ⊢; exact cpd_app q p h
    · rw [if_neg k] at h ⊢; exact h
theorem cpd_hi (q : List Nat) : ∀ p, (∀ c, c ∈ p → 5 ≤ rk c) → cpd (p ++ q) = cpd q
  | [], _ => rfl
  | c :: p, h => by
    show (if 4 < rk c then cpd (p ++ q) else decide (rk c = 4)) = cpd q
    have := h c (List.mem_cons_self ..)
    rw [if_pos (by omega)]
    exact cpd_hi q p (fun c' h' => h c' (List.mem_cons_of_mem _ h'))
theorem cpd_lo {old : List Nat} (h : ∀ c p, old = c :: p → rk c < 4) : cpd old = false := by
  cases old with
  | nil => rfl
  | cons c p =>
    have := h c p rfl
    show (if 4 < rk c then cpd p else decide (rk c = 4)) = false
    rw [if_neg (by omega)]
    exact decide_eq_false (by omega)
theorem em_len (p : List Nat) : (em p).length = p.length := List.length_map ..
theorem em_app (p q : List Nat) : em (p ++ q) = em p ++ em q := List.map_append ..
theorem sett_l (r : Nat) : ∀ pl out, (sett r pl out).1.length + (sett r pl out).2.length = pl.length + out.length ∧ (sett r pl out).1.length ≤ pl.length ∧ oc (sett r pl out).1 ≤ oc pl ∧ ∀ c, c ∈ (sett r pl out).1 → c ∈ pl
  | [], out => ⟨rfl, Nat.le_refl _, Nat.le_refl _, fun _ h => h⟩
  | c :: p, out => by
    unfold sett
    by_cases q : r ≤ rk c
    · rw [if_pos q]
      obtain ⟨h1, h2, h3, h4⟩ := sett_l r p (out ++ [(c, 0)])
      rw [List.length_append] at h1
      have h1 : (sett r p (out ++ [(c, 0)])).1.length + (sett r p (out ++ [(c, 0)])).2.length = p.length + (out.length + 1) := h1
      refine ⟨by rw [List.length_cons]; omega, by rw [List.length_cons]; omega, ?_, fun c' h' => List.mem_cons_of_mem _ (h4 c' h')⟩
      show _ ≤ oc p + (if c = 2 ∨ c = 20 ∨ 40 ≤ c then 1 else 0)
      omega
    · rw [if_neg q]; exact ⟨rfl, Nat.le_refl _, Nat.le_refl _, fun _ h => h⟩
theorem sett_app {r : Nat} {old : List Nat} (ho : ∀ c p, old = c :: p → rk c < r) : ∀ pd out, (∀ c, c ∈ pd → r ≤ rk c) → sett r (pd ++ old) out = (old, out ++ em pd)
  | [], out, _ => by
    show sett r old out = (old, out ++ [])
    rw [List.append_nil]
    cases old with
    | nil => rfl
    | cons c p =>
      have := ho c p rfl
      exact if_neg (by omega)
  | c :: pd, out, h => by
    have e : sett r (c :: (pd ++ old)) out = sett r (pd ++ old) (out ++ [(c, 0)]) := if_pos (h c (List.mem_cons_self ..))
    show sett r (c :: (pd ++ old)) out = _
    rw [e, sett_app ho pd _ (fun c' h' => h c' (List.mem_cons_of_mem _ h')), List.append_assoc]
    rfl
theorem sett_0 {r : Nat} {old : List Nat} (ho : ∀ c p, old = c :: p → rk c < r) (out : List (Nat × Nat)) : sett r old out = (old, out) := by
  have := sett_app ho [] out (fun c h => absurd h List.not_mem_nil)
  rw [show em [] = ([] : List (Nat × Nat)) from rfl, List.append_nil] at this
  exact this
theorem BD_sett {w0 E i r : Nat} {pl : List Nat} {out : List (Nat × Nat)} (h : BD w0 E i pl out) : BD w0 E i (sett r pl out).1 (sett r pl out).2 := by
  obtain ⟨h1, h2, h3, h4, h5⟩ := h
  obtain ⟨g1, g2, g3, g4⟩ := sett_l r pl out
  exact ⟨by omega, by omega, by omega, h4, fun c hc => h5 c (g4 c hc)⟩
def rl (l : Nat) : Nat := [1, 2, 3, 5, 6, 7].getD l 7
def tp (l : Nat) : Nat := [1, 2, 4, 5, 6, 7].getD l 7
def TP (l : Nat) (old : List Nat) : Prop := ∀ c p, old = c :: p → rk c < tp l
def PE (l : Nat) (pd : List Nat) : Prop := (∀ c, c ∈ pd → rl l ≤ rk c ∧ c < 40 ∧ c ≠ 2) ∧ pd.length + l ≤ 5 + oc pd ∧ (l ≤ 2 → cpd pd = true)
def FN (l t : Nat) : Prop := ∀ m, l ≤ m → m ≤ 4 → lvl t ≠ m
def OB (e : Bool) (l : Nat) (old : List Nat) : Prop := (l ≤ 2 → e = true ∧ mkd old = 0) ∧ TP l old ∧ old.length ≤ 3 * oc old + l
def S5 (Tk Vl : Nat → Nat) (a E w0 : Nat) (e : Bool) (Q : QQ) (F : Nat → Nat → Prop) (n : Nat) : Prop := ∀ i pl out r, r = pp Tk Vl a n 0 5 (oc pl) i → BD w0 E i pl out → (Tk i = 26 → ¬ AA e pl) → pl.length ≤ 3 * oc pl + 5 → r.1 ≠ 9 → (r.1 = 0 → BD w0 E r.2.1 (sett 7 pl (out ++ r.2.2)).1 (sett 7 pl (out ++ r.2.2)).2 → qs Q r.2.1 true (sett 7 pl (out ++ r.2.2))) → (r.1 ≠ 0 → F r.1 r.2.1) → Q i false pl out
def SA (Tk Vl : Nat → Nat) (a E w0 : Nat) (e : Bool) (Q : QQ) (F : Nat → Nat → Prop) (n l : Nat) : Prop := ∀ i old out r, r = pp Tk Vl a n 0 l (oc old) i → BD w0 E i old out → OB e l old → (3 ≤ l → Tk i = 26 → ¬ AA e old) → r.1 ≠ 9 → (r.1 = 0 → ∀ pd out1, PE l pd → out1 ++ em pd = out ++ r.2.2 → BD w0 E r.2.1 (pd ++ old) out1 → FN l (Tk r.2.1) → Q r.2.1 true (pd ++ old) out1) → (r.1 ≠ 0 → F r.1 r.2.1) → Q i false old out
def ST (Tk Vl : Nat → Nat) (a E w0 : Nat) (e : Bool) (Q : QQ) (F : Nat → Nat → Prop) (n l : Nat) : Prop := ∀ i pd old out r, r = pp Tk Vl a n 1 l (oc old) i → BD w0 E i (pd ++ old) out → OB e l old → PE l pd → FN (l + 1) (Tk i) → r.1 ≠ 9 → (r.1 = 0 → ∀ pd' out1, PE l pd' → out1 ++ em pd' = out ++ em pd ++ r.2.2 → BD w0 E r.2.1 (pd' ++ old) out1 → FN l (Tk r.2.1) → Q r.2.1 true (pd' ++ old) out1) → (r.1 ≠ 0 → F r.1 r.2.1) → Q i true (pd ++ old) out
theorem BD_psh {w0 E i m : Nat} {pl : List Nat} {out : List (Nat × Nat)} (h : BD w0 E i pl out) (hi : i + 1 ≤ E) (hm : m < 50) (hl : pl.length < 60) (ho : oc (m :: pl) ≤ 8) : BD w0 E (i + 1) (m :: pl) out := by
  obtain ⟨h1, h2, h3, h4, h5⟩ := h
  refine ⟨by rw [List.length_cons]; omega, ho, by rw [List.length_cons]; omega, hi, fun c hc => ?_⟩
  rcases List.mem_cons.mp hc with g | g
  · omega
  · exact h5 c g
theorem BD_i {w0 E i j : Nat} {pl : List Nat} {out : List (Nat × Nat)} (h : BD w0 E i pl out) (hi : i ≤ j) (hj : j ≤ E) : BD w0 E j pl out := ⟨h.1, h.2.1, by have := h.2.2.1; omega, hj, h.2.2.2.2⟩
theorem aa_o {e : Bool} {m : Nat} {pl : List Nat} (hm : ¬ (1 ≤ rk m ∧ rk m ≤ 3)) : ¬ AA e (m :: pl) := fun h => hm (h.2.2 m pl rfl)
/-- behind an inner part, the marker m still open -/
theorem BD_cl {w0 E j m : Nat} {pd rest : List Nat} {out out1 : List (Nat × Nat)} {z : List (Nat × Nat)} (h : BD w0 E j (pd ++ m :: rest) out1) (e : out1 ++ em pd = out ++ z) (hj : j + 1 ≤ E) : BD w0 E (j + 1) rest (out ++ z) ∧ BD w0 E j rest (out ++ z) := by
  obtain ⟨h1, h2, h3, h4, h5⟩ := h
  have el := congrArg List.length e
  rw [List.length_append, em_len] at el
  rw [List.length_append, List.length_cons] at h1 h3
  rw [oc_app] at h2
  have h2' : oc pd + (oc rest + (if m = 2 ∨ m = 20 ∨ 40 ≤ m then 1 else 0)) ≤ 8 := h2
  have h5' : ∀ c, c ∈ rest → c < 50 := fun c hc => h5 c (List.mem_append_right _ (List.mem_cons_of_mem _ hc))
  exact ⟨⟨by omega, by omega, by omega, hj, h5'⟩, ⟨by omega, by omega, by omega, h4, h5'⟩⟩
theorem S5_SA {Tk Vl : Nat → Nat} {a E w0 : Nat} {e : Bool} {Q : QQ} {F : Nat → Nat → Prop} {n : Nat} (h : S5 Tk Vl a E w0 e Q F n) : SA Tk Vl a E w0 e Q F n 5 := by
  intro i old out r hr hB hO h26 h9 hok hf
  refine h i old out r hr hB (h26 (by decide)) hO.2.2 h9 (fun q hb => ?_) hf
  have es : sett 7 old (out ++ r.2.2) = (old, out ++ r.2.2) := sett_0 hO.2.1 _
  rw [es] at hb ⊢
  exact hok q [] (out ++ r.2.2) ⟨fun c hc => absurd hc List.not_mem_nil, by show 0 + 5 ≤ 5 + 0; omega, fun g => absurd g (by decide)⟩ (by rw [show em [] = ([] : List (Nat × Nat)) from rfl, List.append_nil]) hb (fun m h1 h2 => by omega)
