/-! the call winter -/
abbrev wO : Type := Option (Nat × Nat)
def wg2 (h : Nat → Nat → Int32) (c z : Nat) : wO → wO
  | none => some (c, z)
  | some q => if h q.1 q.2 < h c z then some (c, z) else some q
def wg (h : Nat → Nat → Int32) (U : Nat → Int32) : Nat → Nat → wO → wO := fun c z b => if ¬ U (8 * c + z) = nI 0 then b else wg2 h c z b
theorem wg2_s (h : Nat → Nat → Int32) (c z : Nat) (q : Nat × Nat) : wg2 h c z (some q) = if h q.1 q.2 < h c z then some (c, z) else some q := rfl
def wid : Nat → wO → wO := fun _ a => a
def wpk (h : Nat → Nat → Int32) (y : VW) (w : Nat) (U : Nat → Int32) : wO := l3 (cn y) wid (wg h U) wid w none
def wst (h : Nat → Nat → Int32) (y : VW) (w : Nat) : Nat → (Nat → Int32) × Int32
  | 0 => (fun _ => nI 0, nI 0)
  | t + 1 => match wpk h y w (wst h y w t).1 with
    | none => wst h y w t
    | some q => (fun j => if j = 8 * q.1 + q.2 then nI 1 else (wst h y w t).1 j, (wst h y w t).2 + h q.1 q.2)
theorem wst_s {h : Nat → Nat → Int32} {y : VW} {w t : Nat} {q : Nat × Nat} (e : wpk h y w (wst h y w t).1 = some q) : wst h y w (t + 1) = (fun j => if j = 8 * q.1 + q.2 then nI 1 else (wst h y w t).1 j, (wst h y w t).2 + h q.1 q.2) := by
  show (match wpk h y w (wst h y w t).1 with
    | none => wst h y w t
    | some q => (fun j => if j = 8 * q.1 + q.2 then nI 1 else (wst h y w t).1 j, (wst h y w t).2 + h q.1 q.2)) = _
  rw [e]
/-- how many are used -/
def uz (U : Nat → Int32) (c : Nat) : Nat → Nat
  | 0 => 0
  | z + 1 => uz U c z + (if U (8 * c + z) = nI 0 then 0 else 1)
def uw (y : VW) (U : Nat → Int32) : Nat → Nat
  | 0 => 0
  | c + 1 => uw y U c + uz U c (cn y c)
theorem uz_0 (c : Nat) : ∀ n, uz (fun _ => nI 0) c n = 0
  | 0 => rfl
  | n + 1 => by
    show uz (fun _ => nI 0) c n + (if nI 0 = nI 0 then 0 else 1) = 0
    rw [uz_0 c n, if_pos rfl]
theorem uw_0 (y : VW) : ∀ n, uw y (fun _ => nI 0) n = 0
  | 0 => rfl
  | n + 1 => by
    show uw y (fun _ => nI 0) n + uz (fun _ => nI 0) n (cn y n) = 0
    rw [uw_0 y n, uz_0]
theorem uz_u {U : Nat → Int32} {c0 z0 : Nat} (hU : U (8 * c0 + z0) = nI 0) (h8 : z0 < 8) (c : Nat) : ∀ n, n ≤ 8 → uz (fun j => if j = 8 * c0 + z0 then nI 1 else U j) c n = uz U c n + (if c = c0 ∧ z0 < n then 1 else 0)
  | 0, _ => by rw [if_neg (by omega)]; rfl
  | n + 1, hn => by
    have ih := uz_u hU h8 c n (by omega)
    have e1 : uz (fun j => if j = 8 * c0 + z0 then nI 1 else U j) c (n + 1) = uz (fun j => if j = 8 * c0 + z0 then nI 1 else U j) c n + (if (if 8 * c + n = 8 * c0 + z0 then nI 1 else U (8 * c + n)) = nI 0 then 0 else 1) := rfl
    have e2 : uz U c (n + 1) = uz U c n + (if U (8 * c + n) = nI 0 then 0 else 1) := rfl
    rw [e1, e2, ih]
    by_cases e : 8 * c + n = 8 * c0 + z0
    · have hA : (if (if 8 * c + n = 8 * c0 + z0 then nI 1 else U (8 * c + n)) = nI 0 then (0 : Nat) else 1) = 1 := by rw [if_pos e]; rfl
      have hB : (if U (8 * c + n) = nI 0 then (0 : Nat) else 1) = 0 := by rw [e, hU]; rfl
      have hC : (if c = c0 ∧ z0 < n then (1 : Nat) else 0) = 0 := if_neg (by omega)
      have hD : (if c = c0 ∧ z0 < n + 1 then (1 : Nat) else 0) = 1 := if_pos (by omega)
      rw [hA, hB, hC, hD]
    · have hA : (if (if 8 * c + n = 8 * c0 + z0 then nI 1 else U (8 * c + n)) = nI 0 then (0 : Nat) else 1) = if U (8 * c + n) = nI 0 then 0 else 1 := by rw [if_neg e]
      have hC : (if c = c0 ∧ z0 < n then (1 : Nat) else 0) = if c = c0 ∧ z0 < n + 1 then 1 else 0 := by
        by_cases q : c = c0 ∧ z0 < n
        · rw [if_pos q, if_pos (by omega)]
        · rw [if_neg q, if_neg (by omega)]
      rw [hA, hC, Nat.add_right_comm]
theorem uw_u {y : VW} {U : Nat → Int32} {c0 z0 w : Nat} (ok : OKP w y) (hc : c0 < w) (hz : z0 < cn y c0) (hU : U (8 * c0 + z0) = nI 0) : ∀ n, n ≤ w → uw y (fun j => if j = 8 * c0 + z0 then nI 1 else U j) n = uw y U n + (if c0 < n then 1 else 0)
  | 0, _ => by rw [if_neg (by omega)]; rfl
  | n + 1, hn => by
    have h8 := OK_n ok hc
    have h8n := OK_n ok (c := n) (by omega)
    have ih := uw_u ok hc hz hU n (by omega)
    have iz := uz_u hU (by omega) n (cn y n) h8n
    have e1 : uw y (fun j => if j = 8 * c0 + z0 then nI 1 else U j) (n + 1) = uw y (fun j => if j = 8 * c0 + z0 then nI 1 else U j) n + uz (fun j => if j = 8 * c0 + z0 then nI 1 else U j) n (cn y n) := rfl
    have e2 : uw y U (n + 1) = uw y U n + uz U n (cn y n) := rfl
    rw [e1, e2, ih, iz]
    by_cases e : n = c0
    · have hA : (if c0 < n then (1 : Nat) else 0) = 0 := if_neg (by omega)
      have hB : (if n = c0 ∧ z0 < cn y n then (1 : Nat) else 0) = 1 := if_pos ⟨e, by rw [e]; exact hz⟩
      have hC : (if c0 < n + 1 then (1 : Nat) else 0) = 1 := if_pos (by omega)
      rw [hA, hB, hC]; omega
    · have hB : (if n = c0 ∧ z0 < cn y n then (1 : Nat) else 0) = 0 := if_neg (fun g => e g.1)
      have hC : (if c0 < n + 1 then (1 : Nat) else 0) = if c0 < n then 1 else 0 := by
        by_cases q : c0 < n
        · rw [if_pos q, if_pos (by omega)]
        · rw [if_neg q, if_neg (by omega)]
      rw [hB, hC]; omega
/-- what has been looked through -/
def wJ (y : VW) (w : Nat) (U : Nat → Int32) (c z : Nat) (b : wO) : Prop := (b = none → uw y U c + uz U c z = spl y c + z) ∧ ∀ q, b = some q → q.1 < w ∧ q.2 < cn y q.1 ∧ U (8 * q.1 + q.2) = nI 0
theorem wpk_I (h : Nat → Nat → Int32) (y : VW) (w : Nat) (U : Nat → Int32) : wJ y w U w 0 (wpk h y w U) := by
  refine l3_inv w (cn y) wid (wg h U) wid (fun c b => wJ y w U c 0 b) (fun c z b => wJ y w U c z b) (fun c a _ g => g) (fun c z b hc hz g => ?_) (fun c b hc g => ?_) none ⟨fun _ => rfl, fun q e => by cases e⟩
  · unfold wg
    by_cases hu : U (8 * c + z) = nI 0
    · rw [if_neg (fun g => g hu)]
      cases b with
      | none => exact ⟨(fun e => by cases e), fun q e => by cases e; exact ⟨hc, hz, hu⟩⟩
      | some q0 =>
        rw [wg2_s]
        by_cases h2 : h q0.1 q0.2 < h c z
        · rw [if_pos h2]; exact ⟨(fun e => by cases e), fun q e => by cases e; exact ⟨hc, hz, hu⟩⟩
        · rw [if_neg h2]; exact ⟨(fun e => by cases e), g.2⟩
    · rw [if_pos hu]
      refine ⟨fun e => ?_, g.2⟩
      have := g.1 e
      show uw y U c + (uz U c z + (if U (8 * c + z) = nI 0 then 0 else 1)) = _
      rw [if_neg hu]; omega
  · refine ⟨fun e => ?_, g.2⟩
    have := g.1 e
    show uw y U c + uz U c (cn y c) + 0 = spl y c + cn y c + 0
    omega
theorem wst_ok {h : Nat → Nat → Int32} {y : VW} {w : Nat} (ok : OKP w y) : ∀ t, t ≤ spl y w → uw y (wst h y w t).1 w = t ∧ (∀ j, (wst h y w t).1 j = nI 0 ∨ (wst h y w t).1 j = nI 1)
  | 0, _ => ⟨uw_0 y w, fun _ => Or.inl rfl⟩
  | t + 1, ht => by
    obtain ⟨a1, a2⟩ := wst_ok (h := h) ok t (by omega)
    have hI := wpk_I h y w (wst h y w t).1
    cases e : wpk h y w (wst h y w t).1 with
    | none =>
      rw [e] at hI
      have g1 := hI.1 rfl
      have : uz (wst h y w t).1 w 0 = 0 := rfl
      omega
    | some q =>
      rw [e] at hI
      obtain ⟨q1, q2, q3⟩ := hI.2 q rfl
      rw [wst_s e]
      refine ⟨?_, fun j => ?_⟩
      · show uw y (fun j => if j = 8 * q.1 + q.2 then nI 1 else (wst h y w t).1 j) w = t + 1
        rw [uw_u ok q1 q2 q3 w (Nat.le_refl _), a1, if_pos q1]
      · show (if j = 8 * q.1 + q.2 then nI 1 else (wst h y w t).1 j) = nI 0 ∨ (if j = 8 * q.1 + q.2 then nI 1 else (wst h y w t).1 j) = nI 1
        by_cases g : j = 8 * q.1 + q.2
        · rw [if_pos g]; exact Or.inr rfl
        · rw [if_neg g]; exact a2 j
theorem wpk_s {h : Nat → Nat → Int32} {y : VW} {w t : Nat} (ok : OKP w y) (ht : t < spl y w) : ∃ q, wpk h y w (wst h y w t).1 = some q ∧ q.1 < w ∧ q.2 < cn y q.1 ∧ (wst h y w t).1 (8 * q.1 + q.2) = nI 0 := by
  obtain ⟨a1, _⟩ := wst_ok (h := h) ok t (by omega)
  have hI := wpk_I h y w (wst h y w t).1
  cases e : wpk h y w (wst h y w t).1 with
  | none =>
    rw [e] at hI
    have g1 := hI.1 rfl
    have : uz (wst h y w t).1 w 0 = 0 := rfl
    omega
  | some q =>
    rw [e] at hI
    obtain ⟨q1, q2, q3⟩ := hI.2 q rfl
    exact ⟨q, rfl, q1, q2, q3⟩
/-- the answer: m left behind t -/
def wan (h : Nat → Nat → Int32) (y : VW) (w : Nat) (lim : Int32) : Nat → Nat → Int32
  | 0, _ => N1
  | m + 1, t => if (wst h y w (t + 1)).2 < lim then wan h y w lim m (t + 1) else nI (t + 1)
/-- the class's list against what is used -/
def wH (h : Nat → Nat → Int32) (y : VW) (w : Nat) (H U : Nat → Int32) : Prop := ∀ c z, c < w → z < cn y c → H (spl y c + z) = if U (8 * c + z) = nI 0 then h c z else nI 0
theorem bo_l3 (H : Nat → Int32) (y : VW) : ∀ w, bo H (spl y w) = l3 (cn y) (fun _ a => a) (fun c z b => if H b < H (spl y c + z) then spl y c + z else b) (fun _ a => a) w 0
  | 0 => rfl
  | w + 1 => by
    have key : ∀ n, bo H (spl y w + n) = fz (fun z b => if H b < H (spl y w + z) then spl y w + z else b) n (bo H (spl y w)) := by
      intro n
      induction n with
      | zero => rfl
      | succ n ih =>
        show (if H (bo H (spl y w + n)) < H (spl y w + n) then spl y w + n else bo H (spl y w + n)) = _
        rw [ih]; rfl
    show bo H (spl y w + cn y w) = fz (fun z b => if H b < H (spl y w + z) then spl y w + z else b) (cn y w) (l3 (cn y) (fun _ a => a) (fun c z b => if H b < H (spl y c + z) then spl y c + z else b) (fun _ a => a) w 0)
    rw [key, bo_l3 H y w]
/-- both searches, side by side -/
def wK (h : Nat → Nat → Int32) (y : VW) (w : Nat) (H U : Nat → Int32) (p : Nat) (b : Nat × wO) : Prop := (p = 0 → b.1 = 0 ∧ b.2 = none) ∧ (0 < p → b.1 < p ∧ (b.2 = none → H b.1 = nI 0) ∧ (∀ q, b.2 = some q → q.1 < w ∧ q.2 < cn y q.1 ∧ U (8 * q.1 + q.2) = nI 0 ∧ H b.1 = h q.1 q.2 ∧ (nI 0 < h q.1 q.2 → b.1 = spl y q.1 + q.2)))
theorem wpair {h : Nat → Nat → Int32} {y : VW} {w : Nat} {H U : Nat → Int32} (hh : ∀ c z, c < w → z < cn y c → nI 0 ≤ h c z) (hH : wH h y w H U) : wK h y w H U (spl y w) (bo H (spl y w), wpk h y w U) := by
  have e : (bo H (spl y w), wpk h y w U) = l3 (cn y) (fun _ (a : Nat × wO) => a) (fun c z b => (if H b.1 < H (spl y c + z) then spl y c + z else b.1, wg h U c z b.2)) (fun _ a => a) w (0, none) := by
    refine Prod.ext ?_ ?_
    · rw [bo_l3]
      exact (l3_map (fun a : Nat × wO => a.1) (n := cn y) (g := fun c z b => (if H b.1 < H (spl y c + z) then spl y c + z else b.1, wg h U c z b.2)) (g' := fun c z b => if H b < H (spl y c + z) then spl y c + z else b) (fun c z a => rfl) (0, none) w).symm
    · exact (l3_map (fun a : Nat × wO => a.2) (n := cn y) (g := fun c z b => (if H b.1 < H (spl y c + z) then spl y c + z else b.1, wg h U c z b.2)) (g' := wg h U) (fun c z a => rfl) (0, none) w).symm
  rw [e]
  have := l3_inv w (cn y) (fun _ (a : Nat × wO) => a) (fun c z b => (if H b.1 < H (spl y c + z) then spl y c + z else b.1, wg h U c z b.2)) (fun _ a => a) (fun c b => wK h y w H U (spl y c) b) (fun c z b => wK h y w H U (spl y c + z) b) (fun c a _ g => g) (fun c z b hc hz g => ?_) (fun c b hc g => g) (0, none) ⟨fun _ => ⟨rfl, rfl⟩, fun g => absurd g (Nat.lt_irrefl 0)⟩
  · exact this
  · obtain ⟨b1, b2⟩ := b
    have hp := hH c z hc hz
    have h0 := hh c z hc hz
    have hn0 : ¬ nI 0 < nI 0 := by decide
    refine ⟨fun q => by omega, fun _ => ?_⟩
    by_cases hu : U (8 * c + z) = nI 0
    · rw [if_pos hu] at hp
      have ew : wg h U c z b2 = wg2 h c z b2 := by unfold wg; rw [if_neg (fun g => g hu)]
      show (if H b1 < H (spl y c + z) then spl y c + z else b1) < spl y c + z + 1 ∧ (wg h U c z b2 = none → H (if H b1 < H (spl y c + z) then spl y c + z else b1) = nI 0) ∧ (∀ q, wg h U c z b2 = some q → q.1 < w ∧ q.2 < cn y q.1 ∧ U (8 * q.1 + q.2) = nI 0 ∧ H (if H b1 < H (spl y c + z) then spl y c + z else b1) = h q.1 q.2 ∧ (nI 0 < h q.1 q.2 → (if H b1 < H (spl y c + z) then spl y c + z else b1) = spl y q.1 + q.2))
      rw [ew, hp]
      by_cases p0 : spl y c + z = 0
      · obtain ⟨g1, g2⟩ := g.1 p0
        dsimp only at g1 g2
        subst g1 g2
        have hz0 : H 0 = h c z := by rw [p0] at hp; exact hp
        have hn : ¬ H 0 < h c z := by rw [hz0]; exact Int32.lt_irrefl
        rw [if_neg hn]
        refine ⟨by omega, (fun e => by cases e), fun q e => ?_⟩
        cases e
        exact ⟨hc, hz, hu, hz0, fun _ => by show 0 = spl y c + z; omega⟩
      · obtain ⟨g1, g2, g3⟩ := g.2 (by omega)
        dsimp only at g1 g2 g3
        cases b2 with
        | none =>
          have hb := g2 rfl
          rw [hb]
          by_cases h1 : nI 0 < h c z
          · rw [if_pos h1]
            refine ⟨by omega, (fun e => by cases e), fun q e => ?_⟩
            cases e
            exact ⟨hc, hz, hu, hp, fun _ => rfl⟩
          · rw [if_neg h1]
            refine ⟨by omega, (fun e => by cases e), fun q e => ?_⟩
            cases e
            refine ⟨hc, hz, hu, ?_, fun g => absurd g h1⟩
            rw [hb]
            show nI 0 = h c z
            rw [fa_eq]
            rw [fa_lt] at h1
            rw [fa_le] at h0
            omega
        | some q0 =>
          obtain ⟨k1, k2, k3, k4, k5⟩ := g3 q0 rfl
          rw [k4, wg2_s]
          by_cases h1 : h q0.1 q0.2 < h c z
          · rw [if_pos h1, if_pos h1]
            refine ⟨by omega, (fun e => by cases e), fun q e => ?_⟩
            cases e
            exact ⟨hc, hz, hu, hp, fun _ => rfl⟩
          · rw [if_neg h1, if_neg h1]
            refine ⟨by omega, (fun e => by cases e), fun q e => ?_⟩
            cases e
            exact ⟨k1, k2, k3, k4, k5⟩
    · rw [if_neg hu] at hp
      have ew : wg h U c z b2 = b2 := by unfold wg; rw [if_pos hu]
      show (if H b1 < H (spl y c + z) then spl y c + z else b1) < spl y c + z + 1 ∧ (wg h U c z b2 = none → H (if H b1 < H (spl y c + z) then spl y c + z else b1) = nI 0) ∧ (∀ q, wg h U c z b2 = some q → q.1 < w ∧ q.2 < cn y q.1 ∧ U (8 * q.1 + q.2) = nI 0 ∧ H (if H b1 < H (spl y c + z) then spl y c + z else b1) = h q.1 q.2 ∧ (nI 0 < h q.1 q.2 → (if H b1 < H (spl y c + z) then spl y c + z else b1) = spl y q.1 + q.2))
      rw [ew, hp]
      by_cases p0 : spl y c + z = 0
      · obtain ⟨g1, g2⟩ := g.1 p0
        dsimp only at g1 g2
        subst g1 g2
        have hz0 : H 0 = nI 0 := by rw [p0] at hp; exact hp
        rw [hz0, if_neg hn0]
        exact ⟨by omega, fun _ => hz0, fun q e => by cases e⟩
      · obtain ⟨g1, g2, g3⟩ := g.2 (by omega)
        dsimp only at g1 g2 g3
        have hb0 : ¬ H b1 < nI 0 := by
          cases b2 with
          | none => rw [g2 rfl]; exact hn0
          | some q0 =>
            obtain ⟨k1, k2, k3, k4, k5⟩ := g3 q0 rfl
            rw [k4]
            have := hh q0.1 q0.2 k1 k2
            exact Int32.not_lt.mpr this
        rw [if_neg hb0]
        exact ⟨by omega, g2, g3⟩
theorem spl_mono (y : VW) : ∀ {a b : Nat}, a < b → spl y a + cn y a ≤ spl y b
  | a, 0, h => absurd h (Nat.not_lt_zero _)
  | a, b + 1, h => by
    show spl y a + cn y a ≤ spl y b + cn y b
    by_cases e : a = b
    · rw [e]; exact Nat.le_refl _
    · have := spl_mono y (a := a) (b := b) (by omega)
      omega
theorem pos_inj {y : VW} {c z c' z' : Nat} (hz : z < cn y c) (hz' : z' < cn y c') (e : spl y c + z = spl y c' + z') : c = c' ∧ z = z' := by
  by_cases h : c = c'
  · subst h; exact ⟨rfl, by omega⟩
  · by_cases h2 : c < c'
    · have := spl_mono y h2; omega
    · have := spl_mono y (a := c') (b := c) (by omega); omega
/-- one more pulled: the lists stay alike -/
theorem wH_s {h : Nat → Nat → Int32} {y : VW} {w t : Nat} {H : Nat → Int32} {q : Nat × Nat} (ok : OKP w y) (hh : ∀ c z, c < w → z < cn y c → nI 0 ≤ h c z) (hH : wH h y w H (wst h y w t).1) (hs : 0 < spl y w) (e : wpk h y w (wst h y w t).1 = some q) : H (bo H (spl y w)) = h q.1 q.2 ∧ bo H (spl y w) < spl y w ∧ wH h y w (fun p => if p = bo H (spl y w) then nI 0 else H p) (wst h y w (t + 1)).1 := by
  have hK := (wpair hh hH).2 hs
  rw [e] at hK
  obtain ⟨k1, _, k3⟩ := hK
  dsimp only at k1 k3
  obtain ⟨q1, q2, q3, q4, q5⟩ := k3 q rfl
  refine ⟨q4, k1, fun c z hc hz => ?_⟩
  rw [wst_s e]
  have h8 := OK_n ok hc
  have h8q := OK_n ok q1
  have hp := hH c z hc hz
  show (if spl y c + z = bo H (spl y w) then nI 0 else H (spl y c + z)) = if (if 8 * c + z = 8 * q.1 + q.2 then nI 1 else (wst h y w t).1 (8 * c + z)) = nI 0 then h c z else nI 0
  by_cases h1 : nI 0 < h q.1 q.2
  · have eb := q5 h1
    rw [eb]
    by_cases g : spl y c + z = spl y q.1 + q.2
    · obtain ⟨g1, g2⟩ := pos_inj hz q2 g
      subst g1 g2
      rw [if_pos rfl, if_pos rfl, if_neg (by decide)]
    · have g2 : ¬ 8 * c + z = 8 * q.1 + q.2 := fun g2 => g (by
        have e1 : c = q.1 := by omega
        have e2 : z = q.2 := by omega
        rw [e1, e2])
      rw [if_neg g, if_neg g2, hp]
  · have hq0 : h q.1 q.2 = nI 0 := by
      have := hh q.1 q.2 q1 q2
      rw [fa_eq]
      rw [fa_lt] at h1
      rw [fa_le] at this
      omega
    have eL : (if spl y c + z = bo H (spl y w) then nI 0 else H (spl y c + z)) = H (spl y c + z) := by
      by_cases g : spl y c + z = bo H (spl y w)
      · rw [if_pos g, g, q4, hq0]
      · rw [if_neg g]
    rw [eL, hp]
    by_cases g : 8 * c + z = 8 * q.1 + q.2
    · have e1 : c = q.1 := by omega
      have e2 : z = q.2 := by omega
      subst e1 e2
      rw [if_pos q3, if_pos rfl, if_neg (by decide), hq0]
    · rw [if_neg g]
