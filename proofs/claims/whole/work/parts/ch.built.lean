/-! the heap that the constructors build: both are alike at the start -/
def hp0 (L : Nat) (xs : Nat → Int32) : qm_Hp := (fun a _ c => if a = 80 then xs c else if a = 82 then nI L else 0, fun _ _ _ => 0, fun _ _ _ => (0, 0))
def hpF (L : Nat) (xs : Nat → Int32) (v : Int32) : qm_Hp := hM (hC (hp0 L xs) v) v
theorem zF_keep (L : Nat) (xs : Nat → Int32) (v : Int32) {a : Nat} (h61 : a ≠ 61) (b c : Nat) : zI (hpF L xs v) a b c = zI (hM0 (hC (hp0 L xs) v) v) a b c := by
  unfold hpF hM
  rw [zI_uC, if_neg (fun q => h61 q.1)]
theorem hp0_Z (L : Nat) (xs : Nat → Int32) : qn_Z 0 (hp0 L xs) := by
  intro q _ h2 j
  have h8 : ∀ q, q < 155 → (qm_desc.getD q (0, 0)).1 ≠ 80 ∧ (qm_desc.getD q (0, 0)).1 ≠ 82 := by decide +kernel
  obtain ⟨g1, g2⟩ := h8 q h2
  refine ⟨?_, rfl, rfl⟩
  show (if _ = 80 then xs j else if _ = 82 then nI L else 0) = (0 : Int32)
  rw [if_neg g1, if_neg g2]
theorem qn_fl61 : ∀ q ∈ qn_flM, q.1 ≠ 61 := by decide
theorem bt_okF (L : Nat) (xs : Nat → Int32) (v : Int32) : qm_okH (hpF L xs v) := by
  obtain ⟨h1, h2, h3⟩ := bt_ok (hp0 L xs) v rfl
  refine ⟨h1, h2, fun k i f hf hi => ?_⟩
  have h61 : k ≠ 61 := by
    have := (fl_cond hf).1
    omega
  rw [zF_keep L xs v h61]
  exact h3 k i f hf hi
set_option maxRecDepth 100000 in
theorem bt_80 (L : Nat) (xs : Nat → Int32) (v : Int32) (j : Nat) : zI (hC (hp0 L xs) v) 80 0 j = xs j := rfl
set_option maxRecDepth 100000 in
theorem bt_82 (L : Nat) (xs : Nat → Int32) (v : Int32) : zI (hC (hp0 L xs) v) 82 0 0 = nI L := rfl
set_option maxRecDepth 100000 in
theorem bt_61 (L : Nat) (xs : Nat → Int32) (v : Int32) (j : Nat) : zI (hC (hp0 L xs) v) 61 0 j = 0 := rfl
theorem bt_in (L : Nat) (xs : Nat → Int32) (v : Int32) : qm_okH (hM0 (hC (hp0 L xs) v) v) ∧ (∀ j, j < L → zI (hM0 (hC (hp0 L xs) v) v) 80 0 j = xs j) ∧ zI (hM0 (hC (hp0 L xs) v) v) 82 0 0 = nI L :=
  ⟨bt_ok _ v rfl, fun j _ => by rw [zM_keep _ _ (by decide) (by decide)]; exact bt_80 L xs v j, by rw [zM_keep _ _ (by decide) (by decide)]; exact bt_82 L xs v⟩
theorem bt_inF (L : Nat) (xs : Nat → Int32) (v : Int32) : qm_okH (hpF L xs v) ∧ (∀ j, j < L → zI (hpF L xs v) 80 0 j = xs j) ∧ zI (hpF L xs v) 82 0 0 = nI L :=
  ⟨bt_okF L xs v, fun j hj => by rw [zF_keep L xs v (by decide)]; exact (bt_in L xs v).2.1 j hj, by rw [zF_keep L xs v (by decide)]; exact (bt_in L xs v).2.2⟩
/-- the reference's row -/
def g61 (j : Nat) : Int32 := if j = 17 then nI 2000 else if j = 15 then nI 2000 else if j = 13 then nI 2000 else if j = 11 then nI 2000 else if j = 7 then N1 else if j = 3 then N1 else 0
theorem zM61 (L : Nat) (xs : Nat → Int32) (v : Int32) (j : Nat) : zI (hM0 (hC (hp0 L xs) v) v) 61 0 j = g61 j := by
  have e := bt_61 L xs v j
  unfold hM0 g61
  simp only [zI_uI, true_and, show ¬ (61 = 9) by decide, false_and, if_false, e]
theorem zF61 (L : Nat) (xs : Nat → Int32) (v : Int32) {j : Nat} (hj : j < 420) : zI (hpF L xs v) 61 0 j = g61 j := by
  unfold hpF hM
  rw [zI_uC, if_neg (by omega)]
  exact zM61 L xs v j
theorem zF61k (L : Nat) (xs : Nat → Int32) (v : Int32) {j : Nat} (hj : j < 420) : zI (hpF L xs v) 61 0 (420 + j) = g61 j := by
  unfold hpF hM
  rw [zI_uC, if_pos ⟨rfl, rfl, by omega, by omega⟩, show 420 * 0 + (420 + j - 420 * 1) = j by omega]
  exact zM61 L xs v j
theorem g61_0 {j : Nat} (h : 18 ≤ j) : g61 j = nI 0 := by
  unfold g61
  rw [if_neg (by omega), if_neg (by omega), if_neg (by omega), if_neg (by omega), if_neg (by omega), if_neg (by omega)]
  rfl
def y0 : VW := fun a b => if a = 0 ∧ (b = 1 ∨ b = 7) then N1 else if a = 14 then nI 2000 else nI 0
theorem y0_0 {a b : Nat} (h0 : a ≠ 0) (h14 : a ≠ 14) : y0 a b = nI 0 := by
  unfold y0
  rw [if_neg (fun q => h0 q.1), if_neg h14]
theorem y0_cn (c : Nat) : cn y0 c = 0 := by
  unfold cn
  rw [y0_0 (by decide) (by decide)]
  exact nI_clamp (by decide)
theorem nt_y0 : nt y0 = 0 := nI_clamp (by decide)
theorem lt4 {P : Nat → Prop} (h0 : P 0) (h1 : P 1) (h2 : P 2) (h3 : P 3) : ∀ j, j < 4 → P j := by
  intro j hj
  rcases (by omega : j = 0 ∨ j = 1 ∨ j = 2 ∨ j = 3) with rfl | rfl | rfl | rfl
  · exact h0
  · exact h1
  · exact h2
  · exact h3
theorem PM_b (L : Nat) (xs : Nat → Int32) {n b : Nat} (hn : n ≤ 6) (hz : ∀ j, j < 420 → zI (hpF L xs (nI n)) 61 0 (b + j) = g61 j) : PM (hpF L xs (nI n)) b n y0 ∧ YM (hpF L xs (nI n)) b n y0 := by
  have h0 := hz 0 (by decide)
  rw [Nat.add_zero] at h0
  refine ⟨⟨rfl, ⟨h0, hz 7 (by decide), hz 4 (by decide), hz 5 (by decide), hz 6 (by decide)⟩, fun c hc => ?_, fun f c z hf hc hzz => by rw [y0_cn] at hzz; omega⟩, ⟨hz 1 (by decide), hz 2 (by decide), hz 3 (by decide), hz 8 (by decide)⟩, fun j hj i hi => ?_, fun j hj => ?_, ?_, fun c hc => ?_⟩
  · rw [y0_cn, Nat.add_assoc, hz _ (by omega), g61_0 (by omega)]
  · rw [Nat.add_assoc, Nat.add_assoc, hz _ (by omega), g61_0 (by omega), y0_0 (by omega) (by omega)]
  · rw [Nat.add_assoc, hz _ (by omega), g61_0 (by omega), y0_0 (by omega) (by omega)]
  · refine lt4 ⟨hz 10 (by decide), hz 11 (by decide)⟩ ⟨hz 12 (by decide), hz 13 (by decide)⟩ ⟨hz 14 (by decide), hz 15 (by decide)⟩ ⟨hz 16 (by decide), hz 17 (by decide)⟩
  · rw [Nat.add_assoc, hz _ (by omega), g61_0 (by omega), y0_0 (by omega) (by omega)]
theorem rg0 {x : Int32} {b : Nat} (h : x = nI 0) : rg x 0 b := ⟨0, Nat.le_refl _, Nat.zero_le _, h⟩
theorem ok_y0 {n : Nat} (h2 : 2 ≤ n) (h6 : n ≤ 6) : OKP n y0 ∧ OKY n y0 := by
  refine ⟨⟨⟨h2, h6⟩, ⟨rg0 rfl, Or.inl rfl, rg0 rfl, rg0 rfl, rg0 rfl⟩, fun c hc => ?_, fun c z hc hz => by rw [y0_cn] at hz; omega⟩, rg0 rfl, rg0 rfl, Or.inl rfl, rg0 rfl, fun j hj i hi => rg0 (y0_0 (by omega) (by omega)), fun j hj => rg0 (y0_0 (by decide) (by decide)), fun j hj => ⟨rg0 (y0_0 (by decide) (by decide)), ⟨2000, by decide, by decide, rfl⟩⟩, fun c hc => rg0 (y0_0 (by decide) (by decide))⟩
  rw [y0_cn]
  exact ⟨by decide, y0_0 (by decide) (by decide)⟩
set_option maxRecDepth 100000 in
theorem PC_b (L : Nat) (xs : Nat → Int32) (n : Nat) : PC (hpF L xs (nI n)) 0 n y0 ∧ YC (hpF L xs (nI n)) 0 n y0 :=
  ⟨⟨rfl, ⟨rfl, rfl, rfl, rfl, rfl⟩, fun c hc => by rw [y0_cn]; rfl, fun f c z hf hc hz => by rw [y0_cn] at hz; omega⟩, ⟨rfl, rfl, rfl, rfl⟩, fun j hj => ⟨rfl, rfl, rfl, rfl⟩, fun j hj => rfl, lt4 ⟨rfl, rfl⟩ ⟨rfl, rfl⟩ ⟨rfl, rfl⟩ ⟨rfl, rfl⟩, fun c hc => rfl⟩
set_option maxRecDepth 100000 in
theorem PC_k (L : Nat) (xs : Nat → Int32) (n : Nat) : PC (hpF L xs (nI n)) 1 n y0 ∧ YC (hpF L xs (nI n)) 1 n y0 :=
  ⟨⟨rfl, ⟨rfl, rfl, rfl, rfl, rfl⟩, fun c hc => by rw [y0_cn]; rfl, fun f c z hf hc hz => by rw [y0_cn] at hz; omega⟩, ⟨rfl, rfl, rfl, rfl⟩, fun j hj => ⟨rfl, rfl, rfl, rfl⟩, fun j hj => rfl, lt4 ⟨rfl, rfl⟩ ⟨rfl, rfl⟩ ⟨rfl, rfl⟩ ⟨rfl, rfl⟩, fun c hc => rfl⟩
set_option maxRecDepth 100000 in
theorem PC_w9 (L : Nat) (xs : Nat → Int32) (n p : Nat) (hp : p < 9) : zI (hpF L xs (nI n)) 3 p 0 = nI n := by
  rcases (by omega : p = 0 ∨ p = 1 ∨ p = 2 ∨ p = 3 ∨ p = 4 ∨ p = 5 ∨ p = 6 ∨ p = 7 ∨ p = 8) with rfl | rfl | rfl | rfl | rfl | rfl | rfl | rfl | rfl <;> rfl
set_option maxRecDepth 100000 in
theorem TC_b (L : Nat) (xs : Nat → Int32) (v : Int32) : TC (hpF L xs v) 4 τ0 := by
  refine ⟨rfl, fun k hk => absurd hk (Nat.not_lt_zero k), fun a ha => ?_⟩
  rw [if_neg (by show ¬ _ < 0; omega)]
  rcases (by omega : a = 0 ∨ a = 1 ∨ a = 2 ∨ a = 3 ∨ a = 4) with rfl | rfl | rfl | rfl | rfl <;> rfl
set_option maxRecDepth 100000 in
theorem bt_GG (L : Nat) (xs : Nat → Int32) {n : Nat} (h2 : 2 ≤ n) (h6 : n ≤ 6) : GG (hpF L xs (nI n)) n := by
  have m0 := PM_b L xs (b := 0) h6 (fun j hj => by rw [Nat.zero_add]; exact zF61 L xs _ hj)
  have m1 := PM_b L xs (b := 420) h6 (fun j hj => zF61k L xs _ hj)
  refine ⟨y0, y0, fun _ => 0, 0, N1, N1, fun _ => τ0, ⟨PC_b L xs n, PC_k L xs n, fun p hp => PC_w9 L xs n p hp, ⟨rfl, fun j hj => absurd hj (Nat.not_lt_zero j)⟩, Or.inl ⟨rfl, rfl, rfl⟩, ⟨fun t ht => by rw [nt_y0] at ht; omega, TC_b L xs _⟩, rfl⟩, ⟨⟨rfl, rfl⟩, m0, m1, ⟨rfl, fun j hj => absurd hj (Nat.not_lt_zero j)⟩, ⟨rfl, rfl⟩, fun t ht => by rw [nt_y0] at ht; omega⟩, ok_y0 h2 h6, ok_y0 h2 h6, Nat.le_refl _, fun t ht => by rw [nt_y0] at ht; omega, by decide, fun j hj => absurd hj (Nat.not_lt_zero j)⟩
