/-! bits (rows of the kit's texts to paste); calls: feed, missing -/
def bt (x : Int32) (i : Nat) : Bool := x.toBitVec.getLsbD i
theorem b_ext {x y : Int32} (h : ∀ i, i < 32 → bt x i = bt y i) : x = y := Int32.toBitVec_inj.mp (BitVec.eq_of_getLsbD_eq (fun i hi => h i hi))
theorem b_and (x y : Int32) (i : Nat) : bt (x &&& y) i = (bt x i && bt y i) := by unfold bt; rw [Int32.toBitVec_and, BitVec.getLsbD_and]
theorem b_big {x : Int32} {i : Nat} (h : 32 ≤ i) : bt x i = false := BitVec.getLsbD_of_ge _ _ h
theorem b_255 (i : Nat) : bt 255 i = decide (i < 8) := by
  rcases Nat.lt_or_ge i 32 with h | h
  · exact (by decide +kernel : ∀ i, i < 32 → bt 255 i = decide (i < 8)) i h
  · rw [b_big h, decide_eq_false (by omega)]
theorem s_l : ∀ n, n < 32 → ((nI n &&& 31).toBitVec.smod 32).toNat = n := by decide +kernel
theorem s_u : ∀ n, n < 32 → (((nI n).toUInt32 &&& Int32.toUInt32 31).toBitVec % 32).toNat = n := by decide +kernel
theorem b_ushr (n : Nat) (hn : n < 32) (x : Int32) (i : Nat) : bt ((x.toUInt32 >>> ((nI n).toUInt32 &&& Int32.toUInt32 31)).toInt32) i = bt x (n + i) := by
  show (x.toUInt32 >>> ((nI n).toUInt32 &&& Int32.toUInt32 31)).toBitVec.getLsbD i = x.toUInt32.toBitVec.getLsbD (n + i)
  rw [UInt32.toBitVec_shiftRight]
  show (x.toUInt32.toBitVec >>> (((nI n).toUInt32 &&& Int32.toUInt32 31).toBitVec % 32).toNat).getLsbD i = _
  rw [s_u n hn, BitVec.getLsbD_ushiftRight]
theorem b_sshr (n : Nat) (hn : n < 32) (x : Int32) {i : Nat} (hi : i < 32) : bt (x >>> (nI n &&& 31)) i = if n + i < 32 then bt x (n + i) else bt x 31 := by
  unfold bt
  rw [Int32.toBitVec_shiftRight]
  show (x.toBitVec.sshiftRight ((nI n &&& 31).toBitVec.smod 32).toNat).getLsbD i = _
  rw [s_l n hn, BitVec.getLsbD_sshiftRight, BitVec.msb_eq_getLsbD_last]
  simp [hi]
/-- a byte of a word -/
def by4 (x : Int32) (k : Nat) : Int32 := (x >>> (nI k &&& 31)) &&& nI 255
theorem by4_c (x : Int32) (k : Nat) (hk : k ≤ 24) : (x.toUInt32 >>> ((nI k).toUInt32 &&& Int32.toUInt32 31)).toInt32 &&& nI 255 = by4 x k := by
  unfold by4
  refine b_ext fun i hi => ?_
  rw [b_and, b_and, b_ushr k (by omega), b_sshr k (by omega) x hi, show nI 255 = 255 from rfl, b_255]
  by_cases h : i < 8
  · rw [if_pos (by omega)]
  · rw [decide_eq_false h, Bool.and_false, Bool.and_false]
theorem by4_m (x : Int32) (k : Nat) : (x >>> (nI k &&& 31)) &&& nI 255 = by4 x k := rfl
theorem and255 (x : Int32) : rg (x &&& nI 255) 0 255 := by
  have h : (x &&& nI 255).toBitVec.toNat ≤ 255 := by
    rw [Int32.toBitVec_and, BitVec.toNat_and]
    exact Nat.le_trans Nat.and_le_right (by decide)
  refine ⟨(x &&& nI 255).toBitVec.toNat, Nat.zero_le _, h, ?_⟩
  apply Int32.toBitVec_inj.mp
  show _ = BitVec.ofNat 32 _
  simp
theorem by4_r (x : Int32) (k : Nat) : rg (by4 x k) 0 255 := and255 _
theorem sh_24 : nI 24 + NM8 = nI 16 := by decide
theorem sh_16 : nI 16 + NM8 = nI 8 := by decide
theorem sh_8 : nI 8 + NM8 = nI 0 := by decide
theorem sh_0 : nI 0 + NM8 = NM8 := by decide
theorem sh_n : (NM8 < nI 0) = True := eq_true (by decide)
/-- four bytes written from n on -/
def hf4 (s : qm_Hp) (r k f n : Nat) (x : Int32) : qm_Hp :=
  uI (uI (uI (uI (uI (uI (uI (uI s r 0 n (by4 x 24)) k 0 f (nI (n + 1))) r 0 (n + 1) (by4 x 16)) k 0 f (nI (n + 1 + 1))) r 0 (n + 1 + 1) (by4 x 8)) k 0 f (nI (n + 1 + 1 + 1))) r 0 (n + 1 + 1 + 1) (by4 x 0)) k 0 f (nI (n + 1 + 1 + 1 + 1))
theorem c_four (d : Nat) (s : qm_Hp) (n : Nat) (x : Int32) (h : zI s 1 0 7 = nI n) (hn : n + 4 ≤ 300) : qm_evM d jC_feedFour [qP 1 0, qI x] s = some (none, hf4 s 52 1 7 n x) := by
  unfold hf4
  simp (config := {maxSteps := 1000000}) (disch := first | omega | assumption | (simp only [qm_wid_n, qm_wid_I, qm_wid_L, qm_wid_P] <;> omega)) only [e_C_feedFour, b_C_feedFour_0, b_C_feedFour_1, b_C_feedFour_2, qy0, qy1, qy2, qy3, qe, qcn, qin, ↓reduceIte, Nat.reduceEqDiff, Nat.reduceLeDiff, Bool.false_eq_true, Nat.reduceAdd, Nat.reduceSub, Nat.reduceMul, Nat.reduceLT, or_self, or_false, false_or, or_true, true_or, and_self, and_true, true_and, and_false, false_and, not_true_eq_false, not_false_eq_true, h, sh_24, sh_16, sh_8, sh_0, sh_n, zI_uI, by4_c]
theorem r_four (d : Nat) (s : qm_Hp) (n : Nat) (x : Int32) (h : zI s 9 0 5 = nI n) (hn : n + 4 ≤ 300) : qm_evM d jM_four [qP 9 0, qI x] s = some (none, hf4 s 63 9 5 n x) := by
  unfold hf4
  simp (config := {maxSteps := 1000000}) (disch := first | omega | assumption | (simp only [qm_wid_n, qm_wid_I, qm_wid_L, qm_wid_P] <;> omega)) only [e_M_four, b_M_four_0, b_M_four_1, b_M_four_2, qy0, qy1, qy2, qy3, qe, qcn, qin, ↓reduceIte, Nat.reduceEqDiff, Nat.reduceLeDiff, Bool.false_eq_true, Nat.reduceAdd, Nat.reduceSub, Nat.reduceMul, Nat.reduceLT, or_self, or_false, false_or, or_true, true_or, and_self, and_true, true_and, and_false, false_and, not_true_eq_false, not_false_eq_true, h, sh_24, sh_16, sh_8, sh_0, sh_n, zI_uI, by4_m]
theorem hf4_n (s : qm_Hp) (r k f n : Nat) (x : Int32) : zI (hf4 s r k f n x) k 0 f = nI (n + 4) := by
  unfold hf4
  rw [zI_uI, if_pos ⟨rfl, rfl, rfl⟩]
theorem hf4_t (s : qm_Hp) (r k f n : Nat) (x : Int32) (hrk : r ≠ k) (j : Nat) : zI (hf4 s r k f n x) r 0 j = if j = n then by4 x 24 else if j = n + 1 then by4 x 16 else if j = n + 2 then by4 x 8 else if j = n + 3 then by4 x 0 else zI s r 0 j := by
  unfold hf4
  simp only [zI_uI, hrk, false_and, true_and, ↓reduceIte]
  by_cases h0 : j = n
  · subst h0
    simp only [n_eqF (show j ≠ j + 1 + 1 + 1 by omega), n_eqF (show j ≠ j + 1 + 1 by omega), n_eqF (show j ≠ j + 1 by omega), ↓reduceIte]
  · by_cases h1 : j = n + 1
    · subst h1
      simp only [n_eqF (show n + 1 ≠ n + 1 + 1 + 1 by omega), n_eqF (show n + 1 ≠ n + 1 + 1 by omega), n_eqF (show n + 1 ≠ n by omega), ↓reduceIte]
    · by_cases h2 : j = n + 2
      · subst h2
        simp only [n_eqF (show n + 2 ≠ n + 1 + 1 + 1 by omega), n_eqT (show n + 2 = n + 1 + 1 by omega), n_eqF h0, n_eqF h1, ↓reduceIte]
      · by_cases h3 : j = n + 3
        · subst h3
          simp only [n_eqT (show n + 3 = n + 1 + 1 + 1 by omega), n_eqF h0, n_eqF h1, n_eqF h2, ↓reduceIte]
        · simp only [n_eqF (show j ≠ n + 1 + 1 + 1 by omega), n_eqF (show j ≠ n + 1 + 1 by omega), n_eqF h0, n_eqF h1, n_eqF h2, n_eqF h3, ↓reduceIte]
theorem hf4_fp {P : Nat → Nat → Prop} {s s' : qm_Hp} {r k : Nat} (h1 : P r 0) (h2 : P k 0) (f n : Nat) (x : Int32) (h : fp P s s') : fp P s (hf4 s' r k f n x) := by
  unfold hf4
  repeat' (first | exact h | refine fp_uI h1 ?_ _ _ | refine fp_uI h2 ?_ _ _)
theorem hf4_o (s : qm_Hp) (r k f n : Nat) (x : Int32) (hrk : r ≠ k) (j : Nat) (hj : j ≠ f) : zI (hf4 s r k f n x) k 0 j = zI s k 0 j := by
  unfold hf4
  have hkr : k ≠ r := fun e => hrk e.symm
  simp only [zI_uI, hkr, hj, and_false, false_and, ↓reduceIte]
/-- the tape behind twenty bytes more -/
def tp4 (t : Nat → Int32) (n : Nat) (x : Int32) : Nat → Int32 := fun j => if j = n then by4 x 24 else if j = n + 1 then by4 x 16 else if j = n + 2 then by4 x 8 else if j = n + 3 then by4 x 0 else t j
theorem tp4_r {t : Nat → Int32} {n : Nat} (x : Int32) (h : ∀ j, j < n → rg (t j) 0 255) : ∀ j, j < n + 4 → rg (tp4 t n x j) 0 255 := fun j hj => by
  unfold tp4
  by_cases h0 : j = n
  · rw [if_pos h0]; exact by4_r _ _
  · rw [if_neg h0]
    by_cases h1 : j = n + 1
    · rw [if_pos h1]; exact by4_r _ _
    · rw [if_neg h1]
      by_cases h2 : j = n + 2
      · rw [if_pos h2]; exact by4_r _ _
      · rw [if_neg h2]
        by_cases h3 : j = n + 3
        · rw [if_pos h3]; exact by4_r _ _
        · rw [if_neg h3]; exact h j (by omega)
theorem hf4_tp {s : qm_Hp} {r k : Nat} {t : Nat → Int32} {n : Nat} (f : Nat) (x : Int32) (hrk : r ≠ k) (h : ∀ j, j < n → zI s r 0 j = t j) : ∀ j, j < n + 4 → zI (hf4 s r k f n x) r 0 j = tp4 t n x j := fun j hj => by
  rw [hf4_t s r k f n x hrk j]
  unfold tp4
  by_cases h0 : j = n
  · rw [if_pos h0, if_pos h0]
  · rw [if_neg h0, if_neg h0]
    by_cases h1 : j = n + 1
    · rw [if_pos h1, if_pos h1]
    · rw [if_neg h1, if_neg h1]
      by_cases h2 : j = n + 2
      · rw [if_pos h2, if_pos h2]
      · rw [if_neg h2, if_neg h2]
        by_cases h3 : j = n + 3
        · rw [if_pos h3, if_pos h3]
        · rw [if_neg h3, if_neg h3]; exact h j (by omega)
theorem st_feed (d : Nat) (a b c e f : Int32) : STP (d + 40) jC_feed jM_feed [qI a, qI b, qI c, qI e, qI f] := by
  refine stp_rw fun s w y k tp fd fa pl T hC hM ok => ?_
  have hw := ok.1.1.1
  have h3 := ok.2.2.2.2.1
  have hfd := hC.2.2.2.1.1
  by_cases h1 : fd ≤ 280
  · have q1 := c_four (d + 39) s fd a hfd (by omega)
    have n1 := hf4_n s 52 1 7 fd a
    have q2 := c_four (d + 39) _ (fd + 4) b n1 (by omega)
    have n2 := hf4_n (hf4 s 52 1 7 fd a) 52 1 7 (fd + 4) b
    have q3 := c_four (d + 39) _ (fd + 4 + 4) c n2 (by omega)
    have n3 := hf4_n (hf4 (hf4 s 52 1 7 fd a) 52 1 7 (fd + 4) b) 52 1 7 (fd + 4 + 4) c
    have q4 := c_four (d + 39) _ (fd + 4 + 4 + 4) e n3 (by omega)
    have n4 := hf4_n (hf4 (hf4 (hf4 s 52 1 7 fd a) 52 1 7 (fd + 4) b) 52 1 7 (fd + 4 + 4) c) 52 1 7 (fd + 4 + 4 + 4) e
    have q5 := c_four (d + 39) _ (fd + 4 + 4 + 4 + 4) f n4 (by omega)
    have n5 := hf4_n (hf4 (hf4 (hf4 (hf4 s 52 1 7 fd a) 52 1 7 (fd + 4) b) 52 1 7 (fd + 4 + 4) c) 52 1 7 (fd + 4 + 4 + 4) e) 52 1 7 (fd + 4 + 4 + 4 + 4) f
    refine ⟨nI (fd + 4 + 4 + 4 + 4 + 4), y, k, tp4 (tp4 (tp4 (tp4 (tp4 tp fd a) (fd + 4) b) (fd + 4 + 4) c) (fd + 4 + 4 + 4) e) (fd + 4 + 4 + 4 + 4) f, fd + 4 + 4 + 4 + 4 + 4, fa, pl, T, ⟨ok.1, ok.2.1, ok.2.2.1, ok.2.2.2.1, by omega, tp4_r _ (tp4_r _ (tp4_r _ (tp4_r _ (tp4_r _ ok.2.2.2.2.2))))⟩, ⟨hf4 (hf4 (hf4 (hf4 (hf4 s 52 1 7 fd a) 52 1 7 (fd + 4) b) 52 1 7 (fd + 4 + 4) c) 52 1 7 (fd + 4 + 4 + 4) e) 52 1 7 (fd + 4 + 4 + 4 + 4) f, ?_, ?_, RC_c1 ?_ n5 ?_ ?_ hC⟩, fun s1 g1 => ?_⟩
    · simp (config := {maxSteps := 1000000}) (disch := first | omega | assumption | (simp only [qm_wid_n, qm_wid_I, qm_wid_L, qm_wid_P] <;> omega)) only [e_C_feed, b_C_feed_0, b_C_feed_1, qy0, qy1, qy2, qy3, qe, qcn, qin, ↓reduceIte, Nat.reduceEqDiff, Nat.reduceLeDiff, Bool.false_eq_true, Nat.reduceAdd, Nat.reduceSub, Nat.reduceMul, Nat.reduceLT, or_self, or_false, false_or, or_true, true_or, and_self, and_true, true_and, and_false, false_and, not_true_eq_false, not_false_eq_true, hfd, q1, q2, q3, q4, q5, n5]
    · exact hf4_fp (by unfold CP; omega) (by unfold CP; omega) _ _ _ (hf4_fp (by unfold CP; omega) (by unfold CP; omega) _ _ _ (hf4_fp (by unfold CP; omega) (by unfold CP; omega) _ _ _ (hf4_fp (by unfold CP; omega) (by unfold CP; omega) _ _ _ (hf4_fp (by unfold CP; omega) (by unfold CP; omega) _ _ _ (fp_refl _ _)))))
    · exact hf4_fp (Or.inr rfl) (Or.inl rfl) _ _ _ (hf4_fp (Or.inr rfl) (Or.inl rfl) _ _ _ (hf4_fp (Or.inr rfl) (Or.inl rfl) _ _ _ (hf4_fp (Or.inr rfl) (Or.inl rfl) _ _ _ (hf4_fp (Or.inr rfl) (Or.inl rfl) _ _ _ (fp_refl _ _)))))
    · rw [hf4_o _ _ _ _ _ _ (by decide) _ (by decide), hf4_o _ _ _ _ _ _ (by decide) _ (by decide), hf4_o _ _ _ _ _ _ (by decide) _ (by decide), hf4_o _ _ _ _ _ _ (by decide) _ (by decide), hf4_o _ _ _ _ _ _ (by decide) _ (by decide)]
    · exact hf4_tp _ _ (by decide) (hf4_tp _ _ (by decide) (hf4_tp _ _ (by decide) (hf4_tp _ _ (by decide) (hf4_tp _ _ (by decide) hC.2.2.2.1.2))))
    · have hm := g1.2.2.2.1.1
      have p1 := r_four (d + 39) s1 fd a hm (by omega)
      have m1 := hf4_n s1 63 9 5 fd a
      have p2 := r_four (d + 39) _ (fd + 4) b m1 (by omega)
      have m2 := hf4_n (hf4 s1 63 9 5 fd a) 63 9 5 (fd + 4) b
      have p3 := r_four (d + 39) _ (fd + 4 + 4) c m2 (by omega)
      have m3 := hf4_n (hf4 (hf4 s1 63 9 5 fd a) 63 9 5 (fd + 4) b) 63 9 5 (fd + 4 + 4) c
      have p4 := r_four (d + 39) _ (fd + 4 + 4 + 4) e m3 (by omega)
      have m4 := hf4_n (hf4 (hf4 (hf4 s1 63 9 5 fd a) 63 9 5 (fd + 4) b) 63 9 5 (fd + 4 + 4) c) 63 9 5 (fd + 4 + 4 + 4) e
      have p5 := r_four (d + 39) _ (fd + 4 + 4 + 4 + 4) f m4 (by omega)
      have m5 := hf4_n (hf4 (hf4 (hf4 (hf4 s1 63 9 5 fd a) 63 9 5 (fd + 4) b) 63 9 5 (fd + 4 + 4) c) 63 9 5 (fd + 4 + 4 + 4) e) 63 9 5 (fd + 4 + 4 + 4 + 4) f
      have hfp : fp (fun k i => k = 63 ∨ k = 9) s1 (hf4 (hf4 (hf4 (hf4 (hf4 s1 63 9 5 fd a) 63 9 5 (fd + 4) b) 63 9 5 (fd + 4 + 4) c) 63 9 5 (fd + 4 + 4 + 4) e) 63 9 5 (fd + 4 + 4 + 4 + 4) f) := hf4_fp (Or.inl rfl) (Or.inr rfl) _ _ _ (hf4_fp (Or.inl rfl) (Or.inr rfl) _ _ _ (hf4_fp (Or.inl rfl) (Or.inr rfl) _ _ _ (hf4_fp (Or.inl rfl) (Or.inr rfl) _ _ _ (hf4_fp (Or.inl rfl) (Or.inr rfl) _ _ _ (fp_refl _ _)))))
      refine ⟨_, ?_, fp_mono (fun k i hk => by unfold MP; omega) hfp, RM_t hw.2 (fun j hj => ?_) m5 ?_ (fun j => hfp.1 61 0 j (by first | omega | (dsimp only; omega))) (fun j => hfp.1 62 0 j (by first | omega | (dsimp only; omega))) g1⟩
      · simp (config := {maxSteps := 1000000}) (disch := first | omega | assumption | (simp only [qm_wid_n, qm_wid_I, qm_wid_L, qm_wid_P] <;> omega)) only [e_M_feed, b_M_feed_0, b_M_feed_1, qy0, qy1, qy2, qy3, qe, qcn, qin, ↓reduceIte, Nat.reduceEqDiff, Nat.reduceLeDiff, Bool.false_eq_true, Nat.reduceAdd, Nat.reduceSub, Nat.reduceMul, Nat.reduceLT, or_self, or_false, false_or, or_true, true_or, and_self, and_true, true_and, and_false, false_and, not_true_eq_false, not_false_eq_true, hm, p1, p2, p3, p4, p5, m5]
      · rw [hf4_o _ _ _ _ _ _ (by decide) _ (by omega), hf4_o _ _ _ _ _ _ (by decide) _ (by omega), hf4_o _ _ _ _ _ _ (by decide) _ (by omega), hf4_o _ _ _ _ _ _ (by decide) _ (by omega), hf4_o _ _ _ _ _ _ (by decide) _ (by omega)]
      · exact hf4_tp _ _ (by decide) (hf4_tp _ _ (by decide) (hf4_tp _ _ (by decide) (hf4_tp _ _ (by decide) (hf4_tp _ _ (by decide) g1.2.2.2.1.2))))
  · refine nochg ok hC N1 ?_ (fun s1 g1 => ?_)
    · simp (config := {maxSteps := 1000000}) (disch := first | omega | assumption | (simp only [qm_wid_n, qm_wid_I, qm_wid_L, qm_wid_P] <;> omega)) only [e_C_feed, b_C_feed_0, qy0, qy1, qy2, qy3, qe, qcn, qin, ↓reduceIte, Nat.reduceEqDiff, Nat.reduceLeDiff, Bool.false_eq_true, Nat.reduceAdd, Nat.reduceSub, Nat.reduceMul, Nat.reduceLT, or_self, or_false, false_or, or_true, true_or, and_self, and_true, true_and, and_false, false_and, not_true_eq_false, not_false_eq_true, hfd]
    · have hm := g1.2.2.2.1.1
      simp (config := {maxSteps := 1000000}) (disch := first | omega | assumption | (simp only [qm_wid_n, qm_wid_I, qm_wid_L, qm_wid_P] <;> omega)) only [e_M_feed, b_M_feed_0, qy0, qy1, qy2, qy3, qe, qcn, qin, ↓reduceIte, Nat.reduceEqDiff, Nat.reduceLeDiff, Bool.false_eq_true, Nat.reduceAdd, Nat.reduceSub, Nat.reduceMul, Nat.reduceLT, or_self, or_false, false_or, or_true, true_or, and_self, and_true, true_and, and_false, false_and, not_true_eq_false, not_false_eq_true, hm]
/-- what is missing of a column -/
def msn (y : VW) (c : Nat) : Nat := (y 15 c).toNatClampNeg - cn y c
def msa (y : VW) : Nat → Nat
  | 0 => 0
  | c + 1 => msa y c + msn y c
theorem msn_le {w : Nat} {y : VW} (ok : OKY w y) {c : Nat} (hc : c < w) : msn y c ≤ 8 := by
  obtain ⟨j, _, h2, e⟩ := ok.2.2.2.2.2.2.2 c hc
  unfold msn
  rw [e, nI_clamp (by omega)]
  omega
theorem msa_le {w : Nat} {y : VW} (ok : OKY w y) : ∀ n, n ≤ w → msa y n ≤ 8 * n
  | 0, _ => Nat.le_refl _
  | n + 1, h => by
    have h1 := msa_le ok n (by omega)
    have h2 := msn_le ok (c := n) (by omega)
    show msa y n + msn y n ≤ _
    omega
theorem c_mso (d : Nat) {s : qm_Hp} {w c : Nat} {y : VW} (hP : PC s 0 w y) (hY : YC s 0 w y) (ok : OKP w y) (oky : OKY w y) (hc : c < w) : qm_evM d jC_missingOf [qP 1 0, qI (nI c)] s = some (some (qI (nI (msn y c))), s) := by
  have h6 := ok.1.2
  have h8 := OK_n ok hc
  obtain ⟨j, _, h2, e⟩ := oky.2.2.2.2.2.2.2 c hc
  have h28 : zI s 28 0 c = nI j := (hY.2.2.2.2 c hc).trans e
  have h17 := PC_c hP hc
  have em : msn y c = j - cn y c := by unfold msn; rw [e, nI_clamp (by omega)]
  rw [em]
  by_cases q : cn y c ≤ j
  · simp (config := {maxSteps := 1000000}) (disch := first | omega | assumption | (simp only [qm_wid_n, qm_wid_I, qm_wid_L, qm_wid_P] <;> omega)) only [e_C_missingOf, b_C_missingOf_0, qy0, qy1, qy2, qy3, qe, qcn, qin, ↓reduceIte, Nat.reduceEqDiff, Nat.reduceLeDiff, Bool.false_eq_true, Nat.reduceAdd, Nat.reduceSub, Nat.reduceMul, Nat.reduceLT, or_self, or_false, false_or, or_true, true_or, and_self, and_true, true_and, and_false, false_and, not_true_eq_false, not_false_eq_true, h28, h17]
    by_cases q0 : j - cn y c = 0
    · rw [q0]; rfl
    · rw [if_pos (nI_lt (by omega) (by omega))]
  · have q3 : ¬ (nI 0 < nI j - nI (cn y c)) := by
      rw [fa_lt, pk_sub_toInt (by omega) (by omega), nI_toInt (by decide)]
      omega
    simp (config := {maxSteps := 1000000}) (disch := first | omega | assumption | (simp only [qm_wid_n, qm_wid_I, qm_wid_L, qm_wid_P] <;> omega)) only [e_C_missingOf, b_C_missingOf_0, qy0, qy1, qy2, qy3, qe, qcn, qin, ↓reduceIte, Nat.reduceEqDiff, Nat.reduceLeDiff, Bool.false_eq_true, Nat.reduceAdd, Nat.reduceSub, Nat.reduceMul, Nat.reduceLT, or_self, or_false, false_or, or_true, true_or, and_self, and_true, true_and, and_false, false_and, not_true_eq_false, not_false_eq_true, h28, h17, q3]
    rw [show j - cn y c = 0 by omega]
theorem r_mso (d : Nat) {s : qm_Hp} {w c : Nat} {y : VW} (hP : PM s 0 w y) (hY : YM s 0 w y) (ok : OKP w y) (oky : OKY w y) (hb : zI s 9 0 2 = nI 0) (hc : c < w) : qm_evM (d + 1) jM_missingOf [qP 9 0, qI (nI c)] s = some (some (qI (nI (msn y c))), s) := by
  have h6 := ok.1.2
  have h8 := OK_n ok hc
  obtain ⟨j, _, h2, e⟩ := oky.2.2.2.2.2.2.2 c hc
  have h112 : zI s 61 0 (112 + c) = nI j := by
    have := hY.2.2.2.2 c hc
    rw [Nat.zero_add] at this
    exact this.trans e
  have hct := r_count d hP ok hb (by decide) hc
  have em : msn y c = j - cn y c := by unfold msn; rw [e, nI_clamp (by omega)]
  rw [em]
  by_cases q : cn y c < j
  · simp (config := {maxSteps := 1000000}) (disch := first | omega | assumption | (simp only [qm_wid_n, qm_wid_I, qm_wid_L, qm_wid_P] <;> omega)) only [e_M_missingOf, b_M_missingOf_0, b_M_missingOf_1, b_M_missingOf_2, qy0, qy1, qy2, qy3, qe, qcn, qin, ↓reduceIte, Nat.reduceEqDiff, Nat.reduceLeDiff, Bool.false_eq_true, Nat.reduceAdd, Nat.reduceSub, Nat.reduceMul, Nat.reduceLT, or_self, or_false, false_or, or_true, true_or, and_self, and_true, true_and, and_false, false_and, not_true_eq_false, not_false_eq_true, h112, hct]
  · simp (config := {maxSteps := 1000000}) (disch := first | omega | assumption | (simp only [qm_wid_n, qm_wid_I, qm_wid_L, qm_wid_P] <;> omega)) only [e_M_missingOf, b_M_missingOf_0, b_M_missingOf_1, b_M_missingOf_2, qy0, qy1, qy2, qy3, qe, qcn, qin, ↓reduceIte, Nat.reduceEqDiff, Nat.reduceLeDiff, Bool.false_eq_true, Nat.reduceAdd, Nat.reduceSub, Nat.reduceMul, Nat.reduceLT, or_self, or_false, false_or, or_true, true_or, and_self, and_true, true_and, and_false, false_and, not_true_eq_false, not_false_eq_true, h112, hct]
    rw [show j - cn y c = 0 by omega]
theorem st_missing (d : Nat) (a m : Int32) : STP (d + 40) jC_missing jM_missing [qI a, qI m] := by
  refine stp_rw fun s w y k tp fd fa pl T hC hM ok => ?_
  have okp := ok.1.1
  have oky := ok.1.2
  have hw := okp.1
  have hPC := hC.1.1
  have hww := hPC.1
  obtain ⟨f8, _, hf8, e8⟩ := oky.2.2.2.1
  have h10 : zI s 2 0 10 = nI f8 := hC.1.2.1.2.2.2.trans e8
  have m10 : ∀ s1, RM s1 w y k tp fd fa pl T → zI s1 61 0 8 = nI f8 := fun s1 g1 => g1.2.1.2.1.2.2.2.trans e8
  by_cases hf : f8 = 0
  · refine nochg ok hC N1 ?_ (fun s1 g1 => ?_)
    · simp (config := {maxSteps := 1000000}) (disch := first | omega | assumption | (simp only [qm_wid_n, qm_wid_I, qm_wid_L, qm_wid_P] <;> omega)) only [e_C_missing, b_C_missing_0, qy0, qy1, qy2, qy3, qe, qcn, qin, ↓reduceIte, Nat.reduceEqDiff, Nat.reduceLeDiff, Bool.false_eq_true, Nat.reduceAdd, Nat.reduceSub, Nat.reduceMul, Nat.reduceLT, or_self, or_false, false_or, or_true, true_or, and_self, and_true, true_and, and_false, false_and, not_true_eq_false, not_false_eq_true, h10]
    · have h := m10 s1 g1
      simp (config := {maxSteps := 1000000}) (disch := first | omega | assumption | (simp only [qm_wid_n, qm_wid_I, qm_wid_L, qm_wid_P] <;> omega)) only [e_M_missing, b_M_missing_0, b_M_missing_2, qy0, qy1, qy2, qy3, qe, qcn, qin, ↓reduceIte, Nat.reduceEqDiff, Nat.reduceLeDiff, Bool.false_eq_true, Nat.reduceAdd, Nat.reduceSub, Nat.reduceMul, Nat.reduceLT, or_self, or_false, false_or, or_true, true_or, and_self, and_true, true_and, and_false, false_and, not_true_eq_false, not_false_eq_true, h]
  · have hf1 : f8 = 1 := by omega
    subst hf1
    by_cases hN : a = N1
    · subst hN
      have hnc : ¬ (nI 0 ≤ N1 ∧ N1 ≤ nI (w - 1)) := fun g => absurd g.1 (by decide)
      by_cases hm : nI 1 ≤ m ∧ m ≤ nI 48
      · obtain ⟨j, hj1, hj2, rfl⟩ := inr_rg (by decide) hm.1 hm.2 (by decide)
        have hle := msa_le oky w (Nat.le_refl _)
        refine nochg ok hC (nI ((msa y w + j - 1) / j)) ?_ (fun s1 g1 => ?_)
        · have hl := q_up (w := w) (fun c => qm_evB (d + 40) jC_missing 5 [qP 1 0, qI N1, qI (nI j), qI (nI (msa y c)), qI (nI c)] [] s) rfl (fun c hc => by
            have q := c_mso (d + 39) hPC hC.1.2 okp oky hc
            refine (b_C_missing_5 ..).trans ?_
            simp (config := {maxSteps := 1000000}) (disch := first | omega | assumption | (simp only [qm_wid_n, qm_wid_I, qm_wid_L, qm_wid_P] <;> omega)) only [qy0, qy1, qy2, qy3, qe, qcn, qin, ↓reduceIte, Nat.reduceEqDiff, Nat.reduceLeDiff, Bool.false_eq_true, Nat.reduceAdd, Nat.reduceSub, Nat.reduceMul, Nat.reduceLT, or_self, or_false, false_or, or_true, true_or, and_self, and_true, true_and, and_false, false_and, not_true_eq_false, not_false_eq_true, hww, q, msa]) 0 (Nat.zero_le _)
          simp (config := {maxSteps := 1000000}) (disch := first | omega | assumption | (simp only [qm_wid_n, qm_wid_I, qm_wid_L, qm_wid_P] <;> omega)) only [e_C_missing, b_C_missing_0, b_C_missing_1, b_C_missing_2, b_C_missing_4, qy0, qy1, qy2, qy3, qe, qcn, qin, ↓reduceIte, Nat.reduceEqDiff, Nat.reduceLeDiff, Bool.false_eq_true, Nat.reduceAdd, Nat.reduceSub, Nat.reduceMul, Nat.reduceLT, or_self, or_false, false_or, or_true, true_or, and_self, and_true, true_and, and_false, false_and, not_true_eq_false, not_false_eq_true, h10, t_within]
          refine hl.trans ?_
          simp (config := {maxSteps := 1000000}) (disch := first | omega | assumption | (simp only [qm_wid_n, qm_wid_I, qm_wid_L, qm_wid_P] <;> omega)) only [b_C_missing_5, b_C_missing_6, qy0, qy1, qy2, qy3, qe, qcn, qin, ↓reduceIte, Nat.reduceEqDiff, Nat.reduceLeDiff, Bool.false_eq_true, Nat.reduceAdd, Nat.reduceSub, Nat.reduceMul, Nat.reduceLT, or_self, or_false, false_or, or_true, true_or, and_self, and_true, true_and, and_false, false_and, not_true_eq_false, not_false_eq_true, hww]
        · have hl := q_up (w := w) (fun c => qm_evB (d + 40) jM_missing 5 [qP 9 0, qI N1, qI (nI j), qI (nI (msa y c)), qI (nI c)] [] s1) rfl (fun c hc => by
            have q := r_mso (d + 38) g1.2.1.1 g1.2.1.2 okp oky g1.1.1 hc
            have hw9 := g1.2.1.1.1
            refine (b_M_missing_5 ..).trans ?_
            simp (config := {maxSteps := 1000000}) (disch := first | omega | assumption | (simp only [qm_wid_n, qm_wid_I, qm_wid_L, qm_wid_P] <;> omega)) only [qy0, qy1, qy2, qy3, qe, qcn, qin, ↓reduceIte, Nat.reduceEqDiff, Nat.reduceLeDiff, Bool.false_eq_true, Nat.reduceAdd, Nat.reduceSub, Nat.reduceMul, Nat.reduceLT, or_self, or_false, false_or, or_true, true_or, and_self, and_true, true_and, and_false, false_and, not_true_eq_false, not_false_eq_true, hw9, q, msa]) 0 (Nat.zero_le _)
          have h := m10 s1 g1
          have hw9 := g1.2.1.1.1
          have hn0 : (N1 < nI 0) = True := eq_true (by decide)
          simp (config := {maxSteps := 1000000}) (disch := first | omega | assumption | (simp only [qm_wid_n, qm_wid_I, qm_wid_L, qm_wid_P] <;> omega)) only [e_M_missing, b_M_missing_0, b_M_missing_1, b_M_missing_3, b_M_missing_4, qy0, qy1, qy2, qy3, qe, qcn, qin, ↓reduceIte, Nat.reduceEqDiff, Nat.reduceLeDiff, Bool.false_eq_true, Nat.reduceAdd, Nat.reduceSub, Nat.reduceMul, Nat.reduceLT, or_self, or_false, false_or, or_true, true_or, and_self, and_true, true_and, and_false, false_and, not_true_eq_false, not_false_eq_true, h, t_isIn, hn0]
          refine hl.trans ?_
          simp (config := {maxSteps := 1000000}) (disch := first | omega | assumption | (simp only [qm_wid_n, qm_wid_I, qm_wid_L, qm_wid_P] <;> omega)) only [b_M_missing_5, b_M_missing_6, qy0, qy1, qy2, qy3, qe, qcn, qin, ↓reduceIte, Nat.reduceEqDiff, Nat.reduceLeDiff, Bool.false_eq_true, Nat.reduceAdd, Nat.reduceSub, Nat.reduceMul, Nat.reduceLT, or_self, or_false, false_or, or_true, true_or, and_self, and_true, true_and, and_false, false_and, not_true_eq_false, not_false_eq_true, hw9]
      · refine nochg ok hC N1 ?_ (fun s1 g1 => ?_)
        · by_cases hm0 : m = nI 0
          · subst hm0
            simp (config := {maxSteps := 1000000}) (disch := first | omega | assumption | (simp only [qm_wid_n, qm_wid_I, qm_wid_L, qm_wid_P] <;> omega)) only [e_C_missing, b_C_missing_0, b_C_missing_1, b_C_missing_2, b_C_missing_3, qy0, qy1, qy2, qy3, qe, qcn, qin, ↓reduceIte, Nat.reduceEqDiff, Nat.reduceLeDiff, Bool.false_eq_true, Nat.reduceAdd, Nat.reduceSub, Nat.reduceMul, Nat.reduceLT, or_self, or_false, false_or, or_true, true_or, and_self, and_true, true_and, and_false, false_and, not_true_eq_false, not_false_eq_true, h10, t_within, hww, hnc]
          · simp (config := {maxSteps := 1000000}) (disch := first | omega | assumption | (simp only [qm_wid_n, qm_wid_I, qm_wid_L, qm_wid_P] <;> omega)) only [e_C_missing, b_C_missing_0, b_C_missing_1, b_C_missing_2, b_C_missing_3, qy0, qy1, qy2, qy3, qe, qcn, qin, ↓reduceIte, Nat.reduceEqDiff, Nat.reduceLeDiff, Bool.false_eq_true, Nat.reduceAdd, Nat.reduceSub, Nat.reduceMul, Nat.reduceLT, or_self, or_false, false_or, or_true, true_or, and_self, and_true, true_and, and_false, false_and, not_true_eq_false, not_false_eq_true, h10, t_within, hm, hm0]
        · have h := m10 s1 g1
          simp (config := {maxSteps := 1000000}) (disch := first | omega | assumption | (simp only [qm_wid_n, qm_wid_I, qm_wid_L, qm_wid_P] <;> omega)) only [e_M_missing, b_M_missing_0, b_M_missing_1, b_M_missing_2, qy0, qy1, qy2, qy3, qe, qcn, qin, ↓reduceIte, Nat.reduceEqDiff, Nat.reduceLeDiff, Bool.false_eq_true, Nat.reduceAdd, Nat.reduceSub, Nat.reduceMul, Nat.reduceLT, or_self, or_false, false_or, or_true, true_or, and_self, and_true, true_and, and_false, false_and, not_true_eq_false, not_false_eq_true, h, t_isIn, hm]
    · by_cases hm0 : m = nI 0
      · subst hm0
        rcases col_or a w (by omega) with ⟨c, hc, rfl⟩ | hnc
        · refine nochg ok hC (nI (msn y c)) ?_ (fun s1 g1 => ?_)
          · have q := c_mso (d + 39) hPC hC.1.2 okp oky hc
            simp (config := {maxSteps := 1000000}) (disch := first | omega | assumption | (simp only [qm_wid_n, qm_wid_I, qm_wid_L, qm_wid_P] <;> omega)) only [e_C_missing, b_C_missing_0, b_C_missing_1, qy0, qy1, qy2, qy3, qe, qcn, qin, ↓reduceIte, Nat.reduceEqDiff, Nat.reduceLeDiff, Bool.false_eq_true, Nat.reduceAdd, Nat.reduceSub, Nat.reduceMul, Nat.reduceLT, or_self, or_false, false_or, or_true, true_or, and_self, and_true, true_and, and_false, false_and, not_true_eq_false, not_false_eq_true, h10, t_within, hww, q]
          · have h := m10 s1 g1
            have q := r_mso (d + 38) g1.2.1.1 g1.2.1.2 okp oky g1.1.1 hc
            have q2 := r_isCol (d + 38) g1.2.1.1.1 (by omega) (nI c)
            rw [if_pos ⟨nI_le (Nat.zero_le _) (by omega), nI_le (by omega) (by omega)⟩] at q2
            simp (config := {maxSteps := 1000000}) (disch := first | omega | assumption | (simp only [qm_wid_n, qm_wid_I, qm_wid_L, qm_wid_P] <;> omega)) only [e_M_missing, b_M_missing_0, b_M_missing_1, b_M_missing_3, qy0, qy1, qy2, qy3, qe, qcn, qin, ↓reduceIte, Nat.reduceEqDiff, Nat.reduceLeDiff, Bool.false_eq_true, Nat.reduceAdd, Nat.reduceSub, Nat.reduceMul, Nat.reduceLT, or_self, or_false, false_or, or_true, true_or, and_self, and_true, true_and, and_false, false_and, not_true_eq_false, not_false_eq_true, h, q, q2]
        · refine nochg ok hC N1 ?_ (fun s1 g1 => ?_)
          · simp (config := {maxSteps := 1000000}) (disch := first | omega | assumption | (simp only [qm_wid_n, qm_wid_I, qm_wid_L, qm_wid_P] <;> omega)) only [e_C_missing, b_C_missing_0, b_C_missing_1, b_C_missing_2, b_C_missing_3, qy0, qy1, qy2, qy3, qe, qcn, qin, ↓reduceIte, Nat.reduceEqDiff, Nat.reduceLeDiff, Bool.false_eq_true, Nat.reduceAdd, Nat.reduceSub, Nat.reduceMul, Nat.reduceLT, or_self, or_false, false_or, or_true, true_or, and_self, and_true, true_and, and_false, false_and, not_true_eq_false, not_false_eq_true, h10, t_within, hww, hnc, hN]
          · have h := m10 s1 g1
            have q2 := r_isCol (d + 38) g1.2.1.1.1 (by omega) a
            rw [if_neg hnc] at q2
            simp (config := {maxSteps := 1000000}) (disch := first | omega | assumption | (simp only [qm_wid_n, qm_wid_I, qm_wid_L, qm_wid_P] <;> omega)) only [e_M_missing, b_M_missing_0, b_M_missing_2, qy0, qy1, qy2, qy3, qe, qcn, qin, ↓reduceIte, Nat.reduceEqDiff, Nat.reduceLeDiff, Bool.false_eq_true, Nat.reduceAdd, Nat.reduceSub, Nat.reduceMul, Nat.reduceLT, or_self, or_false, false_or, or_true, true_or, and_self, and_true, true_and, and_false, false_and, not_true_eq_false, not_false_eq_true, h, q2, hN]
      · refine nochg ok hC N1 ?_ (fun s1 g1 => ?_)
        · simp (config := {maxSteps := 1000000}) (disch := first | omega | assumption | (simp only [qm_wid_n, qm_wid_I, qm_wid_L, qm_wid_P] <;> omega)) only [e_C_missing, b_C_missing_0, b_C_missing_1, b_C_missing_2, b_C_missing_3, qy0, qy1, qy2, qy3, qe, qcn, qin, ↓reduceIte, Nat.reduceEqDiff, Nat.reduceLeDiff, Bool.false_eq_true, Nat.reduceAdd, Nat.reduceSub, Nat.reduceMul, Nat.reduceLT, or_self, or_false, false_or, or_true, true_or, and_self, and_true, true_and, and_false, false_and, not_true_eq_false, not_false_eq_true, h10, hm0, hN]
        · have h := m10 s1 g1
          have q2 := r_isCol (d + 38) g1.2.1.1.1 (by omega) a
          by_cases hnc : nI 0 ≤ a ∧ a ≤ nI (w - 1)
          · rw [if_pos hnc] at q2
            simp (config := {maxSteps := 1000000}) (disch := first | omega | assumption | (simp only [qm_wid_n, qm_wid_I, qm_wid_L, qm_wid_P] <;> omega)) only [e_M_missing, b_M_missing_0, b_M_missing_2, qy0, qy1, qy2, qy3, qe, qcn, qin, ↓reduceIte, Nat.reduceEqDiff, Nat.reduceLeDiff, Bool.false_eq_true, Nat.reduceAdd, Nat.reduceSub, Nat.reduceMul, Nat.reduceLT, or_self, or_false, false_or, or_true, true_or, and_self, and_true, true_and, and_false, false_and, not_true_eq_false, not_false_eq_true, h, q2, hN, hm0]
          · rw [if_neg hnc] at q2
            simp (config := {maxSteps := 1000000}) (disch := first | omega | assumption | (simp only [qm_wid_n, qm_wid_I, qm_wid_L, qm_wid_P] <;> omega)) only [e_M_missing, b_M_missing_0, b_M_missing_2, qy0, qy1, qy2, qy3, qe, qcn, qin, ↓reduceIte, Nat.reduceEqDiff, Nat.reduceLeDiff, Bool.false_eq_true, Nat.reduceAdd, Nat.reduceSub, Nat.reduceMul, Nat.reduceLT, or_self, or_false, false_or, or_true, true_or, and_self, and_true, true_and, and_false, false_and, not_true_eq_false, not_false_eq_true, h, q2, hN]
