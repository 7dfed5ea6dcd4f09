/-! tries: a pile beside the yard's, weeks by the plan -/
theorem RM_lo {s s' : qm_Hp} {w : Nat} {y k : VW} {tp : Nat → Int32} {fd : Nat} {fa pl : Int32} {T : Nat → TX} (ok : OKG w y k tp fd T) (e9 : ∀ j, (j = 1 ∨ j = 2 ∨ j = 27 ∨ j = 5 ∨ j = 6 ∨ j = 7) → zI s' 9 0 j = zI s 9 0 j) (e61 : ∀ j, j < 840 → zI s' 61 0 j = zI s 61 0 j) (e62 : ∀ j, zI s' 62 0 j = zI s 62 0 j) (e63 : ∀ j, zI s' 63 0 j = zI s 63 0 j) (h : RM s w y k tp fd fa pl T) : RM s' w y k tp fd fa pl T := by
  obtain ⟨⟨a1, a2⟩, ⟨a3, a4⟩, ⟨a5, a6⟩, ⟨a7, a8⟩, ⟨a9, a10⟩, a11⟩ := h
  have hw := ok.1.1.1.2
  exact ⟨⟨(e9 2 (by omega)).trans a1, (e9 27 (by omega)).trans a2⟩, ⟨PM_tr ok.1.1 ((e9 1 (by omega)).trans a3.1) (fun j hj => e61 _ (by omega)) a3, YM_tr hw (fun j hj => e61 _ (by omega)) a4⟩, ⟨PM_tr ok.2.1.1 ((e9 1 (by omega)).trans a5.1) (fun j hj => e61 _ (by omega)) a5, YM_tr hw (fun j hj => e61 _ (by omega)) a6⟩, ⟨(e9 5 (by omega)).trans a7, fun j hj => (e63 j).trans (a8 j hj)⟩, ⟨(e9 6 (by omega)).trans a9, (e9 7 (by omega)).trans a10⟩, fun t ht => TM_eq e62 (a11 t ht)⟩
/-- the reference while it tries at row b -/
def RT (x : qm_Hp) (b w : Nat) (y k : VW) (tp : Nat → Int32) (fd : Nat) (fa pl : Int32) (T : Nat → TX) : Prop := zI x 9 0 2 = nI b ∧ RM (uI x 9 0 2 (nI 0)) w y k tp fd fa pl T
/-- what a try of the reference may change -/
def fT (s s' : qm_Hp) : Prop := (∀ k i j, ¬ (k = 9 ∨ (61 ≤ k ∧ k ≤ 76)) → zI s' k i j = zI s k i j) ∧ (∀ k i j, ¬ (k = 9 ∨ (61 ≤ k ∧ k ≤ 76)) → zL s' k i j = zL s k i j) ∧ (∀ k i j, ¬ (k = 9 ∨ (61 ≤ k ∧ k ≤ 76)) → zP s' k i j = zP s k i j)
theorem RT_0 {x : qm_Hp} {w : Nat} {y k : VW} {tp : Nat → Int32} {fd : Nat} {fa pl : Int32} {T : Nat → TX} (ok : OKG w y k tp fd T) (h : RM x w y k tp fd fa pl T) : RT x 0 w y k tp fd fa pl T :=
  ⟨h.1.1, RM_lo (s := x) (s' := uI x 9 0 2 (nI 0)) ok (fun j hj => by
    rw [zI_uI]
    by_cases q : j = 2
    · rw [if_pos ⟨rfl, rfl, q⟩, q]; exact h.1.1.symm
    · rw [if_neg (fun g => q g.2.2)]) (fun j _ => rfl) (fun j => rfl) (fun j => rfl) h⟩
theorem RT_e {x x' : qm_Hp} {b w : Nat} {y k : VW} {tp : Nat → Int32} {fd : Nat} {fa pl : Int32} {T : Nat → TX} (ok : OKG w y k tp fd T) (b' : Nat) (hb : zI x' 9 0 2 = nI b') (e9 : ∀ j, (j = 1 ∨ j = 27 ∨ j = 5 ∨ j = 6 ∨ j = 7) → zI x' 9 0 j = zI x 9 0 j) (e61 : ∀ j, j < 840 → zI x' 61 0 j = zI x 61 0 j) (e62 : ∀ j, zI x' 62 0 j = zI x 62 0 j) (e63 : ∀ j, zI x' 63 0 j = zI x 63 0 j) (h : RT x b w y k tp fd fa pl T) : RT x' b' w y k tp fd fa pl T :=
  ⟨hb, RM_lo (s := uI x 9 0 2 (nI 0)) (s' := uI x' 9 0 2 (nI 0)) ok (fun j hj => by
    rw [zI_uI, zI_uI]
    by_cases q : j = 2
    · rw [if_pos ⟨rfl, rfl, q⟩, if_pos ⟨rfl, rfl, q⟩]
    · rw [if_neg (fun g => q g.2.2), if_neg (fun g => q g.2.2)]; exact e9 j (by omega)) (fun j hj => e61 j hj) (fun j => e62 j) (fun j => e63 j) h.2⟩
theorem RT_LM {x : qm_Hp} {b w : Nat} {y k : VW} {tp : Nat → Int32} {fd : Nat} {fa pl : Int32} {T : Nat → TX} (ok : OKG w y k tp fd T) (h : RT x b w y k tp fd fa pl T) : LM x (rul T y) := LM_eq (s := uI x 9 0 2 (nI 0)) rfl (fun j => rfl) (RM_LM h.2 ok)
theorem RT_YM {x : qm_Hp} {b w : Nat} {y k : VW} {tp : Nat → Int32} {fd : Nat} {fa pl : Int32} {T : Nat → TX} (hw : w ≤ 6) (h : RT x b w y k tp fd fa pl T) : YM x 0 w y := YM_tr (s := uI x 9 0 2 (nI 0)) hw (fun j hj => rfl) h.2.2.1.2
theorem RT_PM0 {x : qm_Hp} {b w : Nat} {y k : VW} {tp : Nat → Int32} {fd : Nat} {fa pl : Int32} {T : Nat → TX} (ok : OKG w y k tp fd T) (h : RT x b w y k tp fd fa pl T) : PM x 0 w y := PM_tr (s := uI x 9 0 2 (nI 0)) ok.1.1 (by have := h.2.2.1.1.1; rw [zI_uI, if_neg (by decide)] at this; exact this) (fun j hj => rfl) h.2.2.1.1
theorem RT_27 {x : qm_Hp} {b w : Nat} {y k : VW} {tp : Nat → Int32} {fd : Nat} {fa pl : Int32} {T : Nat → TX} (h : RT x b w y k tp fd fa pl T) : zI x 9 0 27 = nI 0 := by
  have := h.2.1.2
  rw [zI_uI, if_neg (by decide)] at this
  exact this
theorem RT_w {x : qm_Hp} {b w : Nat} {y k : VW} {tp : Nat → Int32} {fd : Nat} {fa pl : Int32} {T : Nat → TX} (h : RT x b w y k tp fd fa pl T) : zI x 9 0 1 = nI w := by
  have := h.2.2.1.1.1
  rw [zI_uI, if_neg (by decide)] at this
  exact this
theorem RT_fm {x x' : qm_Hp} {b w : Nat} {y k : VW} {tp : Nat → Int32} {fd : Nat} {fa pl : Int32} {T : Nat → TX} (ok : OKG w y k tp fd T) (hb : 840 ≤ b) (hf : fm b x x') (h : RT x b w y k tp fd fa pl T) : RT x' b w y k tp fd fa pl T :=
  RT_e ok b ((fm_9 hf 2).trans h.1) (fun j _ => fm_9 hf j) (fun j hj => hf.2 j (by omega) (by omega) (by omega)) (fun j => hf.1.1 62 0 j (by decide)) (fun j => hf.1.1 63 0 j (by decide)) h
theorem RT_fc {x x' : qm_Hp} {b w : Nat} {y k : VW} {tp : Nat → Int32} {fd : Nat} {fa pl : Int32} {T : Nat → TX} (ok : OKG w y k tp fd T) (hb : 840 ≤ b) (hf : fc b x x') (h : RT x b w y k tp fd fa pl T) : RT x' b w y k tp fd fa pl T :=
  RT_e ok b ((hf.1.1 9 0 2 (by decide)).trans h.1) (fun j _ => hf.1.1 9 0 j (by decide)) (fun j hj => hf.2 j (by omega) (by omega) (by omega)) (fun j => hf.1.1 62 0 j (by decide)) (fun j => hf.1.1 63 0 j (by decide)) h
theorem RT_fr {x x' : qm_Hp} {K : List Nat} {b w : Nat} {y k : VW} {tp : Nat → Int32} {fd : Nat} {fa pl : Int32} {T : Nat → TX} (ok : OKG w y k tp fd T) (hK : ∀ k, k ∈ [9, 61, 62, 63] → k ∉ K) (hf : fr K x x') (h : RT x b w y k tp fd fa pl T) : RT x' b w y k tp fd fa pl T :=
  RT_e ok b ((hf.1 9 0 2 (hK 9 (by decide))).trans h.1) (fun j _ => hf.1 9 0 j (hK 9 (by decide))) (fun j hj => hf.1 61 0 j (hK 61 (by decide))) (fun j => hf.1 62 0 j (hK 62 (by decide))) (fun j => hf.1 63 0 j (hK 63 (by decide))) h
theorem RT_u {x : qm_Hp} {b w : Nat} {y k : VW} {tp : Nat → Int32} {fd : Nat} {fa pl : Int32} {T : Nat → TX} (ok : OKG w y k tp fd T) (j : Nat) (v : Int32) (hj : 840 ≤ j) (h : RT x b w y k tp fd fa pl T) : RT (uI x 61 0 j v) b w y k tp fd fa pl T :=
  RT_e (x := x) (x' := uI x 61 0 j v) ok b h.1 (fun _ _ => rfl) (fun i hi => by rw [zI_uI, if_neg (by omega)]) (fun _ => rfl) (fun _ => rfl) h
theorem r_tries (d : Nat) (s : qm_Hp) (r : Nat) : qm_evM d jM_tries [qP 9 0, qI (nI r)] s = some (none, uI s 9 0 2 (nI (420 * r))) := by
  simp (config := {maxSteps := 1000000}) (disch := first | omega | assumption | (simp only [qm_wid_n, qm_wid_I, qm_wid_L, qm_wid_P] <;> omega)) only [e_M_tries, b_M_tries_0, qy0, qy1, qy2, qy3, qe, qcn, qin, ↓reduceIte, Nat.reduceEqDiff, Nat.reduceLeDiff, Bool.false_eq_true, Nat.reduceAdd, Nat.reduceSub, Nat.reduceMul, Nat.reduceLT, or_self, or_false, false_or, or_true, true_or, and_self, and_true, true_and, and_false, false_and, not_true_eq_false, not_false_eq_true]
/-- a row copied to row r, and b set to it -/
theorem RT_copy {x : qm_Hp} {b w : Nat} {y k : VW} {tp : Nat → Int32} {fd : Nat} {fa pl : Int32} {T : Nat → TX} (ok : OKG w y k tp fd T) (f r : Nat) (hr : 2 ≤ r) (b' : Nat) (h : RT x b w y k tp fd fa pl T) : RT (uI (uC x 61 0 (420 * f) 61 0 (420 * r) 420) 9 0 2 (nI b')) b' w y k tp fd fa pl T :=
  RT_e ok b' (by rw [zI_uI, if_pos ⟨rfl, rfl, rfl⟩]) (fun j hj => by rw [zI_uI, if_neg (by omega), zI_uC, if_neg (by omega)]) (fun j hj => by rw [zI_uI, if_neg (by omega)]; exact cp_out x f r j (by omega)) (fun j => by rw [zI_uI, if_neg (by omega), zI_uC, if_neg (by omega)]) (fun j => by rw [zI_uI, if_neg (by omega), zI_uC, if_neg (by omega)]) h
theorem PM_copy {x : qm_Hp} {w : Nat} {v : VW} (okv : OKP w v) (f r b' : Nat) (h : PM x (420 * f) w v) : PM (uI (uC x 61 0 (420 * f) 61 0 (420 * r) 420) 9 0 2 (nI b')) (420 * r) w v :=
  PM_tr okv (by rw [zI_uI, if_neg (by decide), zI_uC, if_neg (by omega)]; exact h.1) (fun j hj => by rw [zI_uI, if_neg (by omega)]; exact cp_in x f r j hj) h
theorem RC_PPp {s s' : qm_Hp} {p w : Nat} {y k : VW} {tp : Nat → Int32} {fd : Nat} {fa pl : Int32} {T : Nat → TX} (hp : 2 ≤ p) (hf : fp (PP p) s s') (hP : zI s' 3 p 0 = nI w) (h : RC s w y k tp fd fa pl T) : RC s' w y k tp fd fa pl T :=
  RC_SP (fp_mono (fun k i hk => by unfold PP at hk; unfold SP; omega) hf) (fun q hq => by
    by_cases e : q = p
    · rw [e]; exact hP
    · exact (hf.1 3 q 0 (by unfold PP; omega)).trans (h.2.2.1 q hq)) h
/-- the plan's weather -/
def pln (y : VW) (k : Nat) : Nat := (y 12 k).toNatClampNeg
theorem pln_e {w : Nat} {y : VW} (h : OKY w y) {k : Nat} (hk : k < 40) : y 12 k = nI (pln y k) ∧ pln y k < 12 := by
  obtain ⟨j, _, hj, e⟩ := h.2.2.2.2.2.1 k hk
  unfold pln
  rw [e, nI_clamp (by omega)]
  exact ⟨rfl, by omega⟩
def psq (τ : TX) (w : Nat) (y : VW) : Nat → VW → VW
  | 0, v => v
  | k + 1, v => passv τ w (Wy y (pln y k)) (psq τ w y k v)
theorem ok_pass {τ : TX} {w : Nat} {W : Nat → Int32} {v : VW} {i : Nat} (ok : OKP w v) (hi : v 0 0 = nI i) (h : i < 399) : OKP w (passv τ w W v) ∧ passv τ w W v 0 0 = nI (i + 1) := by
  refine ⟨ok_fall (ok_dry ok hi h), ?_⟩
  rw [pass_wk, hi, nI_add]
theorem psq_ok {τ : TX} {w : Nat} {y v : VW} {i n : Nat} (ok : OKP w v) (hi : v 0 0 = nI i) (h : i + n ≤ 399) : ∀ k, k ≤ n → OKP w (psq τ w y k v) ∧ psq τ w y k v 0 0 = nI (i + k)
  | 0, _ => ⟨ok, hi⟩
  | k + 1, hk => by
    obtain ⟨a1, a2⟩ := psq_ok (τ := τ) (y := y) ok hi h k (by omega)
    exact ok_pass (i := i + k) a1 a2 (by omega)
theorem c_passT (d : Nat) {x : qm_Hp} {p w kk i : Nat} {v y k : VW} {tp : Nat → Int32} {fd : Nat} {fa pl : Int32} {T : Nat → TX} (ok : OKG w y k tp fd T) (hR : RC x w y k tp fd fa pl T) (hp : 2 ≤ p) (hP : PC x p w v) (okv : OKP w v) (hi : v 0 0 = nI i) (h9 : i < 399) (hk : kk < 12) : ∃ x', qm_evM (d + 6) jL_pass [qP 5 0, qP 3 p, qP 2 0, qI (nI kk)] x = some (none, x') ∧ RC x' w y k tp fd fa pl T ∧ PC x' p w (passv (rul T y) w (Wy y kk) v) ∧ fp (PP p) x x' := by
  obtain ⟨x', e1, e2, e3⟩ := c_pass d (W := Wy y kk) hP okv (RC_LC hR ok) (ok_rul ok) hk (Wy_C hR.1.2 hk) hi h9
  exact ⟨x', e1, RC_PPp hp e3 e2.1 hR, e2, e3⟩
theorem r_passT (d : Nat) {x : qm_Hp} {b w kk i : Nat} {v y k : VW} {tp : Nat → Int32} {fd : Nat} {fa pl : Int32} {T : Nat → TX} (ok : OKG w y k tp fd T) (hR : RT x b w y k tp fd fa pl T) (hb : 840 ≤ b) (hb2 : b ≤ 2940) (hP : PM x b w v) (okv : OKP w v) (hi : v 0 0 = nI i) (h9 : i < 399) (hk : kk < 12) : ∃ x', qm_evM (d + 7) jM_goBy [qP 9 0, qI (nI kk)] x = some (none, x') ∧ RT x' b w y k tp fd fa pl T ∧ PM x' b w (passv (rul T y) w (Wy y kk) v) ∧ fm b x x' := by
  have hw := ok.1.1.1.2
  obtain ⟨x', e1, e2, e3⟩ := r_goBy d (W := Wy y kk) hP okv hR.1 hb2 (by omega) (RT_LM ok hR) (ok_rul ok) hk (Wy_M (RT_YM hw hR) hk) (Wy_r ok.1.2 hk) (RT_27 hR) hi h9
  exact ⟨x', e1, RT_fm ok hb e3 hR, e2, e3⟩
theorem r_dryT (d : Nat) {x : qm_Hp} {b w kk : Nat} {v y k : VW} {tp : Nat → Int32} {fd : Nat} {fa pl : Int32} {T : Nat → TX} (ok : OKG w y k tp fd T) (hL : LM x (rul T y)) (hY : YM x 0 w y) (hb1 : zI x 9 0 2 = nI b) (h27 : zI x 9 0 27 = nI 1) (hb2 : b ≤ 2940) (hP : PM x b w v) (okv : OKP w v) (hk : kk < 12) : ∃ x', qm_evM (d + 7) jM_goBy [qP 9 0, qI (nI kk)] x = some (none, x') ∧ PM x' b w (dryv (rul T y) w (Wy y kk) v) ∧ fm b x x' :=
  r_goB d (W := Wy y kk) hP okv hb1 hb2 hL (ok_rul ok) hk (Wy_M hY hk) (Wy_r ok.1.2 hk) h27
/-- fallen stays fallen -/
theorem pass_fl {τ : TX} {w : Nat} {W : Nat → Int32} {v : VW} (h : ¬ v 0 1 = N1) : passv τ w W v 0 1 = v 0 1 := by
  have e : dryv τ w W v 0 1 = v 0 1 := rfl
  unfold passv
  rw [fall_no (fun g => h (e ▸ g.1))]
  exact e
/-- when it fell, of n weeks -/
def sto (τ : TX) (w : Nat) (y : VW) (n : Nat) (v : VW) : Nat → Nat
  | 0 => if v 0 1 = N1 then n + 1 else 0
  | k + 1 => if psq τ w y k v 0 1 = N1 ∧ ¬ psq τ w y (k + 1) v 0 1 = N1 then k + 1 else sto τ w y n v k
theorem sto_i {τ : TX} {w : Nat} {y : VW} {n : Nat} {v : VW} : ∀ k, (psq τ w y k v 0 1 = N1 → sto τ w y n v k = n + 1) ∧ (¬ psq τ w y k v 0 1 = N1 → sto τ w y n v k ≤ k)
  | 0 => by
    show (v 0 1 = N1 → (if v 0 1 = N1 then n + 1 else 0) = n + 1) ∧ (¬ v 0 1 = N1 → (if v 0 1 = N1 then n + 1 else 0) ≤ 0)
    by_cases h : v 0 1 = N1
    · rw [if_pos h]; exact ⟨fun _ => rfl, fun g => absurd h g⟩
    · rw [if_neg h]; exact ⟨fun g => absurd g h, fun _ => Nat.le_refl _⟩
  | k + 1 => by
    obtain ⟨i1, i2⟩ := sto_i (τ := τ) (w := w) (y := y) (n := n) (v := v) k
    show (_ → (if psq τ w y k v 0 1 = N1 ∧ ¬ psq τ w y (k + 1) v 0 1 = N1 then k + 1 else sto τ w y n v k) = n + 1) ∧ (_ → (if psq τ w y k v 0 1 = N1 ∧ ¬ psq τ w y (k + 1) v 0 1 = N1 then k + 1 else sto τ w y n v k) ≤ k + 1)
    by_cases h : psq τ w y k v 0 1 = N1
    · by_cases h2 : psq τ w y (k + 1) v 0 1 = N1
      · rw [if_neg (fun g => g.2 h2)]; exact ⟨fun _ => i1 h, fun g => absurd h2 g⟩
      · rw [if_pos ⟨h, h2⟩]; exact ⟨fun g => absurd g h2, fun _ => Nat.le_refl _⟩
    · have h2 : ¬ psq τ w y (k + 1) v 0 1 = N1 := by
        show ¬ passv τ w (Wy y (pln y k)) (psq τ w y k v) 0 1 = N1
        rw [pass_fl h]; exact h
      rw [if_neg (fun g => h g.1)]; exact ⟨fun g => absurd g h2, fun _ => by have := i2 h; omega⟩
theorem fm_7 {w : Nat} {v : VW} (okv : OKP w v) : (v 0 1 < nI 0) = (v 0 1 = N1) := propext (fl_iff okv)
theorem r_goOn (d : Nat) {x : qm_Hp} {b w i n : Nat} {v y k : VW} {tp : Nat → Int32} {fd : Nat} {fa pl : Int32} {T : Nat → TX} (ok : OKG w y k tp fd T) (hR : RT x b w y k tp fd fa pl T) (hb : 840 ≤ b) (hb2 : b ≤ 2940) (hP : PM x b w v) (okv : OKP w v) (hi : v 0 0 = nI i) (h9 : i + n ≤ 399) (hn : n ≤ 40) : ∃ x', qm_evM (d + 8) jM_goOn [qP 9 0, qI (nI n)] x = some (some (qI (nI (sto (rul T y) w y n v n))), x') ∧ RT x' b w y k tp fd fa pl T ∧ PM x' b w (psq (rul T y) w y n v) ∧ fm b x x' := by
  have hw := ok.1.1.1.2
  obtain ⟨x1, e, q1, q2, q3⟩ := q_lp n (fun j (x : qm_Hp) => qm_evB (d + 8) jM_goOn 3 [qP 9 0, qI (nI n), qI (nI (sto (rul T y) w y n v j)), qI (nI j)] [] x) (fun j x' => RT x' b w y k tp fd fa pl T ∧ PM x' b w (psq (rul T y) w y j v) ∧ fm b x x') (fun j x' hj hx => by
    obtain ⟨i1, i2, i3⟩ := hx
    obtain ⟨o1, o2⟩ := psq_ok (τ := rul T y) (y := y) okv hi h9 j (by omega)
    obtain ⟨ep, hp⟩ := pln_e ok.1.2 (k := j) (by omega)
    have hpl : zI x' 61 0 (70 + j) = nI (pln y j) := by
      have := (RT_YM hw i1).2.2.1 j (by omega)
      rw [Nat.zero_add] at this
      exact this.trans ep
    obtain ⟨x2, g1, g2, g3, g4⟩ := r_passT d ok i1 hb hb2 i2 o1 o2 (by omega) hp
    have hb' := g2.1
    have h7 : zI x2 61 0 (b + 7) = psq (rul T y) w y (j + 1) v 0 1 := g3.2.1.2.1
    have o3 := (psq_ok (τ := rul T y) (y := y) okv hi h9 (j + 1) (by omega)).1
    have hfl := fm_7 o3
    obtain ⟨s1, s2⟩ := sto_i (τ := rul T y) (w := w) (y := y) (n := n) (v := v) j
    refine ⟨x2, (b_M_goOn_3 ..).trans ?_, g2, g3, fm_trans i3 g4⟩
    show _ = qm_evB (d + 8) jM_goOn 3 [qP 9 0, qI (nI n), qI (nI (if psq (rul T y) w y j v 0 1 = N1 ∧ ¬ psq (rul T y) w y (j + 1) v 0 1 = N1 then j + 1 else sto (rul T y) w y n v j)), qI (nI (j + 1))] [] x2
    by_cases h2 : psq (rul T y) w y (j + 1) v 0 1 = N1
    · rw [if_neg (fun g => g.2 h2)]
      simp (config := {maxSteps := 1000000}) (disch := first | omega | assumption | (simp only [qm_wid_n, qm_wid_I, qm_wid_L, qm_wid_P] <;> omega)) only [b_M_goOn_4, qy0, qy1, qy2, qy3, qe, qcn, qin, ↓reduceIte, Nat.reduceEqDiff, Nat.reduceLeDiff, Bool.false_eq_true, Nat.reduceAdd, Nat.reduceSub, Nat.reduceMul, Nat.reduceLT, or_self, or_false, false_or, or_true, true_or, and_self, and_true, true_and, and_false, false_and, not_true_eq_false, not_false_eq_true, hpl, g1, hb', h7, hfl, h2]
    · by_cases h1 : psq (rul T y) w y j v 0 1 = N1
      · have s1' := s1 h1
        rw [if_pos ⟨h1, h2⟩, s1']
        simp (config := {maxSteps := 1000000}) (disch := first | omega | assumption | (simp only [qm_wid_n, qm_wid_I, qm_wid_L, qm_wid_P] <;> omega)) only [b_M_goOn_4, qy0, qy1, qy2, qy3, qe, qcn, qin, ↓reduceIte, Nat.reduceEqDiff, Nat.reduceLeDiff, Bool.false_eq_true, Nat.reduceAdd, Nat.reduceSub, Nat.reduceMul, Nat.reduceLT, or_self, or_false, false_or, or_true, true_or, and_self, and_true, true_and, and_false, false_and, not_true_eq_false, not_false_eq_true, hpl, g1, hb', h7, hfl, h2]
      · have s2' := s2 h1
        rw [if_neg (fun g => h1 g.1)]
        simp (config := {maxSteps := 1000000}) (disch := first | omega | assumption | (simp only [qm_wid_n, qm_wid_I, qm_wid_L, qm_wid_P] <;> omega)) only [b_M_goOn_4, qy0, qy1, qy2, qy3, qe, qcn, qin, ↓reduceIte, Nat.reduceEqDiff, Nat.reduceLeDiff, Bool.false_eq_true, Nat.reduceAdd, Nat.reduceSub, Nat.reduceMul, Nat.reduceLT, or_self, or_false, false_or, or_true, true_or, and_self, and_true, true_and, and_false, false_and, not_true_eq_false, not_false_eq_true, hpl, g1, hb', h7, hfl, h2]) 0 x (Nat.zero_le _) ⟨hR, hP, fm_refl _ _⟩
  refine ⟨x1, ?_, q1, q2, q3⟩
  have hb' := hR.1
  have h7 : zI x 61 0 (b + 7) = v 0 1 := hP.2.1.2.1
  have hfl := fm_7 okv
  have e' : qm_evB (d + 8) jM_goOn 3 [qP 9 0, qI (nI n), qI (nI (if v 0 1 = N1 then n + 1 else 0)), qI (nI 0)] [] x = _ := e
  by_cases h : v 0 1 = N1
  · rw [if_pos h] at e'
    simp (config := {maxSteps := 1000000}) (disch := first | omega | assumption | (simp only [qm_wid_n, qm_wid_I, qm_wid_L, qm_wid_P] <;> omega)) only [e_M_goOn, b_M_goOn_0, b_M_goOn_1, b_M_goOn_2, qy0, qy1, qy2, qy3, qe, qcn, qin, ↓reduceIte, Nat.reduceEqDiff, Nat.reduceLeDiff, Bool.false_eq_true, Nat.reduceAdd, Nat.reduceSub, Nat.reduceMul, Nat.reduceLT, or_self, or_false, false_or, or_true, true_or, and_self, and_true, true_and, and_false, false_and, not_true_eq_false, not_false_eq_true, hb', h7, hfl, h]
    refine e'.trans ?_
    simp (config := {maxSteps := 1000000}) (disch := first | omega | assumption | (simp only [qm_wid_n, qm_wid_I, qm_wid_L, qm_wid_P] <;> omega)) only [b_M_goOn_3, b_M_goOn_5, qy0, qy1, qy2, qy3, qe, qcn, qin, ↓reduceIte, Nat.reduceEqDiff, Nat.reduceLeDiff, Bool.false_eq_true, Nat.reduceAdd, Nat.reduceSub, Nat.reduceMul, Nat.reduceLT, or_self, or_false, false_or, or_true, true_or, and_self, and_true, true_and, and_false, false_and, not_true_eq_false, not_false_eq_true]
  · rw [if_neg h] at e'
    simp (config := {maxSteps := 1000000}) (disch := first | omega | assumption | (simp only [qm_wid_n, qm_wid_I, qm_wid_L, qm_wid_P] <;> omega)) only [e_M_goOn, b_M_goOn_0, b_M_goOn_1, b_M_goOn_2, qy0, qy1, qy2, qy3, qe, qcn, qin, ↓reduceIte, Nat.reduceEqDiff, Nat.reduceLeDiff, Bool.false_eq_true, Nat.reduceAdd, Nat.reduceSub, Nat.reduceMul, Nat.reduceLT, or_self, or_false, false_or, or_true, true_or, and_self, and_true, true_and, and_false, false_and, not_true_eq_false, not_false_eq_true, hb', h7, hfl, h]
    refine e'.trans ?_
    simp (config := {maxSteps := 1000000}) (disch := first | omega | assumption | (simp only [qm_wid_n, qm_wid_I, qm_wid_L, qm_wid_P] <;> omega)) only [b_M_goOn_3, b_M_goOn_5, qy0, qy1, qy2, qy3, qe, qcn, qin, ↓reduceIte, Nat.reduceEqDiff, Nat.reduceLeDiff, Bool.false_eq_true, Nat.reduceAdd, Nat.reduceSub, Nat.reduceMul, Nat.reduceLT, or_self, or_false, false_or, or_true, true_or, and_self, and_true, true_and, and_false, false_and, not_true_eq_false, not_false_eq_true]
/-- may it be tried -/
theorem t_canPass (d : Nat) {s : qm_Hp} {nw wk : Nat} (h5 : zI s 2 0 5 = nI nw) (h8 : zI s 3 0 8 = nI wk) (hn : nw ≤ 12) (hw : wk ≤ 399) (m : Nat) (hm : m ≤ 40) : qm_evM d jC_canPass [qP 1 0, qI (nI m)] s = some (some (qI (if 0 < nw ∧ wk + m ≤ 399 then nI 1 else nI 0)), s) := by
  by_cases h1 : 0 < nw
  · by_cases h2 : wk + m ≤ 399
    · rw [if_pos ⟨h1, h2⟩]
      simp (config := {maxSteps := 1000000}) (disch := first | omega | assumption | (simp only [qm_wid_n, qm_wid_I, qm_wid_L, qm_wid_P] <;> omega)) only [e_C_canPass, b_C_canPass_0, b_C_canPass_1, b_C_canPass_2, qy0, qy1, qy2, qy3, qe, qcn, qin, ↓reduceIte, Nat.reduceEqDiff, Nat.reduceLeDiff, Bool.false_eq_true, Nat.reduceAdd, Nat.reduceSub, Nat.reduceMul, Nat.reduceLT, or_self, or_false, false_or, or_true, true_or, and_self, and_true, true_and, and_false, false_and, not_true_eq_false, not_false_eq_true, h5, h8]
    · rw [if_neg (fun g => h2 g.2)]
      simp (config := {maxSteps := 1000000}) (disch := first | omega | assumption | (simp only [qm_wid_n, qm_wid_I, qm_wid_L, qm_wid_P] <;> omega)) only [e_C_canPass, b_C_canPass_0, b_C_canPass_1, b_C_canPass_2, qy0, qy1, qy2, qy3, qe, qcn, qin, ↓reduceIte, Nat.reduceEqDiff, Nat.reduceLeDiff, Bool.false_eq_true, Nat.reduceAdd, Nat.reduceSub, Nat.reduceMul, Nat.reduceLT, or_self, or_false, false_or, or_true, true_or, and_self, and_true, true_and, and_false, false_and, not_true_eq_false, not_false_eq_true, h5, h8]
  · have h0 : nw = 0 := by omega
    subst h0
    rw [if_neg (fun g => h1 g.1)]
    simp (config := {maxSteps := 1000000}) (disch := first | omega | assumption | (simp only [qm_wid_n, qm_wid_I, qm_wid_L, qm_wid_P] <;> omega)) only [e_C_canPass, b_C_canPass_0, b_C_canPass_1, b_C_canPass_2, qy0, qy1, qy2, qy3, qe, qcn, qin, ↓reduceIte, Nat.reduceEqDiff, Nat.reduceLeDiff, Bool.false_eq_true, Nat.reduceAdd, Nat.reduceSub, Nat.reduceMul, Nat.reduceLT, or_self, or_false, false_or, or_true, true_or, and_self, and_true, true_and, and_false, false_and, not_true_eq_false, not_false_eq_true, h5]
def cpt (nw wk M : Nat) (x : Int32) : Prop := ∃ m, x = nI m ∧ m ≤ M ∧ (m = 0 ∨ 0 < nw) ∧ wk + m ≤ 399
theorem r_isTried_y (d : Nat) {s : qm_Hp} {nw wk M m : Nat} (h1 : zI s 61 0 1 = nI nw) (h0 : zI s 61 0 0 = nI wk) (hn : nw ≤ 12) (hM : M ≤ 40) (hm : m ≤ M) (q1 : m = 0 ∨ 0 < nw) (q2 : wk + m ≤ 399) : qm_evM (d + 1) jM_isTried [qP 9 0, qI (nI m), qI (nI M)] s = some (some (qI (nI 1)), s) := by
  by_cases z : m = 0
  · subst z
    simp (config := {maxSteps := 1000000}) (disch := first | omega | assumption | (simp only [qm_wid_n, qm_wid_I, qm_wid_L, qm_wid_P] <;> omega)) only [e_M_isTried, b_M_isTried_0, b_M_isTried_1, b_M_isTried_2, b_M_isTried_3, qy0, qy1, qy2, qy3, qe, qcn, qin, ↓reduceIte, Nat.reduceEqDiff, Nat.reduceLeDiff, Bool.false_eq_true, Nat.reduceAdd, Nat.reduceSub, Nat.reduceMul, Nat.reduceLT, or_self, or_false, false_or, or_true, true_or, and_self, and_true, true_and, and_false, false_and, not_true_eq_false, not_false_eq_true, h1, h0, t_isIn]
  · have : 0 < nw := by omega
    simp (config := {maxSteps := 1000000}) (disch := first | omega | assumption | (simp only [qm_wid_n, qm_wid_I, qm_wid_L, qm_wid_P] <;> omega)) only [e_M_isTried, b_M_isTried_0, b_M_isTried_1, b_M_isTried_2, b_M_isTried_3, qy0, qy1, qy2, qy3, qe, qcn, qin, ↓reduceIte, Nat.reduceEqDiff, Nat.reduceLeDiff, Bool.false_eq_true, Nat.reduceAdd, Nat.reduceSub, Nat.reduceMul, Nat.reduceLT, or_self, or_false, false_or, or_true, true_or, and_self, and_true, true_and, and_false, false_and, not_true_eq_false, not_false_eq_true, h1, h0, t_isIn]
theorem r_isTried_n (d : Nat) {s : qm_Hp} {nw wk M : Nat} {x : Int32} (h1 : zI s 61 0 1 = nI nw) (h0 : zI s 61 0 0 = nI wk) (hn : nw ≤ 12) (hw : wk ≤ 399) (hM : M ≤ 40) (hq : ¬ cpt nw wk M x) : qm_evM (d + 1) jM_isTried [qP 9 0, qI x, qI (nI M)] s = some (some (qI (nI 0)), s) := by
  by_cases h : nI 0 ≤ x ∧ x ≤ nI M
  · obtain ⟨m, _, hm, rfl⟩ := inr_rg (by omega) h.1 h.2 (Nat.zero_le _)
    by_cases z : m = 0
    · exact absurd ⟨m, rfl, hm, Or.inl z, by omega⟩ hq
    · by_cases z2 : 0 < nw
      · have z3 : ¬ wk + m ≤ 399 := fun g => hq ⟨m, rfl, hm, Or.inr z2, g⟩
        simp (config := {maxSteps := 1000000}) (disch := first | omega | assumption | (simp only [qm_wid_n, qm_wid_I, qm_wid_L, qm_wid_P] <;> omega)) only [e_M_isTried, b_M_isTried_0, b_M_isTried_1, b_M_isTried_2, b_M_isTried_3, qy0, qy1, qy2, qy3, qe, qcn, qin, ↓reduceIte, Nat.reduceEqDiff, Nat.reduceLeDiff, Bool.false_eq_true, Nat.reduceAdd, Nat.reduceSub, Nat.reduceMul, Nat.reduceLT, or_self, or_false, false_or, or_true, true_or, and_self, and_true, true_and, and_false, false_and, not_true_eq_false, not_false_eq_true, h1, h0, t_isIn]
      · have z3 : nw = 0 := by omega
        subst z3
        simp (config := {maxSteps := 1000000}) (disch := first | omega | assumption | (simp only [qm_wid_n, qm_wid_I, qm_wid_L, qm_wid_P] <;> omega)) only [e_M_isTried, b_M_isTried_0, b_M_isTried_1, b_M_isTried_2, b_M_isTried_3, qy0, qy1, qy2, qy3, qe, qcn, qin, ↓reduceIte, Nat.reduceEqDiff, Nat.reduceLeDiff, Bool.false_eq_true, Nat.reduceAdd, Nat.reduceSub, Nat.reduceMul, Nat.reduceLT, or_self, or_false, false_or, or_true, true_or, and_self, and_true, true_and, and_false, false_and, not_true_eq_false, not_false_eq_true, h1, h0, t_isIn]
  · simp (config := {maxSteps := 1000000}) (disch := first | omega | assumption | (simp only [qm_wid_n, qm_wid_I, qm_wid_L, qm_wid_P] <;> omega)) only [e_M_isTried, b_M_isTried_0, b_M_isTried_1, b_M_isTried_2, b_M_isTried_3, qy0, qy1, qy2, qy3, qe, qcn, qin, ↓reduceIte, Nat.reduceEqDiff, Nat.reduceLeDiff, Bool.false_eq_true, Nat.reduceAdd, Nat.reduceSub, Nat.reduceMul, Nat.reduceLT, or_self, or_false, false_or, or_true, true_or, and_self, and_true, true_and, and_false, false_and, not_true_eq_false, not_false_eq_true, t_isIn, h]
theorem t_canTry_y (d : Nat) {s : qm_Hp} {nw wk m : Nat} (h5 : zI s 2 0 5 = nI nw) (h8 : zI s 3 0 8 = nI wk) (hn : nw ≤ 12) (hm : m ≤ 40) (q1 : m = 0 ∨ 0 < nw) (q2 : wk + m ≤ 399) : qm_evM (d + 1) jC_canTry [qP 1 0, qI (nI m)] s = some (some (qI (nI 1)), s) := by
  by_cases z : m = 0
  · subst z
    simp (config := {maxSteps := 1000000}) (disch := first | omega | assumption | (simp only [qm_wid_n, qm_wid_I, qm_wid_L, qm_wid_P] <;> omega)) only [e_C_canTry, b_C_canTry_0, b_C_canTry_1, b_C_canTry_2, b_C_canTry_3, qy0, qy1, qy2, qy3, qe, qcn, qin, ↓reduceIte, Nat.reduceEqDiff, Nat.reduceLeDiff, Bool.false_eq_true, Nat.reduceAdd, Nat.reduceSub, Nat.reduceMul, Nat.reduceLT, or_self, or_false, false_or, or_true, true_or, and_self, and_true, true_and, and_false, false_and, not_true_eq_false, not_false_eq_true]
  · have hc := t_canPass d h5 h8 hn (by omega) m hm
    rw [if_pos ⟨by omega, q2⟩] at hc
    simp (config := {maxSteps := 1000000}) (disch := first | omega | assumption | (simp only [qm_wid_n, qm_wid_I, qm_wid_L, qm_wid_P] <;> omega)) only [e_C_canTry, b_C_canTry_0, b_C_canTry_1, b_C_canTry_2, b_C_canTry_3, qy0, qy1, qy2, qy3, qe, qcn, qin, ↓reduceIte, Nat.reduceEqDiff, Nat.reduceLeDiff, Bool.false_eq_true, Nat.reduceAdd, Nat.reduceSub, Nat.reduceMul, Nat.reduceLT, or_self, or_false, false_or, or_true, true_or, and_self, and_true, true_and, and_false, false_and, not_true_eq_false, not_false_eq_true, t_within, hc]
theorem t_canTry_n (d : Nat) {s : qm_Hp} {nw wk : Nat} {x : Int32} (h5 : zI s 2 0 5 = nI nw) (h8 : zI s 3 0 8 = nI wk) (hn : nw ≤ 12) (hw : wk ≤ 399) (hq : ¬ cpt nw wk 40 x) : qm_evM (d + 1) jC_canTry [qP 1 0, qI x] s = some (some (qI (nI 0)), s) := by
  have z : ¬ x = nI 0 := fun g => hq ⟨0, g, by omega, Or.inl rfl, by omega⟩
  by_cases h : nI 1 ≤ x ∧ x ≤ nI 40
  · obtain ⟨m, h1, hm, rfl⟩ := inr_rg (by decide) h.1 h.2 (by decide)
    have hc := t_canPass d h5 h8 hn hw m hm
    rw [if_neg (fun g => hq ⟨m, rfl, hm, Or.inr g.1, g.2⟩)] at hc
    simp (config := {maxSteps := 1000000}) (disch := first | omega | assumption | (simp only [qm_wid_n, qm_wid_I, qm_wid_L, qm_wid_P] <;> omega)) only [e_C_canTry, b_C_canTry_0, b_C_canTry_1, b_C_canTry_2, b_C_canTry_3, qy0, qy1, qy2, qy3, qe, qcn, qin, ↓reduceIte, Nat.reduceEqDiff, Nat.reduceLeDiff, Bool.false_eq_true, Nat.reduceAdd, Nat.reduceSub, Nat.reduceMul, Nat.reduceLT, or_self, or_false, false_or, or_true, true_or, and_self, and_true, true_and, and_false, false_and, not_true_eq_false, not_false_eq_true, t_within, hc]
  · simp (config := {maxSteps := 1000000}) (disch := first | omega | assumption | (simp only [qm_wid_n, qm_wid_I, qm_wid_L, qm_wid_P] <;> omega)) only [e_C_canTry, b_C_canTry_0, b_C_canTry_1, b_C_canTry_2, b_C_canTry_3, qy0, qy1, qy2, qy3, qe, qcn, qin, ↓reduceIte, Nat.reduceEqDiff, Nat.reduceLeDiff, Bool.false_eq_true, Nat.reduceAdd, Nat.reduceSub, Nat.reduceMul, Nat.reduceLT, or_self, or_false, false_or, or_true, true_or, and_self, and_true, true_and, and_false, false_and, not_true_eq_false, not_false_eq_true, t_within, h, z]
