/-! the class's reader: told numbers, wanted words, a lay clause -/
def want (Tk : Nat → Nat) (c i : Nat) : PR := if Tk i = c then (0, i + 1, []) else (1, i, [])
def told (Tk Vl : Nat → Nat) (lo hi i : Nat) : PR := if Tk i = 40 then (if lo ≤ Vl i ∧ Vl i ≤ hi then (0, i + 1, [(0, Vl i)]) else (2, i, [])) else (1, i, [])
def sq (r : PR) (g : Nat → PR) : PR := bnd r fun j o => bnd (g j) fun j' o' => (0, j', o ++ o')
def PB (E u : Nat) (r : PR) : Prop := r.2.1 ≤ E ∧ (r.1 = 0 → u + r.2.2.length ≤ r.2.1)
def RDR (Tk Vl Pc : Nat → Nat) (E t cl a D f : Nat) (as : List qm_AV) (g : Nat → PR) : Prop := (∀ x i u, i ≤ E → u ≤ i → RS Tk Vl Pc E t cl a x → CI t cl x i u → ∃ x', qm_evM D f as x = some (none, x') ∧ QR Pc t cl x x' u (g i) ∧ PB E u (g i)) ∧ (∀ x f' j, j ≤ E → RS Tk Vl Pc E t cl a x → FA Pc x f' j → qm_evM D f as x = some (none, x))
theorem RDR_sq {Tk Vl Pc : Nat → Nat} {E t cl a D f : Nat} {as : List qm_AV} {g : Nat → PR} (h : RDR Tk Vl Pc E t cl a D f as g) {x x1 : qm_Hp} {u : Nat} {r : PR} (hRS : RS Tk Vl Pc E t cl a x) (hq : QR Pc t cl x x1 u r) (hb : PB E u r) : ∃ x2, qm_evM D f as x1 = some (none, x2) ∧ QR Pc t cl x x2 u (sq r g) ∧ PB E u (sq r g) := by
  unfold sq
  by_cases q : r.1 = 0
  · have c := hq.1 q
    obtain ⟨x2, e, r2, b2⟩ := h.1 x1 r.2.1 (u + r.2.2.length) hb.1 (hb.2 q) (RS_TF c.1 hRS) c.2.1
    rw [bnd_0 q]
    refine ⟨x2, e, ?_⟩
    by_cases qq : (g r.2.1).1 = 0
    · rw [bnd_0 qq]
      have qz := QC_tr c (r2.1 qq)
      refine ⟨QR_ok qz, b2.1, fun _ => ?_⟩
      have := b2.2 qq
      rw [List.length_append]
      show u + (r.2.2.length + (g r.2.1).2.2.length) ≤ (g r.2.1).2.1
      omega
    · rw [bnd_n qq]
      exact ⟨⟨fun k => absurd k qq, fun _ => QF_tr c (r2.2 qq)⟩, b2.1, fun k => absurd k qq⟩
  · have c := hq.2 q
    rw [bnd_n q]
    exact ⟨x1, h.2 x1 _ _ hb.1 (RS_TF c.1 hRS) c.2, hq, hb⟩
theorem RDR_want {Tk Vl Pc : Nat → Nat} {E t cl a : Nat} (hE : Tk E = 41) (hE3 : E ≤ 300) (hT : ∀ i, i ≤ E → Tk i < 100 ∧ Vl i ≤ 10000) (d c : Nat) (hc : c < 100 ∧ c ≠ 41) : RDR Tk Vl Pc E t cl a (d + 2) jR_expect [qP 6 0, qI (nI c)] (want Tk c) := by
  constructor
  · intro x i u hi hu hRS hCI
    unfold want
    by_cases q : Tk i = c
    · have hi1 : i < E := by
        by_cases k : i = E
        · rw [k, hE] at q; omega
        · omega
      rw [if_pos q]
      exact ⟨_, c_expY d hE3 hRS.1 hCI.1 hCI.2.1 hi1 c q, QR_ok (QC_step hCI), hi1, fun _ => by show u + 0 ≤ i + 1; omega⟩
    · rw [if_neg q]
      exact ⟨_, c_expN d hE3 hRS.1 hCI.1 hCI.2.1 hi c q ⟨(hT i hi).1, hc.1⟩, QR_no (by decide) (QF_fail hCI 1 (by decide)), hi, fun k => absurd k (show ¬ (_ + 1 : Nat) = 0 from Nat.succ_ne_zero _)⟩
  · intro x f j hj hRS hF
    exact c_expF d hE3 hRS.1 hF.1 hj hF.2.1 hF.2.2.2 c ⟨(hT j hj).1, hc.1⟩
theorem RDR_told {Tk Vl Pc : Nat → Nat} {E t cl a : Nat} (hE : Tk E = 41) (hE3 : E ≤ 300) (hT : ∀ i, i ≤ E → Tk i < 100 ∧ Vl i ≤ 10000) (hcl : 1 ≤ cl ∧ cl ≤ 20) (d lo hi : Nat) (hb : lo < 20000 ∧ hi < 20000) : RDR Tk Vl Pc E t cl a (d + 2) jR_readTold [qP 6 0, qI (nI lo), qI (nI hi)] (told Tk Vl lo hi) := by
  constructor
  · intro x i u hi' hu hRS hCI
    have tk := c_tokenA d hE3 hRS.1 hCI.1 hi'
    unfold told
    by_cases q : Tk i = 40
    · have hi1 : i < E := by
        by_cases k : i = E
        · rw [k, hE] at q; omega
        · omega
      rw [if_pos q]
      rw [q] at tk
      have nm := c_numberA d hE3 hRS.1 hCI.1 hi'
      by_cases v : lo ≤ Vl i ∧ Vl i ≤ hi
      · rw [if_pos v]
        have em := c_emitA d hcl (by omega : u < 300) hCI.2.1 hRS.2.1 hCI.2.2.1 hRS.2.2.2 (enc (0, Vl i))
        have q1 := QC_emit hCI (0, Vl i)
        have st := c_stepA (d + 1) hE3 (RS_TF q1.1 hRS).1 q1.2.1.1 q1.2.1.2.1 hi1
        have qz := QC_tr q1 (QC_step q1.2.1)
        exact ⟨_, rt_y _ tk nm v hb.2 em st, QR_ok qz, hi1, fun _ => by show u + 1 ≤ i + 1; omega⟩
      · rw [if_neg v]
        have fl := c_failA d hE3 hRS.1 hCI.1 hCI.2.1 hi' 2
        exact ⟨_, rt_2 _ tk nm v ⟨hb.2, by have := (hT i hi').2; omega, hb.1⟩ fl, QR_no (by decide) (QF_fail hCI 2 (by decide)), hi', fun k => absurd k (show ¬ (_ + 1 : Nat) = 0 from Nat.succ_ne_zero _)⟩
    · rw [if_neg q]
      have fl := c_failA d hE3 hRS.1 hCI.1 hCI.2.1 hi' 1
      exact ⟨_, rt_1 _ _ _ (hT i hi').1 q tk fl, QR_no (by decide) (QF_fail hCI 1 (by decide)), hi', fun k => absurd k (show ¬ (_ + 1 : Nat) = 0 from Nat.succ_ne_zero _)⟩
  · intro x f j hj hRS hF
    have tk := c_tokenA d hE3 hRS.1 hF.1 hj
    by_cases q : Tk j = 40
    · rw [q] at tk
      have nm := c_numberA d hE3 hRS.1 hF.1 hj
      by_cases v : lo ≤ Vl j ∧ Vl j ≤ hi
      · exact rt_y _ tk nm v hb.2 (c_emitF d hF.2.1 hF.2.2.2 _) (c_stepF _ hF.2.1 hF.2.2.2)
      · exact rt_2 _ tk nm v ⟨hb.2, by have := (hT j hj).2; omega, hb.1⟩ (c_failF d hF.2.1 hF.2.2.2 _)
    · exact rt_1 _ _ _ (hT j hj).1 q tk (c_failF d hF.2.1 hF.2.2.2 _)
theorem rl_run (D : Nat) {x x1 x2 x3 x4 x5 x6 x7 : qm_Hp} (h1 : qm_evM D jR_readTold [qP 6 0, qI (nI 0), qI (nI 3)] x = some (none, x1)) (h2 : qm_evM D jR_expect [qP 6 0, qI (nI 55)] x1 = some (none, x2)) (h3 : qm_evM D jR_readTold [qP 6 0, qI (nI 1), qI (nI 20)] x2 = some (none, x3)) (h4 : qm_evM D jR_expect [qP 6 0, qI (nI 55)] x3 = some (none, x4)) (h5 : qm_evM D jR_readTold [qP 6 0, qI (nI 0), qI (nI 2000)] x4 = some (none, x5)) (h6 : qm_evM D jR_expect [qP 6 0, qI (nI 29)] x5 = some (none, x6)) (h7 : qm_evM D jR_readTold [qP 6 0, qI (nI 0), qI (nI 5)] x6 = some (none, x7)) : qm_evM (D + 1) jR_readLay [qP 6 0] x = some (none, x7) := by
  simp (config := {maxSteps := 1000000}) (disch := first | omega | assumption | (simp only [qm_wid_n, qm_wid_I, qm_wid_L, qm_wid_P]; omega) | (simp only [qm_wid_n, qm_wid_I, qm_wid_L, qm_wid_P]; done) | fail) only [e_R_readLay, b_R_readLay_0, qy0, qy1, qy2, qy3, qe, qcn, qin, ↓reduceIte, Nat.reduceEqDiff, Nat.reduceLeDiff, Bool.false_eq_true, Nat.reduceAdd, Nat.reduceSub, Nat.reduceMul, Nat.reduceLT, or_self, or_false, false_or, or_true, true_or, and_self, and_true, true_and, and_false, false_and, not_true_eq_false, not_false_eq_true, h1, h2, h3, h4, h5, h6, h7]
def pLay (Tk Vl : Nat → Nat) (i : Nat) : PR := sq (sq (sq (sq (sq (sq (told Tk Vl 0 3 i) (want Tk 55)) (told Tk Vl 1 20)) (want Tk 55)) (told Tk Vl 0 2000)) (want Tk 29)) (told Tk Vl 0 5)
theorem RDR_lay {Tk Vl Pc : Nat → Nat} {E t cl a : Nat} (hE : Tk E = 41) (hE3 : E ≤ 300) (hT : ∀ i, i ≤ E → Tk i < 100 ∧ Vl i ≤ 10000) (hcl : 1 ≤ cl ∧ cl ≤ 20) (d : Nat) : RDR Tk Vl Pc E t cl a (d + 3) jR_readLay [qP 6 0] (pLay Tk Vl) := by
  have a1 := RDR_told (Pc := Pc) (t := t) (a := a) hE hE3 hT hcl d 0 3 (by decide)
  have a2 := RDR_want (Vl := Vl) (Pc := Pc) (t := t) (cl := cl) (a := a) hE hE3 hT d 55 (by decide)
  have a3 := RDR_told (Pc := Pc) (t := t) (a := a) hE hE3 hT hcl d 1 20 (by decide)
  have a5 := RDR_told (Pc := Pc) (t := t) (a := a) hE hE3 hT hcl d 0 2000 (by decide)
  have a6 := RDR_want (Vl := Vl) (Pc := Pc) (t := t) (cl := cl) (a := a) hE hE3 hT d 29 (by decide)
  have a7 := RDR_told (Pc := Pc) (t := t) (a := a) hE hE3 hT hcl d 0 5 (by decide)
  constructor
  · intro x i u hi hu hRS hCI
    obtain ⟨x1, e1, q1, b1⟩ := a1.1 x i u hi hu hRS hCI
    obtain ⟨x2, e2, q2, b2⟩ := RDR_sq a2 hRS q1 b1
    obtain ⟨x3, e3, q3, b3⟩ := RDR_sq a3 hRS q2 b2
    obtain ⟨x4, e4, q4, b4⟩ := RDR_sq a2 hRS q3 b3
    obtain ⟨x5, e5, q5, b5⟩ := RDR_sq a5 hRS q4 b4
    obtain ⟨x6, e6, q6, b6⟩ := RDR_sq a6 hRS q5 b5
    obtain ⟨x7, e7, q7, b7⟩ := RDR_sq a7 hRS q6 b6
    exact ⟨x7, rl_run _ e1 e2 e3 e4 e5 e6 e7, q7, b7⟩
  · intro x f j hj hRS hF
    exact rl_run _ (a1.2 x f j hj hRS hF) (a2.2 x f j hj hRS hF) (a3.2 x f j hj hRS hF) (a2.2 x f j hj hRS hF) (a5.2 x f j hj hRS hF) (a6.2 x f j hj hRS hF) (a7.2 x f j hj hRS hF)
theorem RDR_part {Tk Vl Pc : Nat → Nat} {E t cl a : Nat} (hE : Tk E = 41) (hE3 : E ≤ 300) (hT : ∀ i, i ≤ E → Tk i < 100 ∧ Vl i ≤ 10000) (hcl : 1 ≤ cl ∧ cl ≤ 20) (ha : a ≤ 5) (d lv : Nat) (hl : lv ≤ 5) : RDR Tk Vl Pc E t cl a (d + need lv 0) jR_readPart [qP 6 0, qI (nI lv), qI (nI 0)] (pp Tk Vl a 3020 0 lv 0) := by
  constructor
  · intro x i u hi hu hRS hCI
    have h9 := pp_fuel (Vl := Vl) (a := a) hE 3020 0 lv 0 i hi (by decide) hl (Or.inl rfl) (by rw [if_pos rfl]; omega)
    obtain ⟨x', e, r⟩ := c_pp hE hE3 hT hcl ha 3020 0 lv 0 i u x d 0 qU hi (by decide) hl (Or.inl rfl) hu (Nat.zero_le _) hRS hCI h9
    rw [if_pos rfl] at e
    have g := pp_good (Vl := Vl) (a := a) hE 3020 0 lv 0 i hi (by decide) hl (Or.inl rfl)
    refine ⟨x', e, r, ?_, fun q => by have := (g.2 q).2.1; omega⟩
    by_cases q : (pp Tk Vl a 3020 0 lv 0 i).1 = 0
    · exact (g.2 q).2.2.1
    · exact g.1 q
  · intro x f j hj hRS hF
    exact rp_f _ hF.2.1 hF.2.2.2 _ _
