/-! the machine's heap as the kit's world: cells at B0, B0 + 1, .. -/
def qm_z : qm_Hp := (fun _ _ _ => 0, fun _ _ _ => 0, fun _ _ _ => (0, 0))
def qm_cv (B0 sb sa : Nat) : qm_AV → Value
  | .inl x => .int x
  | .inr (.inl x) => .long x
  | .inr (.inr (k, i)) => if k = 0 then .null else if k = 80 then .ref sb else if k = 81 then .ref sa else .ref (B0 + qm_ad k i)
def qm_okV : qm_AV → Prop
  | .inr (.inr (k, i)) => k = 0 ∨ i < qm_cnt k
  | _ => True
def qm_fv (B0 : Nat) (h : qm_Hp) (k i f : Nat) : Value := match qm_fk k f with
  | 2 => .long (zL h k i f)
  | 3 => if zI h k i f = 0 then .null else .ref (B0 + qm_ad (qm_ft k f).1 ((qm_ft k f).2.1 * i + (qm_ft k f).2.2))
  | 4 => qm_cv B0 0 0 (qP (zP h k i f).1 (zP h k i f).2)
  | _ => .int (zI h k i f)
def qm_cell (B0 : Nat) (cs : Nat × Nat × Nat × Nat × Nat) (h : qm_Hp) (k i : Nat) : va_E :=
  if 1 ≤ k ∧ k ≤ 9 then .inr (qm_ci k, (List.range (qm_nf k)).map (qm_fv B0 h k i))
  else if k = 66 then .inl (cs.2.1, 330, .inr (.inl (fun j => zL h k i j)))
  else if k = 67 ∨ k = 76 then .inl (cs.2.2.1, qm_blen k, .inl (fun j => zI h k i j))
  else if k = 46 then .inl (cs.2.2.2.2, 5, .inr (.inr (.inr (.inr (fun j => if zI h k i j = 0 then none else some (B0 + qm_ad 3 (4 + j)))))))
  else if k = 51 then .inl (cs.2.2.2.1, 4, .inr (.inr (.inr (.inr (fun j => if zI h k i j = 0 then none else some (B0 + qm_ad 4 (0 + j)))))))
  else .inl (cs.1, qm_ilen qm_z k, .inl (fun j => zI h k i j))
def qm_W (B0 : Nat) (cs : Nat × Nat × Nat × Nat × Nat) (h : qm_Hp) : va_W := (List.range 155).map (fun q => (B0 + q, qm_cell B0 cs h (qm_desc.getD q (0, 0)).1 (qm_desc.getD q (0, 0)).2))
def qm_real (k : Nat) : Prop := k ≠ 0 ∧ k ≠ 80 ∧ k ≠ 81
theorem qm_desc_ad0 : (List.range 82).all (fun k => (List.range 10).all (fun i => !decide (i < qm_cnt k) || decide (k = 80) || decide (k = 81) || (decide (qm_ad k i < 155) && decide (qm_desc.getD (qm_ad k i) (0, 0) = (k, i))))) = true := by decide +kernel
theorem qm_desc_ad (k : Nat) (hk : k < 82) (i : Nat) (hi : i < 10) (h : i < qm_cnt k) (h80 : k ≠ 80) (h81 : k ≠ 81) : qm_ad k i < 155 ∧ qm_desc.getD (qm_ad k i) (0, 0) = (k, i) := by
  have a := List.all_eq_true.mp (List.all_eq_true.mp qm_desc_ad0 k (List.mem_range.mpr hk)) i (List.mem_range.mpr hi)
  simpa [h, h80, h81] using a
theorem qm_ad_desc : ∀ q, q < 155 → qm_ad (qm_desc.getD q (0, 0)).1 (qm_desc.getD q (0, 0)).2 = q ∧ (qm_desc.getD q (0, 0)).1 ≠ 80 := by decide +kernel
theorem qm_cnt_lt {k i : Nat} (h : i < qm_cnt k) : k < 82 ∧ i < 10 := by
  have h1 : k < 82 := by
    rcases Nat.lt_or_ge k 82 with h1 | h1
    · exact h1
    · exfalso
      have : qm_cnt k = 0 := by
        unfold qm_cnt
        split <;> first | omega | rfl
      omega
  have h2 : ∀ j, j < 82 → qm_cnt j ≤ 10 := by decide +kernel
  exact ⟨h1, Nat.lt_of_lt_of_le h (h2 k h1)⟩
theorem qm_place {k i : Nat} (h : i < qm_cnt k) (h80 : k ≠ 80) (h81 : k ≠ 81) : qm_ad k i < 155 ∧ qm_desc.getD (qm_ad k i) (0, 0) = (k, i) :=
  qm_desc_ad k (qm_cnt_lt h).1 i (qm_cnt_lt h).2 h h80 h81
theorem qm_W_at {B0 : Nat} {cs : Nat × Nat × Nat × Nat × Nat} {h : qm_Hp} {k i : Nat} (hi : i < qm_cnt k) (h80 : k ≠ 80) (h81 : k ≠ 81) : (qm_W B0 cs h)[qm_ad k i]? = some (B0 + qm_ad k i, qm_cell B0 cs h k i) := by
  obtain ⟨h1, h2⟩ := qm_place hi h80 h81
  simp only [qm_W, List.getElem?_map, List.getElem?_range h1, Option.map_some, h2]
theorem qm_ilen_z {h : qm_Hp} {k : Nat} (hk : k ≠ 80) : qm_ilen h k = qm_ilen qm_z k := by
  unfold qm_ilen
  split <;> first | rfl | exact absurd rfl hk
/-- a heap that differs in the cell (k, i) alone -/
theorem qm_W_set {B0 : Nat} {cs : Nat × Nat × Nat × Nat × Nat} {h h' : qm_Hp} {k i : Nat} {e : va_E} (hi : i < qm_cnt k) (h80 : k ≠ 80) (h81 : k ≠ 81) (he : qm_cell B0 cs h' k i = e)
    (ho : ∀ a b, ¬ (a = k ∧ b = i) → qm_cell B0 cs h' a b = qm_cell B0 cs h a b) : (qm_W B0 cs h).set (qm_ad k i) (B0 + qm_ad k i, e) = qm_W B0 cs h' := by
  obtain ⟨h1, h2⟩ := qm_place hi h80 h81
  refine List.ext_getElem? fun q => ?_
  rw [List.getElem?_set]
  by_cases hq : qm_ad k i = q
  · subst hq
    rw [if_pos rfl, if_pos (by simp [qm_W, h1]), qm_W_at hi h80 h81, he]
  · rw [if_neg hq]
    by_cases hl : q < 155
    · simp only [qm_W, List.getElem?_map, List.getElem?_range hl, Option.map_some]
      rw [ho _ _ (fun z => hq (by rw [← (qm_ad_desc q hl).1, z.1, z.2]))]
    · simp [qm_W, hl]
theorem qm_cell_congr {B0 : Nat} {cs : Nat × Nat × Nat × Nat × Nat} {h h' : qm_Hp} {a b : Nat} (e1 : ∀ c, zI h' a b c = zI h a b c) (e2 : ∀ c, zL h' a b c = zL h a b c) (e3 : ∀ c, zP h' a b c = zP h a b c) : qm_cell B0 cs h' a b = qm_cell B0 cs h a b := by
  have hI : zI h' a b = zI h a b := funext e1
  have hL : zL h' a b = zL h a b := funext e2
  have hP : zP h' a b = zP h a b := funext e3
  have hf : qm_fv B0 h' a b = qm_fv B0 h a b := by
    funext f
    unfold qm_fv
    rw [hI, hL, hP]
  unfold qm_cell
  rw [hf, hI, hL]
theorem qm_cell_uI {B0 : Nat} {cs : Nat × Nat × Nat × Nat × Nat} {h : qm_Hp} {k i j : Nat} {v : Int32} {a b : Nat} (hn : ¬ (a = k ∧ b = i)) : qm_cell B0 cs (uI h k i j v) a b = qm_cell B0 cs h a b :=
  qm_cell_congr (fun c => by rw [zI_uI, if_neg (fun z => hn ⟨z.1, z.2.1⟩)]) (fun _ => rfl) (fun _ => rfl)
theorem qm_cell_uL {B0 : Nat} {cs : Nat × Nat × Nat × Nat × Nat} {h : qm_Hp} {k i j : Nat} {v : Int64} {a b : Nat} (hn : ¬ (a = k ∧ b = i)) : qm_cell B0 cs (uL h k i j v) a b = qm_cell B0 cs h a b :=
  qm_cell_congr (fun _ => rfl) (fun c => by rw [zL_uL, if_neg (fun z => hn ⟨z.1, z.2.1⟩)]) (fun _ => rfl)
theorem qm_cell_uP {B0 : Nat} {cs : Nat × Nat × Nat × Nat × Nat} {h : qm_Hp} {k i j : Nat} {v : Nat × Nat} {a b : Nat} (hn : ¬ (a = k ∧ b = i)) : qm_cell B0 cs (uP h k i j v) a b = qm_cell B0 cs h a b :=
  qm_cell_congr (fun _ => rfl) (fun _ => rfl) (fun c => by rw [zP_uP, if_neg (fun z => hn ⟨z.1, z.2.1⟩)])
theorem qm_cell_uC {B0 : Nat} {cs : Nat × Nat × Nat × Nat × Nat} {h : qm_Hp} {q j sp k i dp n : Nat} {a b : Nat} (hn : ¬ (a = k ∧ b = i)) : qm_cell B0 cs (uC h q j sp k i dp n) a b = qm_cell B0 cs h a b :=
  qm_cell_congr (fun c => by rw [zI_uC, if_neg (fun z => hn ⟨z.1, z.2.1⟩)]) (fun _ => rfl) (fun _ => rfl)
/-- an int row's cell -/
theorem qm_cell_i {B0 : Nat} {cs : Nat × Nat × Nat × Nat × Nat} {h : qm_Hp} {k i : Nat} (hk : 0 < qm_ilen qm_z k) : qm_cell B0 cs h k i = .inl (cs.1, qm_ilen qm_z k, .inl (fun j => zI h k i j)) := by
  have h1 : ∀ k, 0 < qm_ilen qm_z k → ¬ (1 ≤ k ∧ k ≤ 9) ∧ ¬ k = 66 ∧ ¬ (k = 67 ∨ k = 76) ∧ ¬ k = 46 ∧ ¬ k = 51 := by
    intro k hk
    unfold qm_ilen at hk
    split at hk <;> first | (simp only [Nat.reduceLeDiff, Nat.reduceEqDiff, and_false, false_and, not_false_eq_true, or_self, and_self, true_and, and_true]; done) | (exfalso; simp [qm_z, zI] at hk; done)
  obtain ⟨a, b, c, d, e⟩ := h1 k hk
  rw [qm_cell, if_neg a, if_neg b, if_neg c, if_neg d, if_neg e]
theorem qm_cell_l {B0 : Nat} {cs : Nat × Nat × Nat × Nat × Nat} {h : qm_Hp} {i : Nat} : qm_cell B0 cs h 66 i = .inl (cs.2.1, 330, .inr (.inl (fun j => zL h 66 i j))) := rfl
theorem qm_cell_b {B0 : Nat} {cs : Nat × Nat × Nat × Nat × Nat} {h : qm_Hp} {k i : Nat} (hk : k = 67 ∨ k = 76) : qm_cell B0 cs h k i = .inl (cs.2.2.1, qm_blen k, .inl (fun j => zI h k i j)) := by
  rcases hk with rfl | rfl <;> rfl
theorem qm_cell_o {B0 : Nat} {cs : Nat × Nat × Nat × Nat × Nat} {h : qm_Hp} {k i : Nat} (hk : 1 ≤ k ∧ k ≤ 9) : qm_cell B0 cs h k i = .inr (qm_ci k, (List.range (qm_nf k)).map (qm_fv B0 h k i)) := by
  rw [qm_cell, if_pos hk]
def qm_clss : List vw_C := [(RX0, TX0, 3), (RX1, TX1, 13), (RX2, TX2, 6), (RX3, TX3, 5), (RX4, TX4, 7), (RX5, TX5, 4), (RX6, TX6, 13), (RX7, TX7, 15), (RX8, TX8, 37)]
def qm_tys (cs : Nat × Nat × Nat × Nat × Nat) : List (ClassId × FieldType) := [(cs.1, .int), (cs.2.1, .long), (cs.2.2.1, .boolean), (cs.2.2.2.1, .object "WoodStack$Text"), (cs.2.2.2.2, .object "WoodStack$Pile")]
theorem qm_clss_at {k : Nat} (hk : 1 ≤ k ∧ k ≤ 9) : qm_clss[qm_ci k]? = some (qm_R k, qm_T k, qm_nf k) := by
  have h : k = 1 ∨ k = 2 ∨ k = 3 ∨ k = 4 ∨ k = 5 ∨ k = 6 ∨ k = 7 ∨ k = 8 ∨ k = 9 := by omega
  rcases h with rfl | rfl | rfl | rfl | rfl | rfl | rfl | rfl | rfl <;> rfl
/-- the locals -/
def qm_lv (B0 sb sa : Nat) : Nat → List qm_AV → List (Nat × Value)
  | _, [] => []
  | j, .inr (.inr (k, i)) :: r => if k = 99 then qm_lv B0 sb sa (j + 1) r else (j, qm_cv B0 sb sa (qP k i)) :: qm_lv B0 sb sa (j + 1) r
  | j, v :: r => (j, qm_cv B0 sb sa v) :: qm_lv B0 sb sa (j + 1) r
theorem qm_lv_mem {B0 sb sa : Nat} : ∀ {ls : List qm_AV} {j : Nat} {q : Nat × Value}, q ∈ qm_lv B0 sb sa j ls ↔ ∃ (n : Nat) (v : qm_AV), ls[n]? = some v ∧ (∀ i, v ≠ qP 99 i) ∧ q = (j + n, qm_cv B0 sb sa v)
  | [], j, q => by simp [qm_lv]
  | v :: r, j, q => by
    have ih := @qm_lv_mem B0 sb sa r (j + 1) q
    have key : (∃ (n : Nat) (w : qm_AV), (v :: r)[n]? = some w ∧ (∀ i, w ≠ qP 99 i) ∧ q = (j + n, qm_cv B0 sb sa w)) ↔ ((∀ i, v ≠ qP 99 i) ∧ q = (j, qm_cv B0 sb sa v)) ∨ q ∈ qm_lv B0 sb sa (j + 1) r := by
      rw [ih]
      constructor
      · rintro ⟨n, w, h1, h2, h3⟩
        cases n with
        | zero => simp at h1; subst h1; exact Or.inl ⟨h2, h3⟩
        | succ n => exact Or.inr ⟨n, w, by simpa using h1, h2, by rw [h3]; congr 1; omega⟩
      · rintro (⟨h2, h3⟩ | ⟨n, w, h1, h2, h3⟩)
        · exact ⟨0, v, rfl, h2, h3⟩
        · exact ⟨n + 1, w, by simpa using h1, h2, by rw [h3]; congr 1; omega⟩
    rw [key]
    rcases v with x | x | ⟨k, i⟩
    · simp [qm_lv]
    · simp [qm_lv]
    · by_cases hk : k = 99
      · subst hk
        simp [qm_lv]
      · simp [qm_lv, hk]
