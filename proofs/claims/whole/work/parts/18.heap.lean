theorem ik_0 : qm_Tb (Cond.methodLink (qm_cls 7) 63 Lib.Math.max.name) := ⟨qm_in1 131 rfl, rfl⟩
theorem ik_1 : qm_Tb (Cond.methodLink (qm_cls 7) 57 Lib.Math.min.name) := ⟨qm_in1 128 rfl, rfl⟩
theorem ik_2 : qm_Tb (Cond.methodLink (qm_cls 7) 350 arraycopyName) := ⟨qm_in4 160 rfl, rfl⟩
theorem ik_3 : qm_Tb (Cond.methodLink (qm_cls 0) 79 Lib.Math.max.name) := ⟨qm_in3 202 rfl, rfl⟩
theorem ik_4 : qm_Tb (Cond.methodLink (qm_cls 0) 106 Lib.Math.abs.name) := ⟨qm_in4 33 rfl, rfl⟩
theorem ik_5 : qm_Tb (Cond.methodLink (qm_cls 0) 174 Lib.MathLoose.min_long.x) := ⟨qm_in3 190 rfl, rfl⟩
theorem ik_6 : qm_Tb (Cond.methodLink (qm_cls 0) 178 Lib.MathLoose.max_long.x) := ⟨qm_in3 193 rfl, rfl⟩
theorem ik_7 : qm_Tb (Cond.methodLink (qm_cls 0) 180 Lib.Math.min.name) := ⟨qm_in3 201 rfl, rfl⟩
theorem ik_8 : qm_Tb (Cond.methodLink (qm_cls 1) 52 arraycopyName) := ⟨qm_in4 74 rfl, rfl⟩
theorem ik_9 : qm_Tb (Cond.methodLink (qm_cls 1) 78 Lib.Math.max.name) := ⟨qm_in3 232 rfl, rfl⟩
theorem ik_10 : qm_Tb (Cond.methodLink (qm_cls 3) 70 arraycopyName) := ⟨qm_in4 85 rfl, rfl⟩
theorem ik_13 : qm_Tb (Cond.methodLink (qm_cls 5) 61 Lib.Math.min.name) := ⟨qm_in3 21 rfl, rfl⟩
theorem ik_14 : qm_Tb (Cond.methodLink (qm_cls 6) 63 arraycopyName) := ⟨qm_in4 186 rfl, rfl⟩
theorem is_81 : qm_Tb (Cond.static Lib.Math.max.name) := ⟨qm_in1 132 rfl, rfl⟩
theorem icw_81 : qm_Tb (Cond.code Lib.Math.max.name Lib.Math.max.code 2 (some .int)) := ⟨qm_in1 133 rfl, rfl⟩
theorem is_82 : qm_Tb (Cond.static Lib.Math.min.name) := ⟨qm_in1 129 rfl, rfl⟩
theorem icw_82 : qm_Tb (Cond.code Lib.Math.min.name Lib.Math.min.code 2 (some .int)) := ⟨qm_in1 130 rfl, rfl⟩
theorem is_83 : qm_Tb (Cond.static Lib.Math.abs.name) := ⟨qm_in4 34 rfl, rfl⟩
theorem icw_83 : qm_Tb (Cond.code Lib.Math.abs.name Lib.Math.abs.code 1 (some .int)) := ⟨qm_in4 35 rfl, rfl⟩
theorem is_84 : qm_Tb (Cond.static Lib.MathLoose.max_long.x) := ⟨qm_in3 194 rfl, rfl⟩
theorem icw_84 : qm_Tb (Cond.code Lib.MathLoose.max_long.x Lib.MathLoose.max_long.code 4 (some .long)) := ⟨qm_in3 195 rfl, rfl⟩
theorem is_85 : qm_Tb (Cond.static Lib.MathLoose.min_long.x) := ⟨qm_in3 191 rfl, rfl⟩
theorem icw_85 : qm_Tb (Cond.code Lib.MathLoose.min_long.x Lib.MathLoose.min_long.code 4 (some .long)) := ⟨qm_in3 192 rfl, rfl⟩
theorem is_86 : qm_Tb (Cond.static arraycopyName) := ⟨qm_in4 75 rfl, rfl⟩
theorem in_86 : qm_Tb (Cond.native arraycopyName) := ⟨qm_in4 76 rfl, rfl⟩
theorem ii_M : qm_Tb (Cond.initialized "java/lang/Math") := ⟨qm_in1 6 rfl, rfl⟩
theorem ii_S : qm_Tb (Cond.initialized "java/lang/System") := ⟨qm_in1 15 rfl, rfl⟩
theorem il_ok_81 : ∀ e ∈ qm_ilk, e.2.2 = 81 → qm_Tb (Cond.methodLink (qm_cls e.1) e.2.1 Lib.Math.max.name) := by
  unfold qm_ilk
  refine List.forall_mem_cons.mpr ⟨fun z => ik_0, ?_⟩
  refine List.forall_mem_cons.mpr ⟨fun z => absurd z (by decide), ?_⟩
  refine List.forall_mem_cons.mpr ⟨fun z => absurd z (by decide), ?_⟩
  refine List.forall_mem_cons.mpr ⟨fun z => ik_3, ?_⟩
  refine List.forall_mem_cons.mpr ⟨fun z => absurd z (by decide), ?_⟩
  refine List.forall_mem_cons.mpr ⟨fun z => absurd z (by decide), ?_⟩
  refine List.forall_mem_cons.mpr ⟨fun z => absurd z (by decide), ?_⟩
  refine List.forall_mem_cons.mpr ⟨fun z => absurd z (by decide), ?_⟩
  refine List.forall_mem_cons.mpr ⟨fun z => absurd z (by decide), ?_⟩
  refine List.forall_mem_cons.mpr ⟨fun z => ik_9, ?_⟩
  refine List.forall_mem_cons.mpr ⟨fun z => absurd z (by decide), ?_⟩
  refine List.forall_mem_cons.mpr ⟨fun z => absurd z (by decide), ?_⟩
  refine List.forall_mem_cons.mpr ⟨fun z => absurd z (by decide), ?_⟩
  refine List.forall_mem_cons.mpr ⟨fun z => absurd z (by decide), ?_⟩
  refine List.forall_mem_cons.mpr ⟨fun z => absurd z (by decide), ?_⟩
  exact fun _ h => absurd h List.not_mem_nil
theorem il_ok_82 : ∀ e ∈ qm_ilk, e.2.2 = 82 → qm_Tb (Cond.methodLink (qm_cls e.1) e.2.1 Lib.Math.min.name) := by
  unfold qm_ilk
  refine List.forall_mem_cons.mpr ⟨fun z => absurd z (by decide), ?_⟩
  refine List.forall_mem_cons.mpr ⟨fun z => ik_1, ?_⟩
  refine List.forall_mem_cons.mpr ⟨fun z => absurd z (by decide), ?_⟩
  refine List.forall_mem_cons.mpr ⟨fun z => absurd z (by decide), ?_⟩
  refine List.forall_mem_cons.mpr ⟨fun z => absurd z (by decide), ?_⟩
  refine List.forall_mem_cons.mpr ⟨fun z => absurd z (by decide), ?_⟩
  refine List.forall_mem_cons.mpr ⟨fun z => absurd z (by decide), ?_⟩
  refine List.forall_mem_cons.mpr ⟨fun z => ik_7, ?_⟩
  refine List.forall_mem_cons.mpr ⟨fun z => absurd z (by decide), ?_⟩
  refine List.forall_mem_cons.mpr ⟨fun z => absurd z (by decide), ?_⟩
  refine List.forall_mem_cons.mpr ⟨fun z => absurd z (by decide), ?_⟩
  refine List.forall_mem_cons.mpr ⟨fun z => absurd z (by decide), ?_⟩
  refine List.forall_mem_cons.mpr ⟨fun z => absurd z (by decide), ?_⟩
  refine List.forall_mem_cons.mpr ⟨fun z => ik_13, ?_⟩
  refine List.forall_mem_cons.mpr ⟨fun z => absurd z (by decide), ?_⟩
  exact fun _ h => absurd h List.not_mem_nil
theorem il_ok_83 : ∀ e ∈ qm_ilk, e.2.2 = 83 → qm_Tb (Cond.methodLink (qm_cls e.1) e.2.1 Lib.Math.abs.name) := by
  unfold qm_ilk
  refine List.forall_mem_cons.mpr ⟨fun z => absurd z (by decide), ?_⟩
  refine List.forall_mem_cons.mpr ⟨fun z => absurd z (by decide), ?_⟩
  refine List.forall_mem_cons.mpr ⟨fun z => absurd z (by decide), ?_⟩
  refine List.forall_mem_cons.mpr ⟨fun z => absurd z (by decide), ?_⟩
  refine List.forall_mem_cons.mpr ⟨fun z => ik_4, ?_⟩
  refine List.forall_mem_cons.mpr ⟨fun z => absurd z (by decide), ?_⟩
  refine List.forall_mem_cons.mpr ⟨fun z => absurd z (by decide), ?_⟩
  refine List.forall_mem_cons.mpr ⟨fun z => absurd z (by decide), ?_⟩
  refine List.forall_mem_cons.mpr ⟨fun z => absurd z (by decide), ?_⟩
  refine List.forall_mem_cons.mpr ⟨fun z => absurd z (by decide), ?_⟩
  refine List.forall_mem_cons.mpr ⟨fun z => absurd z (by decide), ?_⟩
  refine List.forall_mem_cons.mpr ⟨fun z => absurd z (by decide), ?_⟩
  refine List.forall_mem_cons.mpr ⟨fun z => absurd z (by decide), ?_⟩
  refine List.forall_mem_cons.mpr ⟨fun z => absurd z (by decide), ?_⟩
  refine List.forall_mem_cons.mpr ⟨fun z => absurd z (by decide), ?_⟩
  exact fun _ h => absurd h List.not_mem_nil
theorem il_ok_84 : ∀ e ∈ qm_ilk, e.2.2 = 84 → qm_Tb (Cond.methodLink (qm_cls e.1) e.2.1 Lib.MathLoose.max_long.x) := by
  unfold qm_ilk
  refine List.forall_mem_cons.mpr ⟨fun z => absurd z (by decide), ?_⟩
  refine List.forall_mem_cons.mpr ⟨fun z => absurd z (by decide), ?_⟩
  refine List.forall_mem_cons.mpr ⟨fun z => absurd z (by decide), ?_⟩
  refine List.forall_mem_cons.mpr ⟨fun z => absurd z (by decide), ?_⟩
  refine List.forall_mem_cons.mpr ⟨fun z => absurd z (by decide), ?_⟩
  refine List.forall_mem_cons.mpr ⟨fun z => absurd z (by decide), ?_⟩
  refine List.forall_mem_cons.mpr ⟨fun z => ik_6, ?_⟩
  refine List.forall_mem_cons.mpr ⟨fun z => absurd z (by decide), ?_⟩
  refine List.forall_mem_cons.mpr ⟨fun z => absurd z (by decide), ?_⟩
  refine List.forall_mem_cons.mpr ⟨fun z => absurd z (by decide), ?_⟩
  refine List.forall_mem_cons.mpr ⟨fun z => absurd z (by decide), ?_⟩
  refine List.forall_mem_cons.mpr ⟨fun z => absurd z (by decide), ?_⟩
  refine List.forall_mem_cons.mpr ⟨fun z => absurd z (by decide), ?_⟩
  refine List.forall_mem_cons.mpr ⟨fun z => absurd z (by decide), ?_⟩
  refine List.forall_mem_cons.mpr ⟨fun z => absurd z (by decide), ?_⟩
  exact fun _ h => absurd h List.not_mem_nil
theorem il_ok_85 : ∀ e ∈ qm_ilk, e.2.2 = 85 → qm_Tb (Cond.methodLink (qm_cls e.1) e.2.1 Lib.MathLoose.min_long.x) := by
  unfold qm_ilk
  refine List.forall_mem_cons.mpr ⟨fun z => absurd z (by decide), ?_⟩
  refine List.forall_mem_cons.mpr ⟨fun z => absurd z (by decide), ?_⟩
  refine List.forall_mem_cons.mpr ⟨fun z => absurd z (by decide), ?_⟩
  refine List.forall_mem_cons.mpr ⟨fun z => absurd z (by decide), ?_⟩
  refine List.forall_mem_cons.mpr ⟨fun z => absurd z (by decide), ?_⟩
  refine List.forall_mem_cons.mpr ⟨fun z => ik_5, ?_⟩
  refine List.forall_mem_cons.mpr ⟨fun z => absurd z (by decide), ?_⟩
  refine List.forall_mem_cons.mpr ⟨fun z => absurd z (by decide), ?_⟩
  refine List.forall_mem_cons.mpr ⟨fun z => absurd z (by decide), ?_⟩
  refine List.forall_mem_cons.mpr ⟨fun z => absurd z (by decide), ?_⟩
  refine List.forall_mem_cons.mpr ⟨fun z => absurd z (by decide), ?_⟩
  refine List.forall_mem_cons.mpr ⟨fun z => absurd z (by decide), ?_⟩
  refine List.forall_mem_cons.mpr ⟨fun z => absurd z (by decide), ?_⟩
  refine List.forall_mem_cons.mpr ⟨fun z => absurd z (by decide), ?_⟩
  refine List.forall_mem_cons.mpr ⟨fun z => absurd z (by decide), ?_⟩
  exact fun _ h => absurd h List.not_mem_nil
theorem il_ok_86 : ∀ e ∈ qm_ilk, e.2.2 = 86 → qm_Tb (Cond.methodLink (qm_cls e.1) e.2.1 arraycopyName) := by
  unfold qm_ilk
  refine List.forall_mem_cons.mpr ⟨fun z => absurd z (by decide), ?_⟩
  refine List.forall_mem_cons.mpr ⟨fun z => absurd z (by decide), ?_⟩
  refine List.forall_mem_cons.mpr ⟨fun z => ik_2, ?_⟩
  refine List.forall_mem_cons.mpr ⟨fun z => absurd z (by decide), ?_⟩
  refine List.forall_mem_cons.mpr ⟨fun z => absurd z (by decide), ?_⟩
  refine List.forall_mem_cons.mpr ⟨fun z => absurd z (by decide), ?_⟩
  refine List.forall_mem_cons.mpr ⟨fun z => absurd z (by decide), ?_⟩
  refine List.forall_mem_cons.mpr ⟨fun z => absurd z (by decide), ?_⟩
  refine List.forall_mem_cons.mpr ⟨fun z => ik_8, ?_⟩
  refine List.forall_mem_cons.mpr ⟨fun z => absurd z (by decide), ?_⟩
  refine List.forall_mem_cons.mpr ⟨fun z => ik_10, ?_⟩
  refine List.forall_mem_cons.mpr ⟨fun z => absurd z (by decide), ?_⟩
  refine List.forall_mem_cons.mpr ⟨fun z => absurd z (by decide), ?_⟩
  refine List.forall_mem_cons.mpr ⟨fun z => absurd z (by decide), ?_⟩
  refine List.forall_mem_cons.mpr ⟨fun z => ik_14, ?_⟩
  exact fun _ h => absurd h List.not_mem_nil
theorem kc_0 : qm_Tb (Cond.constant (qm_cls 7) 267 (Int32.ofInt (-100000))) := ⟨qm_in4 16 rfl, rfl⟩
theorem kc_1 : qm_Tb (Cond.constant (qm_cls 7) 340 (Int32.ofInt (999999))) := ⟨qm_in4 147 rfl, rfl⟩
theorem kc_2 : qm_Tb (Cond.constant (qm_cls 8) 132 (Int32.ofInt (100000))) := ⟨qm_in5 169 rfl, rfl⟩
theorem kc_3 : qm_Tb (Cond.constant (qm_cls 8) 346 (Int32.ofInt (-100000))) := ⟨qm_in6 146 rfl, rfl⟩
theorem kc_4 : qm_Tb (Cond.constant (qm_cls 8) 400 (Int32.ofInt (999999))) := ⟨qm_in6 238 rfl, rfl⟩
theorem qm_clk_ok : ∀ e ∈ qm_clk, qm_Tb (Cond.constant (qm_cls e.1) e.2.1 (Int32.ofInt e.2.2)) := (List.forall_mem_cons.mpr ⟨kc_0, (List.forall_mem_cons.mpr ⟨kc_1, (List.forall_mem_cons.mpr ⟨kc_2, (List.forall_mem_cons.mpr ⟨kc_3, (List.forall_mem_cons.mpr ⟨kc_4, (fun _ h => absurd h List.not_mem_nil)⟩)⟩)⟩)⟩)⟩)
theorem kl_0 : qm_Tb (Cond.constantLong (qm_cls 8) 210 (Int64.ofInt (28530))) := ⟨qm_in5 237 rfl, rfl⟩
theorem kl_1 : qm_Tb (Cond.constantLong (qm_cls 8) 247 (Int64.ofInt (28526))) := ⟨qm_in5 209 rfl, rfl⟩
theorem kl_2 : qm_Tb (Cond.constantLong (qm_cls 8) 271 (Int64.ofInt (1000000))) := ⟨qm_in6 92 rfl, rfl⟩
theorem kl_3 : qm_Tb (Cond.constantLong (qm_cls 8) 273 (Int64.ofInt (-1000000))) := ⟨qm_in6 93 rfl, rfl⟩
theorem kl_4 : qm_Tb (Cond.constantLong (qm_cls 8) 321 (Int64.ofInt (1000))) := ⟨qm_in6 136 rfl, rfl⟩
theorem kl_5 : qm_Tb (Cond.constantLong (qm_cls 8) 323 (Int64.ofInt (785))) := ⟨qm_in6 137 rfl, rfl⟩
theorem kl_6 : qm_Tb (Cond.constantLong (qm_cls 0) 84 (Int64.ofInt (1000))) := ⟨qm_in4 6 rfl, rfl⟩
theorem kl_7 : qm_Tb (Cond.constantLong (qm_cls 0) 86 (Int64.ofInt (785))) := ⟨qm_in4 7 rfl, rfl⟩
theorem kl_8 : qm_Tb (Cond.constantLong (qm_cls 0) 170 (Int64.ofInt (-1000000))) := ⟨qm_in3 196 rfl, rfl⟩
theorem kl_9 : qm_Tb (Cond.constantLong (qm_cls 0) 172 (Int64.ofInt (1000000))) := ⟨qm_in3 197 rfl, rfl⟩
theorem qm_llk_ok : ∀ e ∈ qm_llk, qm_Tb (Cond.constantLong (qm_cls e.1) e.2.1 (Int64.ofInt e.2.2)) := (List.forall_mem_cons.mpr ⟨kl_0, (List.forall_mem_cons.mpr ⟨kl_1, (List.forall_mem_cons.mpr ⟨kl_2, (List.forall_mem_cons.mpr ⟨kl_3, (List.forall_mem_cons.mpr ⟨kl_4, (List.forall_mem_cons.mpr ⟨kl_5, (List.forall_mem_cons.mpr ⟨kl_6, (List.forall_mem_cons.mpr ⟨kl_7, (List.forall_mem_cons.mpr ⟨kl_8, (List.forall_mem_cons.mpr ⟨kl_9, (fun _ h => absurd h List.not_mem_nil)⟩)⟩)⟩)⟩)⟩)⟩)⟩)⟩)⟩)⟩)
theorem qm_wid_cat {B0 sb sa : Nat} : ∀ (r : List qm_AV), ((r.map (qm_cv B0 sb sa)).map fun v => v.category).sum = qm_wid r
  | [] => rfl
  | v :: r => by
    have ih := qm_wid_cat (B0 := B0) (sb := sb) (sa := sa) r
    simp only [List.map_cons, List.sum_cons, ih, qm_cv_cat, qm_wid]
theorem qm_flk_sane {e : Nat × Nat × Nat × Nat} (h : e ∈ qm_flk) : (1 ≤ e.2.2.1 ∧ e.2.2.1 ≤ 9) ∧ e.2.2.2 < qm_nf e.2.2.1 ∧ (qm_T e.2.2.1 e.2.2.2).1 = qm_R e.2.2.1 := by
  have h1 := List.all_eq_true.mp qm_flk_ty e h
  simp only [Bool.and_eq_true, decide_eq_true_eq] at h1
  exact ⟨h1.1.1, h1.1.2, h1.2⟩
theorem qm_nf_le {k : Nat} : qm_nf k ≤ 37 := by
  unfold qm_nf
  split <;> omega
theorem qm_fields_set {B0 : Nat} {h h' : qm_Hp} {k i f : Nat} {v : Value} (hf : f < qm_nf k) (hv : qm_fv B0 h' k i f = v) (ho : ∀ g, g ≠ f → qm_fv B0 h' k i g = qm_fv B0 h k i g) : ((List.range (qm_nf k)).map (qm_fv B0 h k i)).set f v = (List.range (qm_nf k)).map (qm_fv B0 h' k i) := by
  refine List.ext_getElem? fun q => ?_
  rw [List.getElem?_set]
  by_cases hq : f = q
  · subst hq
    rw [if_pos rfl, if_pos (by simpa using hf)]
    simp [hf, hv]
  · rw [if_neg hq]
    by_cases hl : q < qm_nf k
    · simp [hl, ho q (fun z => hq z.symm)]
    · simp [hl]
theorem qm_cnt_real {k i : Nat} (h : i < qm_cnt k) : k ≠ 82 ∧ k ≠ 0 := by
  have h1 := (qm_cnt_lt h).1
  refine ⟨by omega, fun z => ?_⟩
  subst z
  exact absurd h (Nat.not_lt_zero _)
theorem qm_ilen_pos {k : Nat} (h : 0 < qm_ilen qm_z k) : k ≠ 0 ∧ k ≠ 81 ∧ k ≠ 80 := by
  refine ⟨fun z => ?_, fun z => ?_, fun z => ?_⟩ <;> (subst z; exact absurd h (by decide))
theorem qm_fk_arr {k j : Nat} (h : 10 ≤ k) : qm_fk k j ≠ 3 := by
  have hz : (([] : List Nat) :: qm_fks).getD k [] = [] := qk_getD _ _ (Nat.le_trans (show (([] : List Nat) :: qm_fks).length ≤ 10 by decide) h)
  unfold qm_fk
  rw [hz]
  exact (by decide : (9 : Nat) ≠ 3)
theorem qm_arr_ge {k : Nat} (h : 0 < qm_ilen qm_z k) : 10 ≤ k := by
  rcases Nat.lt_or_ge k 10 with h1 | h1
  · exfalso
    have h2 : ∀ j, j < 10 → qm_ilen qm_z j = 0 := by decide
    rw [h2 k h1] at h
    exact absurd h (Nat.lt_irrefl _)
  · exact h1
theorem qm_rlen_0 {k : Nat} (h : 0 < qm_ilen qm_z k) : qm_rlen k = 0 := by
  unfold qm_rlen
  split
  · exact absurd h (by decide)
  · exact absurd h (by decide)
  · rfl
theorem qm_rlen_o {k : Nat} (h : k ≤ 9) : qm_rlen k = 0 := by
  have h2 : ∀ j, j < 10 → qm_rlen j = 0 := by decide
  exact h2 k (by omega)
theorem qm_okV_lt {k i : Nat} (h : qm_okV (qP k i)) (h0 : k ≠ 0) : i < qm_cnt k := h.resolve_left h0
section QSH
variable {p : Program} {l : Launch} {e : Env} {R : Room} {s : State} {m : MethodId} {args : Array Value} {below : List Frame} {meth : Method} {c : Code} {cells slots : Nat} {Q : State → Prop} {H : Heap} {locs : List Loc}
variable {d B0 sb sa sv L mi : Nat} {xs : Nat → Int32} {dC : Nat → ClassId} {dI : Nat → Nat → Nat} {cs : Nat × Nat × Nat × Nat × Nat} {pc n : Nat} {als : Array Slot} {ls st ls' st' : List qm_AV} {h h' : qm_Hp} {x : Instr}
theorem qm_Wd.wI (hw : qm_Wd s B0 L xs dC dI cs h H locs) {k i j : Nat} {v : Int32} {e1 : va_E} {H1 : Heap} {locs1 : List Loc} (hi : i < qm_cnt k) (h80 : k ≠ 80) (h81 : k ≠ 81) (hf3 : qm_fk k j ≠ 3 ∧ qm_rlen k = 0) (he : qm_cell B0 cs (uI h k i j v) k i = e1)
    (p1 : va_P (dC, dI) qm_clss ((qm_W B0 cs h).set (qm_ad k i) (B0 + qm_ad k i, e1)) H1) (p2 : va_D (fun q => B0 ≤ q) ((qm_W B0 cs h).set (qm_ad k i) (B0 + qm_ad k i, e1))) (p3 : va_S (fun q => B0 ≤ q) s.heap H1 locs1) : qm_Wd s B0 L xs dC dI cs (uI h k i j v) H1 locs1 := by
  rw [qm_W_set hi h80 h81 he (fun a b hn => qm_cell_uI hn)] at p1 p2
  refine ⟨p1, p2, p3, ⟨hw.2.2.2.1.1, hw.2.2.2.1.2.1, fun a b f h3 hb => ?_⟩, fun a ha => ?_, ?_⟩
  · rw [zI_uI, if_neg (fun z => by
      rw [z.1, z.2.2] at h3
      rcases h3 with h3 | h3
      · exact hf3.1 h3
      · rw [hf3.2] at h3; exact absurd h3 (Nat.not_lt_zero _))]
    exact hw.2.2.2.1.2.2 a b f h3 hb
  · rw [zI_uI, if_neg (fun z => h80 z.1.symm)]
    exact hw.2.2.2.2.1 a ha
  · rw [zI_uI, if_neg (fun z => (qm_cnt_real hi).1 z.1.symm)]
    exact hw.2.2.2.2.2
theorem qm_Wd.wL (hw : qm_Wd s B0 L xs dC dI cs h H locs) {k i j : Nat} {v : Int64} {e1 : va_E} {H1 : Heap} {locs1 : List Loc} (hi : i < qm_cnt k) (h80 : k ≠ 80) (h81 : k ≠ 81) (he : qm_cell B0 cs (uL h k i j v) k i = e1)
    (p1 : va_P (dC, dI) qm_clss ((qm_W B0 cs h).set (qm_ad k i) (B0 + qm_ad k i, e1)) H1) (p2 : va_D (fun q => B0 ≤ q) ((qm_W B0 cs h).set (qm_ad k i) (B0 + qm_ad k i, e1))) (p3 : va_S (fun q => B0 ≤ q) s.heap H1 locs1) : qm_Wd s B0 L xs dC dI cs (uL h k i j v) H1 locs1 := by
  rw [qm_W_set hi h80 h81 he (fun a b hn => qm_cell_uL hn)] at p1 p2
  exact ⟨p1, p2, p3, hw.2.2.2.1, hw.2.2.2.2.1, hw.2.2.2.2.2⟩
theorem qm_Wd.wP (hw : qm_Wd s B0 L xs dC dI cs h H locs) {k i j : Nat} {v : Nat × Nat} {e1 : va_E} {H1 : Heap} {locs1 : List Loc} (hi : i < qm_cnt k) (h80 : k ≠ 80) (h81 : k ≠ 81) (hv : qm_okP v) (he : qm_cell B0 cs (uP h k i j v) k i = e1)
    (p1 : va_P (dC, dI) qm_clss ((qm_W B0 cs h).set (qm_ad k i) (B0 + qm_ad k i, e1)) H1) (p2 : va_D (fun q => B0 ≤ q) ((qm_W B0 cs h).set (qm_ad k i) (B0 + qm_ad k i, e1))) (p3 : va_S (fun q => B0 ≤ q) s.heap H1 locs1) : qm_Wd s B0 L xs dC dI cs (uP h k i j v) H1 locs1 := by
  rw [qm_W_set hi h80 h81 he (fun a b hn => qm_cell_uP hn)] at p1 p2
  refine ⟨p1, p2, p3, ⟨?_, ?_, hw.2.2.2.1.2.2⟩, hw.2.2.2.2.1, hw.2.2.2.2.2⟩
  · rw [zP_uP]; split
    · exact hv
    · exact hw.2.2.2.1.1
  · rw [zP_uP]; split
    · exact hv
    · exact hw.2.2.2.1.2.1
theorem qm_Wd.wC (hw : qm_Wd s B0 L xs dC dI cs h H locs) {a b sp k i dp z : Nat} {e1 : va_E} {H1 : Heap} {locs1 : List Loc} (hi : i < qm_cnt k) (h80 : k ≠ 80) (h81 : k ≠ 81) (hk10 : 10 ≤ k ∧ qm_rlen k = 0) (he : qm_cell B0 cs (uC h a b sp k i dp z) k i = e1)
    (p1 : va_P (dC, dI) qm_clss ((qm_W B0 cs h).set (qm_ad k i) (B0 + qm_ad k i, e1)) H1) (p2 : va_D (fun q => B0 ≤ q) ((qm_W B0 cs h).set (qm_ad k i) (B0 + qm_ad k i, e1))) (p3 : va_S (fun q => B0 ≤ q) s.heap H1 locs1) : qm_Wd s B0 L xs dC dI cs (uC h a b sp k i dp z) H1 locs1 := by
  rw [qm_W_set hi h80 h81 he (fun a b hn => qm_cell_uC hn)] at p1 p2
  refine ⟨p1, p2, p3, ⟨hw.2.2.2.1.1, hw.2.2.2.1.2.1, fun a b f h3 hb => ?_⟩, fun a ha => ?_, ?_⟩
  · rw [zI_uC, if_neg (fun z => by
      rw [z.1] at h3
      rcases h3 with h3 | h3
      · exact qm_fk_arr hk10.1 h3
      · rw [hk10.2] at h3; exact absurd h3 (Nat.not_lt_zero _))]
    exact hw.2.2.2.1.2.2 a b f h3 hb
  · rw [zI_uC, if_neg (fun z => h80 z.1.symm)]
    exact hw.2.2.2.2.1 a ha
  · rw [zI_uC, if_neg (fun z => (qm_cnt_real hi).1 z.1.symm)]
    exact hw.2.2.2.2.2
theorem qm_getrow (X : qm_Cx p R s m args c cells slots d mi B0 sb sa sv L xs dC dI cs) (hw : qm_Wd s B0 L xs dC dI cs h H locs) {k i f idx : Nat} (hm : (mN mi, idx, k, f) ∈ qm_flk) (hi : i < qm_cnt k) (hd : decode (mC mi) pc = .ok (.getfield idx, 3)) {rest : List Value} (kk : W p l e R s m args below meth c H locs cells slots Q (F0 m (pc + 3) als (qm_fv B0 h k i f :: rest))) : W p l e R s m args below meth c H locs cells slots Q (F0 m pc als (.ref (B0 + qm_ad k i) :: rest)) := by
  obtain ⟨h19, hf, hT⟩ := qm_flk_sane hm
  have h19 : 1 ≤ k ∧ k ≤ 9 := h19
  have h80 : k ≠ 80 := by omega
  have h81 : k ≠ 81 := by omega
  have he := qm_W_at (B0 := B0) (cs := cs) (h := h) hi h80 h81
  rw [qm_cell_o h19] at he
  exact va_get X.1 X.2.1 X.2.2.2.2.1 (qm_lay_in h19) X.2.2.2.1 X.2.2.2.2.2.1.1 hw.1 (qm_ad k i) he (qm_clss_at h19) f hf (X.2.2.2.2.1 _ (qm_flk_ok _ hm).tb) (fun x hx => by
    have hT : (qm_T k f).1 = qm_R k := hT
    rw [hT] at hx; exact hx) (by simp [hf]) hd kk
theorem qm_putrow (X : qm_Cx p R s m args c cells slots d mi B0 sb sa sv L xs dC dI cs) (hw : qm_Wd s B0 L xs dC dI cs h H locs) {k i f idx : Nat} {v : Value} {ty : FieldType} (hm : (mN mi, idx, k, f) ∈ qm_flk) (hi : i < qm_cnt k) (hfin : (qm_T k f).2.2.2 = false) (hty : qm_Ty k f = ty) (hn : narrow ty v = v) (hfit : fits ty v = true) (hd : decode (mC mi) pc = .ok (.putfield idx, 3)) {rest : List Value}
    (kk : ∀ (H1 : Heap) (locs1 : List Loc), va_P (dC, dI) qm_clss ((qm_W B0 cs h).set (qm_ad k i) (B0 + qm_ad k i, .inr (qm_ci k, ((List.range (qm_nf k)).map (qm_fv B0 h k i)).set f v))) H1 → va_D (fun q => B0 ≤ q) ((qm_W B0 cs h).set (qm_ad k i) (B0 + qm_ad k i, .inr (qm_ci k, ((List.range (qm_nf k)).map (qm_fv B0 h k i)).set f v))) → va_S (fun q => B0 ≤ q) s.heap H1 locs1 → W p l e R s m args below meth c H1 locs1 cells slots Q (F0 m (pc + 3) als rest)) : W p l e R s m args below meth c H locs cells slots Q (F0 m pc als (v :: .ref (B0 + qm_ad k i) :: rest)) := by
  obtain ⟨h19, hf, hT⟩ := qm_flk_sane hm
  have h19 : 1 ≤ k ∧ k ≤ 9 := h19
  have h80 : k ≠ 80 := by omega
  have h81 : k ≠ 81 := by omega
  have he := qm_W_at (B0 := B0) (cs := cs) (h := h) hi h80 h81
  rw [qm_cell_o h19] at he
  exact va_put X.1 X.2.1 X.2.2.2.2.1 (qm_lay_in h19) (qm_Ty k) (qm_Ty_ok h19) (qm_nm_ok h19) X.2.2.2.1 X.2.2.2.2.2.1.1 hw.1 hw.2.1 hw.2.2.1 (qm_ad k i) he (qm_clss_at h19) f hf (X.2.2.2.2.1 _ (qm_flk_ok _ hm).tb) (fun x hx => by
    have hT : (qm_T k f).1 = qm_R k := hT
    rw [hT] at hx; exact hx) hfin (ty := ty) (v := v) (by rw [← hty]; exact qm_Ty_ok h19 f hf) hn hfit (by simpa using hf) hd kk
theorem so_getI (X : qm_Cx p R s m args c cells slots d mi B0 sb sa sv L xs dC dI cs) (hw : qm_Wd s B0 L xs dC dI cs h H locs) (hl : qm_Lo mi B0 sb sa als ls) (ho : qm_So st) {k f idx : Nat} (hk : qm_fk k f = 0 ∨ qm_fk k f = 1) (hm : (mN mi, idx, k, f) ∈ qm_flk) (hd : decode (mC mi) pc = .ok (.getfield idx, 3)) (ha : qa_getI [k, f] ls st h = some (.inl (ls', st', h'))) (kk : ∀ (H1 : Heap) (locs1 : List Loc) (als1 : Array Slot), qm_Wd s B0 L xs dC dI cs h' H1 locs1 → qm_Lo mi B0 sb sa als1 ls' → qm_So st' → W p l e R s m args below meth c H1 locs1 cells slots Q (F0 m (pc + 3) als1 (st'.map (qm_cv B0 sb sa)))) : W p l e R s m args below meth c H locs cells slots Q (F0 m pc als (st.map (qm_cv B0 sb sa))) := by
  unfold qa_getI at ha
  rcases st with _ | ⟨v, r⟩
  · cases ha
  · rcases v with v | v | ⟨q, i⟩
    · cases ha
    · cases ha
    · replace ha : (if q = k then some (.inl (ls, qI (zI h q i f) :: r, h)) else none : Option qm_Act) = some (.inl (ls', st', h')) := ha
      split at ha
      · next hq =>
        subst hq
        cases ha
        have h19 : 1 ≤ q ∧ q ≤ 9 := (qm_flk_sane hm).1
        have h0 : q ≠ 0 := by omega
        have h80 : q ≠ 80 := by omega
        have h81 : q ≠ 81 := by omega
        have hi := qm_okV_lt ho.h h0
        rw [List.map_cons, qm_cv_P h0 h80 h81]
        refine qm_getrow X hw hm hi hd ?_
        have hv : qm_fv B0 h q i f = qm_cv B0 sb sa (qI (zI h q i f)) := by rcases hk with e | e <;> simp [qm_fv, e, qm_cv]
        rw [hv]
        exact kk H locs als hw hl (ho.t.cons trivial)
      · cases ha
theorem so_getL (X : qm_Cx p R s m args c cells slots d mi B0 sb sa sv L xs dC dI cs) (hw : qm_Wd s B0 L xs dC dI cs h H locs) (hl : qm_Lo mi B0 sb sa als ls) (ho : qm_So st) {k f idx : Nat} (hk : qm_fk k f = 2) (hm : (mN mi, idx, k, f) ∈ qm_flk) (hd : decode (mC mi) pc = .ok (.getfield idx, 3)) (ha : qa_getL [k, f] ls st h = some (.inl (ls', st', h'))) (kk : ∀ (H1 : Heap) (locs1 : List Loc) (als1 : Array Slot), qm_Wd s B0 L xs dC dI cs h' H1 locs1 → qm_Lo mi B0 sb sa als1 ls' → qm_So st' → W p l e R s m args below meth c H1 locs1 cells slots Q (F0 m (pc + 3) als1 (st'.map (qm_cv B0 sb sa)))) : W p l e R s m args below meth c H locs cells slots Q (F0 m pc als (st.map (qm_cv B0 sb sa))) := by
  unfold qa_getL at ha
  rcases st with _ | ⟨v, r⟩
  · cases ha
  · rcases v with v | v | ⟨q, i⟩
    · cases ha
    · cases ha
    · replace ha : (if q = k then some (.inl (ls, qL (zL h q i f) :: r, h)) else none : Option qm_Act) = some (.inl (ls', st', h')) := ha
      split at ha
      · next hq =>
        subst hq
        cases ha
        have h19 : 1 ≤ q ∧ q ≤ 9 := (qm_flk_sane hm).1
        have h0 : q ≠ 0 := by omega
        have h80 : q ≠ 80 := by omega
        have h81 : q ≠ 81 := by omega
        have hi := qm_okV_lt ho.h h0
        rw [List.map_cons, qm_cv_P h0 h80 h81]
        refine qm_getrow X hw hm hi hd ?_
        have hv : qm_fv B0 h q i f = qm_cv B0 sb sa (qL (zL h q i f)) := by simp [qm_fv, hk, qm_cv]
        rw [hv]
        exact kk H locs als hw hl (ho.t.cons trivial)
      · cases ha
theorem qm_ft_ok : (List.range 10).all (fun k => (List.range 37).all (fun f => (List.range 10).all (fun i => !decide (qm_fk k f = 3) || !decide (i < qm_cnt k) || (decide ((qm_ft k f).2.1 * i + (qm_ft k f).2.2 < qm_cnt (qm_ft k f).1) && decide ((qm_ft k f).1 ≠ 80) && decide ((qm_ft k f).1 ≠ 81) && decide ((qm_ft k f).1 ≠ 0))))) = true := by decide +kernel
theorem qm_ft_lt {k f i : Nat} (hk : k < 10) (hf : f < 37) (h3 : qm_fk k f = 3) (hi : i < qm_cnt k) : (qm_ft k f).2.1 * i + (qm_ft k f).2.2 < qm_cnt (qm_ft k f).1 ∧ (qm_ft k f).1 ≠ 80 ∧ (qm_ft k f).1 ≠ 81 ∧ (qm_ft k f).1 ≠ 0 := by
  have a := List.all_eq_true.mp (List.all_eq_true.mp (List.all_eq_true.mp qm_ft_ok k (List.mem_range.mpr hk)) f (List.mem_range.mpr hf)) i (List.mem_range.mpr (qm_cnt_lt hi).2)
  simp only [h3, hi, decide_true, Bool.not_true, Bool.false_or, Bool.and_eq_true, decide_eq_true_eq] at a
  exact ⟨a.1.1.1, a.1.1.2, a.1.2, a.2⟩
theorem so_getP (X : qm_Cx p R s m args c cells slots d mi B0 sb sa sv L xs dC dI cs) (hw : qm_Wd s B0 L xs dC dI cs h H locs) (hl : qm_Lo mi B0 sb sa als ls) (ho : qm_So st) {k f idx t mu ad : Nat} (hk : qm_fk k f = 3) (ht : qm_ft k f = (t, mu, ad)) (hm : (mN mi, idx, k, f) ∈ qm_flk) (hd : decode (mC mi) pc = .ok (.getfield idx, 3)) (ha : qa_getP [k, f, t, mu, ad] ls st h = some (.inl (ls', st', h'))) (kk : ∀ (H1 : Heap) (locs1 : List Loc) (als1 : Array Slot), qm_Wd s B0 L xs dC dI cs h' H1 locs1 → qm_Lo mi B0 sb sa als1 ls' → qm_So st' → W p l e R s m args below meth c H1 locs1 cells slots Q (F0 m (pc + 3) als1 (st'.map (qm_cv B0 sb sa)))) : W p l e R s m args below meth c H locs cells slots Q (F0 m pc als (st.map (qm_cv B0 sb sa))) := by
  unfold qa_getP at ha
  rcases st with _ | ⟨v, r⟩
  · cases ha
  · rcases v with v | v | ⟨q, i⟩
    · cases ha
    · cases ha
    · replace ha : (if q = k then some (.inl (ls, qP t (mu * i + ad) :: r, h)) else none : Option qm_Act) = some (.inl (ls', st', h')) := ha
      split at ha
      · next hq =>
        subst hq
        cases ha
        have h19 : 1 ≤ q ∧ q ≤ 9 := (qm_flk_sane hm).1
        have h0 : q ≠ 0 := by omega
        have h80 : q ≠ 80 := by omega
        have h81 : q ≠ 81 := by omega
        have hi := qm_okV_lt ho.h h0
        have hx := qm_ft_lt (Nat.lt_succ_of_le (qm_flk_sane hm).1.2) (Nat.lt_of_lt_of_le (qm_flk_sane hm).2.1 qm_nf_le) hk hi
        rw [ht] at hx
        rw [List.map_cons, qm_cv_P h0 h80 h81]
        refine qm_getrow X hw hm hi hd ?_
        have hv : qm_fv B0 h q i f = qm_cv B0 sb sa (qP t (mu * i + ad)) := by rw [qm_cv_P hx.2.2.2 hx.2.1 hx.2.2.1]; simp [qm_fv, hk, ht, hw.2.2.2.1.2.2 q i f (Or.inl hk) hi]
        rw [hv]
        exact kk H locs als hw hl (ho.t.cons (Or.inr hx.1))
      · cases ha
theorem qm_fk4 : (List.range 10).all (fun k => (List.range 37).all (fun f => !decide (qm_fk k f = 4) || (decide (k = 5) && decide (f = 0)) || (decide (k = 6) && decide (f = 1)))) = true := by decide +kernel
theorem qm_fk4_at {k f : Nat} (hk : k < 10) (hf : f < 37) (h4 : qm_fk k f = 4) : (k = 5 ∧ f = 0) ∨ (k = 6 ∧ f = 1) := by
  have a := List.all_eq_true.mp (List.all_eq_true.mp qm_fk4 k (List.mem_range.mpr hk)) f (List.mem_range.mpr hf)
  simpa [h4] using a
theorem qm_okP_V {q : Nat × Nat} (h : qm_okP q) : qm_okV (qP q.1 q.2) := by
  rcases h with h | ⟨h1, h2⟩
  · exact Or.inl h
  · exact Or.inr (by rw [h1]; exact h2)
theorem qm_okP_cv {B0 sb sa : Nat} {q : Nat × Nat} (h : qm_okP q) : qm_cv B0 0 0 (qP q.1 q.2) = qm_cv B0 sb sa (qP q.1 q.2) := by
  rcases h with h | ⟨h1, h2⟩
  · simp [qm_cv, h]
  · simp [qm_cv, h1]
theorem qm_okH_at {h : qm_Hp} {k i f : Nat} (hH : qm_okH h) (hk : (k = 5 ∧ f = 0) ∨ (k = 6 ∧ f = 1)) (hi : i < qm_cnt k) : qm_okP (zP h k i f) := by
  rcases hk with ⟨rfl, rfl⟩ | ⟨rfl, rfl⟩
  · have : i = 0 := Nat.lt_one_iff.mp hi
    subst this
    exact hH.1
  · have : i = 0 := Nat.lt_one_iff.mp hi
    subst this
    exact hH.2.1
theorem so_getM (X : qm_Cx p R s m args c cells slots d mi B0 sb sa sv L xs dC dI cs) (hw : qm_Wd s B0 L xs dC dI cs h H locs) (hl : qm_Lo mi B0 sb sa als ls) (ho : qm_So st) {k f idx : Nat} (hk : qm_fk k f = 4) (hm : (mN mi, idx, k, f) ∈ qm_flk) (hd : decode (mC mi) pc = .ok (.getfield idx, 3)) (ha : qa_getM [k, f] ls st h = some (.inl (ls', st', h'))) (kk : ∀ (H1 : Heap) (locs1 : List Loc) (als1 : Array Slot), qm_Wd s B0 L xs dC dI cs h' H1 locs1 → qm_Lo mi B0 sb sa als1 ls' → qm_So st' → W p l e R s m args below meth c H1 locs1 cells slots Q (F0 m (pc + 3) als1 (st'.map (qm_cv B0 sb sa)))) : W p l e R s m args below meth c H locs cells slots Q (F0 m pc als (st.map (qm_cv B0 sb sa))) := by
  unfold qa_getM at ha
  rcases st with _ | ⟨v, r⟩
  · cases ha
  · rcases v with v | v | ⟨q, i⟩
    · cases ha
    · cases ha
    · replace ha : (if q = k then some (.inl (ls, qP (zP h q i f).1 (zP h q i f).2 :: r, h)) else none : Option qm_Act) = some (.inl (ls', st', h')) := ha
      split at ha
      · next hq =>
        subst hq
        cases ha
        have h19 : 1 ≤ q ∧ q ≤ 9 := (qm_flk_sane hm).1
        have h0 : q ≠ 0 := by omega
        have h80 : q ≠ 80 := by omega
        have h81 : q ≠ 81 := by omega
        have hi := qm_okV_lt ho.h h0
        have hx := qm_okH_at hw.2.2.2.1 (qm_fk4_at (Nat.lt_succ_of_le (qm_flk_sane hm).1.2) (Nat.lt_of_lt_of_le (qm_flk_sane hm).2.1 qm_nf_le) hk) hi
        rw [List.map_cons, qm_cv_P h0 h80 h81]
        refine qm_getrow X hw hm hi hd ?_
        have hv : qm_fv B0 h q i f = qm_cv B0 sb sa (qP (zP h q i f).1 (zP h q i f).2) := by rw [← qm_okP_cv hx]; simp [qm_fv, hk]
        rw [hv]
        exact kk H locs als hw hl (ho.t.cons (qm_okP_V hx))
      · cases ha
theorem so_putI (X : qm_Cx p R s m args c cells slots d mi B0 sb sa sv L xs dC dI cs) (hw : qm_Wd s B0 L xs dC dI cs h H locs) (hl : qm_Lo mi B0 sb sa als ls) (ho : qm_So st) {k f idx : Nat} (hk : qm_fk k f = 0) (hfin : (qm_T k f).2.2.2 = false) (hm : (mN mi, idx, k, f) ∈ qm_flk) (hd : decode (mC mi) pc = .ok (.putfield idx, 3)) (ha : qa_putI [k, f] ls st h = some (.inl (ls', st', h'))) (kk : ∀ (H1 : Heap) (locs1 : List Loc) (als1 : Array Slot), qm_Wd s B0 L xs dC dI cs h' H1 locs1 → qm_Lo mi B0 sb sa als1 ls' → qm_So st' → W p l e R s m args below meth c H1 locs1 cells slots Q (F0 m (pc + 3) als1 (st'.map (qm_cv B0 sb sa)))) : W p l e R s m args below meth c H locs cells slots Q (F0 m pc als (st.map (qm_cv B0 sb sa))) := by
  unfold qa_putI at ha
  rcases st with _ | ⟨v, _ | ⟨v2, r⟩⟩
  · cases ha
  · rcases v with v | v | ⟨q', i'⟩ <;> cases ha
  · rcases v with v | v | ⟨q', i'⟩
    · rcases v2 with v2 | v2 | ⟨q, i⟩
      · cases ha
      · cases ha
      · replace ha : (if q = k then some (.inl (ls, r, uI h q i f v)) else none : Option qm_Act) = some (.inl (ls', st', h')) := ha
        split at ha
        · next hq =>
          subst hq
          cases ha
          have h19 : 1 ≤ q ∧ q ≤ 9 := (qm_flk_sane hm).1
          have h0 : q ≠ 0 := by omega
          have h80 : q ≠ 80 := by omega
          have h81 : q ≠ 81 := by omega
          have hi := qm_okV_lt ho.t.h h0
          have hty := qm_fk_ty q (Nat.lt_succ_of_le (qm_flk_sane hm).1.2) f (Nat.lt_of_lt_of_le (qm_flk_sane hm).2.1 qm_nf_le)
          rw [List.map_cons, List.map_cons, qm_cv_P h0 h80 h81]
          refine qm_putrow X hw hm hi hfin (hty.1 hk) rfl rfl hd (fun H1 locs1 p1 p2 p3 => ?_)
          refine kk H1 locs1 als (hw.wI hi h80 h81 ⟨by rw [hk]; decide, qm_rlen_o h19.2⟩ ?_ p1 p2 p3) hl ho.t.t
          rw [qm_cell_o (qm_flk_sane hm).1]
          refine congrArg (fun z => Sum.inr (qm_ci q, z)) (qm_fields_set (qm_flk_sane hm).2.1 (by simp [qm_fv, hk, zI_uI, qm_cv]) (fun g hg => ?_)).symm
          have e9 : zI (uI h q i f v) q i g = zI h q i g := by rw [zI_uI, if_neg (fun z => hg z.2.2)]
          unfold qm_fv
          rw [e9]
          rfl
        · cases ha
    · rcases v2 with v2 | v2 | ⟨q, i⟩ <;> cases ha
    · rcases v2 with v2 | v2 | ⟨q, i⟩ <;> cases ha
theorem so_putZ (X : qm_Cx p R s m args c cells slots d mi B0 sb sa sv L xs dC dI cs) (hw : qm_Wd s B0 L xs dC dI cs h H locs) (hl : qm_Lo mi B0 sb sa als ls) (ho : qm_So st) {k f idx : Nat} (hk : qm_fk k f = 1) (hfin : (qm_T k f).2.2.2 = false) (hm : (mN mi, idx, k, f) ∈ qm_flk) (hd : decode (mC mi) pc = .ok (.putfield idx, 3)) (ha : qa_putZ [k, f] ls st h = some (.inl (ls', st', h'))) (kk : ∀ (H1 : Heap) (locs1 : List Loc) (als1 : Array Slot), qm_Wd s B0 L xs dC dI cs h' H1 locs1 → qm_Lo mi B0 sb sa als1 ls' → qm_So st' → W p l e R s m args below meth c H1 locs1 cells slots Q (F0 m (pc + 3) als1 (st'.map (qm_cv B0 sb sa)))) : W p l e R s m args below meth c H locs cells slots Q (F0 m pc als (st.map (qm_cv B0 sb sa))) := by
  unfold qa_putZ at ha
  rcases st with _ | ⟨v, _ | ⟨v2, r⟩⟩
  · cases ha
  · rcases v with v | v | ⟨q', i'⟩ <;> cases ha
  · rcases v with v | v | ⟨q', i'⟩
    · rcases v2 with v2 | v2 | ⟨q, i⟩
      · cases ha
      · cases ha
      · replace ha : (if q = k ∧ (v = 0 ∨ v = 1) then some (.inl (ls, r, uI h q i f v)) else none : Option qm_Act) = some (.inl (ls', st', h')) := ha
        split at ha
        · next hq =>
          obtain ⟨hq, hv01⟩ := hq
          subst hq
          cases ha
          have h19 : 1 ≤ q ∧ q ≤ 9 := (qm_flk_sane hm).1
          have h0 : q ≠ 0 := by omega
          have h80 : q ≠ 80 := by omega
          have h81 : q ≠ 81 := by omega
          have hi := qm_okV_lt ho.t.h h0
          have hty := qm_fk_ty q (Nat.lt_succ_of_le (qm_flk_sane hm).1.2) f (Nat.lt_of_lt_of_le (qm_flk_sane hm).2.1 qm_nf_le)
          rw [List.map_cons, List.map_cons, qm_cv_P h0 h80 h81]
          refine qm_putrow X hw hm hi hfin (hty.2.1 hk) (by rcases hv01 with rfl | rfl <;> rfl) (by rcases hv01 with rfl | rfl <;> rfl) hd (fun H1 locs1 p1 p2 p3 => ?_)
          refine kk H1 locs1 als (hw.wI hi h80 h81 ⟨by rw [hk]; decide, qm_rlen_o h19.2⟩ ?_ p1 p2 p3) hl ho.t.t
          rw [qm_cell_o (qm_flk_sane hm).1]
          refine congrArg (fun z => Sum.inr (qm_ci q, z)) (qm_fields_set (qm_flk_sane hm).2.1 (by simp [qm_fv, hk, zI_uI, qm_cv]) (fun g hg => ?_)).symm
          have e9 : zI (uI h q i f v) q i g = zI h q i g := by rw [zI_uI, if_neg (fun z => hg z.2.2)]
          unfold qm_fv
          rw [e9]
          rfl
        · cases ha
    · rcases v2 with v2 | v2 | ⟨q, i⟩ <;> cases ha
    · rcases v2 with v2 | v2 | ⟨q, i⟩ <;> cases ha
theorem so_putL (X : qm_Cx p R s m args c cells slots d mi B0 sb sa sv L xs dC dI cs) (hw : qm_Wd s B0 L xs dC dI cs h H locs) (hl : qm_Lo mi B0 sb sa als ls) (ho : qm_So st) {k f idx : Nat} (hk : qm_fk k f = 2) (hfin : (qm_T k f).2.2.2 = false) (hm : (mN mi, idx, k, f) ∈ qm_flk) (hd : decode (mC mi) pc = .ok (.putfield idx, 3)) (ha : qa_putL [k, f] ls st h = some (.inl (ls', st', h'))) (kk : ∀ (H1 : Heap) (locs1 : List Loc) (als1 : Array Slot), qm_Wd s B0 L xs dC dI cs h' H1 locs1 → qm_Lo mi B0 sb sa als1 ls' → qm_So st' → W p l e R s m args below meth c H1 locs1 cells slots Q (F0 m (pc + 3) als1 (st'.map (qm_cv B0 sb sa)))) : W p l e R s m args below meth c H locs cells slots Q (F0 m pc als (st.map (qm_cv B0 sb sa))) := by
  unfold qa_putL at ha
  rcases st with _ | ⟨v, _ | ⟨v2, r⟩⟩
  · cases ha
  · rcases v with v | v | ⟨q', i'⟩ <;> cases ha
  · rcases v with v | v | ⟨q', i'⟩
    · rcases v2 with v2 | v2 | ⟨q, i⟩ <;> cases ha
    · rcases v2 with v2 | v2 | ⟨q, i⟩
      · cases ha
      · cases ha
      · replace ha : (if q = k then some (.inl (ls, r, uL h q i f v)) else none : Option qm_Act) = some (.inl (ls', st', h')) := ha
        split at ha
        · next hq =>
          subst hq
          cases ha
          have h19 : 1 ≤ q ∧ q ≤ 9 := (qm_flk_sane hm).1
          have h0 : q ≠ 0 := by omega
          have h80 : q ≠ 80 := by omega
          have h81 : q ≠ 81 := by omega
          have hi := qm_okV_lt ho.t.h h0
          have hty := qm_fk_ty q (Nat.lt_succ_of_le (qm_flk_sane hm).1.2) f (Nat.lt_of_lt_of_le (qm_flk_sane hm).2.1 qm_nf_le)
          rw [List.map_cons, List.map_cons, qm_cv_P h0 h80 h81]
          refine qm_putrow X hw hm hi hfin (hty.2.2.1 hk) rfl rfl hd (fun H1 locs1 p1 p2 p3 => ?_)
          refine kk H1 locs1 als (hw.wL hi h80 h81 ?_ p1 p2 p3) hl ho.t.t
          rw [qm_cell_o (qm_flk_sane hm).1]
          refine congrArg (fun z => Sum.inr (qm_ci q, z)) (qm_fields_set (qm_flk_sane hm).2.1 (by simp [qm_fv, hk, zL_uL, qm_cv]) (fun g hg => ?_)).symm
          have e9 : zL (uL h q i f v) q i g = zL h q i g := by rw [zL_uL, if_neg (fun z => hg z.2.2)]
          unfold qm_fv
          rw [e9]
          rfl
        · cases ha
    · rcases v2 with v2 | v2 | ⟨q, i⟩ <;> cases ha
theorem so_putM (X : qm_Cx p R s m args c cells slots d mi B0 sb sa sv L xs dC dI cs) (hw : qm_Wd s B0 L xs dC dI cs h H locs) (hl : qm_Lo mi B0 sb sa als ls) (ho : qm_So st) {k f idx t : Nat} (hk : qm_fk k f = 4) (hfin : (qm_T k f).2.2.2 = false) (hm : (mN mi, idx, k, f) ∈ qm_flk) (hd : decode (mC mi) pc = .ok (.putfield idx, 3)) (ht : t = 4) (ha : qa_putM [k, f, t] ls st h = some (.inl (ls', st', h'))) (kk : ∀ (H1 : Heap) (locs1 : List Loc) (als1 : Array Slot), qm_Wd s B0 L xs dC dI cs h' H1 locs1 → qm_Lo mi B0 sb sa als1 ls' → qm_So st' → W p l e R s m args below meth c H1 locs1 cells slots Q (F0 m (pc + 3) als1 (st'.map (qm_cv B0 sb sa)))) : W p l e R s m args below meth c H locs cells slots Q (F0 m pc als (st.map (qm_cv B0 sb sa))) := by
  unfold qa_putM at ha
  rcases st with _ | ⟨v, _ | ⟨v2, r⟩⟩
  · cases ha
  · rcases v with v | v | ⟨q', i'⟩ <;> cases ha
  · rcases v with v | v | ⟨q', i'⟩
    · rcases v2 with v2 | v2 | ⟨q, i⟩ <;> cases ha
    · rcases v2 with v2 | v2 | ⟨q, i⟩ <;> cases ha
    · rcases v2 with v2 | v2 | ⟨q, i⟩
      · cases ha
      · cases ha
      · replace ha : (if q = k ∧ q' = t then some (.inl (ls, r, uP h q i f (q', i'))) else none : Option qm_Act) = some (.inl (ls', st', h')) := ha
        split at ha
        · next hq =>
          obtain ⟨hq, hq'⟩ := hq
          subst hq
          subst hq'
          subst ht
          have hi' : i' < 5 := qm_okV_lt ho.h (by decide)
          cases ha
          have h19 : 1 ≤ q ∧ q ≤ 9 := (qm_flk_sane hm).1
          have h0 : q ≠ 0 := by omega
          have h80 : q ≠ 80 := by omega
          have h81 : q ≠ 81 := by omega
          have hi := qm_okV_lt ho.t.h h0
          have hty := qm_fk_ty q (Nat.lt_succ_of_le (qm_flk_sane hm).1.2) f (Nat.lt_of_lt_of_le (qm_flk_sane hm).2.1 qm_nf_le)
          rw [List.map_cons, List.map_cons, qm_cv_P h0 h80 h81, qm_cv_P (k := 4) (by decide) (by decide) (by decide)]
          refine qm_putrow X hw hm hi hfin (hty.2.2.2.1 hk) rfl rfl hd (fun H1 locs1 p1 p2 p3 => ?_)
          refine kk H1 locs1 als (hw.wP hi h80 h81 (Or.inr ⟨rfl, hi'⟩) ?_ p1 p2 p3) hl ho.t.t
          rw [qm_cell_o (qm_flk_sane hm).1]
          refine congrArg (fun z => Sum.inr (qm_ci q, z)) (qm_fields_set (qm_flk_sane hm).2.1 (by simp [qm_fv, hk, zP_uP, qm_cv]) (fun g hg => ?_)).symm
          have e9 : zP (uP h q i f (4, i')) q i g = zP h q i g := by rw [zP_uP, if_neg (fun z => hg z.2.2)]
          unfold qm_fv
          rw [e9]
          rfl
        · cases ha
end QSH
