/-! the law's entry: what the tables and the start say -/
theorem qn_arrC {s : State} {args : Array Value} {ty : FieldType} (h : (Cond.arrayClass ty).before args s = true) (hb : ∀ C, ty ≠ .object C) (hz : ∀ (n : Nat) (c : ClassId) (z : Nat → Value) (k : Class) (comp : ClassId), s.vm.classes[c]? = some k → k.kind = .array comp ty → s.isArrayOf (arrV c n z) ty) : ∃ cA, ArrOfT s cA ty ∧ va_RA s cA ty := by
  obtain ⟨c, k, comp, h1, h2, h3⟩ := Cond.arrayClass_spec h
  refine ⟨c, fun n z => hz n c z k comp h2 h3, ?_⟩
  cases ty with
  | object C => exact absurd rfl (hb C)
  | _ => exact h1
theorem qn_arrO {s : State} {args : Array Value} {C : String} (h : (Cond.arrayOver (.object C)).before args s = true) : ∃ cA, ArrOfT s cA (.object C) ∧ va_RA s cA (.object C) := by
  obtain ⟨comp, c, k, h1, -, h3, h4, h5⟩ := Cond.arrayOver_spec h
  exact ⟨c, fun N z => ⟨(fun k h => by cases h), k, h3, comp, h4⟩, k, comp, h3, h4, h1, h5⟩
theorem qn_cls {s : State} {args : Array Value} (hts : ∀ w ∈ qm_tb, w.before args s = true) : ∃ (dC : Nat → ClassId) (dI : Nat → Nat → Nat), ∀ (c : Nat) (q : vw_C), qm_clss[c]? = some q → u_Kn s q.1 q.2.1 q.2.2 (dC c) (dI c) := by
  have h0 : ∀ c : Nat, ∃ r : ClassId × (Nat → Nat), ∀ q : vw_C, qm_clss[c]? = some q → u_Kn s q.1 q.2.1 q.2.2 r.1 r.2 := by
    have one : ∀ k, (h19 : 1 ≤ k ∧ k ≤ 9) → qm_Tb (Cond.instantiable (qm_R k) (qm_nf k)) → ∃ r : ClassId × (Nat → Nat), ∀ q : vw_C, qm_clss[qm_ci k]? = some q → u_Kn s q.1 q.2.1 q.2.2 r.1 r.2 := by
      intro k h19 hi
      obtain ⟨cC, iS, hK⟩ := u_known (C := qm_R k) (T := qm_T k) (N := qm_nf k) (n := qm_nf k) hts (qm_lay_in h19) (hts _ hi.tb)
      refine ⟨(cC, iS), fun q hq => ?_⟩
      rw [qm_clss_at h19] at hq
      cases hq
      exact hK
    intro c
    match c with
    | 0 => exact one 5 (by decide) in_5
    | 1 => exact one 3 (by decide) in_3
    | 2 => exact one 6 (by decide) in_6
    | 3 => exact one 8 (by decide) in_8
    | 4 => exact one 4 (by decide) in_4
    | 5 => exact one 7 (by decide) in_7
    | 6 => exact one 2 (by decide) in_2
    | 7 => exact one 1 (by decide) in_1
    | 8 => exact one 9 (by decide) in_9
    | c + 9 => exact ⟨(0, fun _ => 0), fun q hq => by simp [qm_clss] at hq⟩
  obtain ⟨r, hr⟩ := Classical.axiomOfChoice h0
  exact ⟨fun c => (r c).1, fun c => (r c).2, hr⟩
def qn_tm : Term := .string RX5 49
theorem qn_strE : qm_str = [119, 97, 116, 101, 114, 32, 115, 105, 122, 101, 32, 107, 105, 110, 100, 32, 98, 97, 114, 107, 32, 104, 105, 103, 104, 32, 116, 111, 112, 32, 98, 101, 115, 105, 100, 101, 32, 115, 117, 110, 110, 121, 32, 119, 105, 110, 100, 32, 115, 117, 110, 32, 114, 97, 105, 110, 32, 97, 105, 114, 32, 119, 101, 101, 107, 32, 119, 105, 100, 101, 32, 116, 97, 108, 108, 32, 112, 111, 115, 116, 115, 32, 99, 114, 111, 115, 115, 101, 100, 32, 100, 114, 121, 32, 116, 104, 105, 99, 107, 32, 115, 116, 97, 110, 100, 32, 116, 97, 107, 101, 32, 104, 101, 97, 116, 32, 98, 101, 101, 116, 108, 101, 32, 108, 97, 121, 32, 109, 105, 110, 32, 109, 97, 120, 32, 110, 111, 116, 32, 97, 110, 100, 32, 111, 114, 32, 111, 110, 32] := by decide +kernel
def qn_tab : List (Int32 × Int32) := [(0, 119), (1, 97), (2, 116), (3, 101), (4, 114), (5, 32), (6, 115), (7, 105), (8, 122), (9, 101), (10, 32), (11, 107), (12, 105), (13, 110), (14, 100), (15, 32), (16, 98), (17, 97), (18, 114), (19, 107), (20, 32), (21, 104), (22, 105), (23, 103), (24, 104), (25, 32), (26, 116), (27, 111), (28, 112), (29, 32), (30, 98), (31, 101), (32, 115), (33, 105), (34, 100), (35, 101), (36, 32), (37, 115), (38, 117), (39, 110), (40, 110), (41, 121), (42, 32), (43, 119), (44, 105), (45, 110), (46, 100), (47, 32), (48, 115), (49, 117), (50, 110), (51, 32), (52, 114), (53, 97), (54, 105), (55, 110), (56, 32), (57, 97), (58, 105), (59, 114), (60, 32), (61, 119), (62, 101), (63, 101), (64, 107), (65, 32), (66, 119), (67, 105), (68, 100), (69, 101), (70, 32), (71, 116), (72, 97), (73, 108), (74, 108), (75, 32), (76, 112), (77, 111), (78, 115), (79, 116), (80, 115), (81, 32), (82, 99), (83, 114), (84, 111), (85, 115), (86, 115), (87, 101), (88, 100), (89, 32), (90, 100), (91, 114), (92, 121), (93, 32), (94, 116), (95, 104), (96, 105), (97, 99), (98, 107), (99, 32), (100, 115), (101, 116), (102, 97), (103, 110), (104, 100), (105, 32), (106, 116), (107, 97), (108, 107), (109, 101), (110, 32), (111, 104), (112, 101), (113, 97), (114, 116), (115, 32), (116, 98), (117, 101), (118, 101), (119, 116), (120, 108), (121, 101), (122, 32), (123, 108), (124, 97), (125, 121), (126, 32), (127, 109), (128, 105), (129, 110), (130, 32), (131, 109), (132, 97), (133, 120), (134, 32), (135, 110), (136, 111), (137, 116), (138, 32), (139, 97), (140, 110), (141, 100), (142, 32), (143, 111), (144, 114), (145, 32), (146, 111), (147, 110), (148, 32)]
theorem qn_tabE : ∀ j, j < 149 → (Int32.ofNat j, (qm_str.map Int32.ofNat).getD j 0) ∈ qn_tab := by
  rw [qn_strE]
  decide +kernel
set_option maxRecDepth 20000 in
theorem qn_nr5 {args : Array Value} {s : State} (hs : ∀ c ∈ flatC (Jvm.Cond.and given_1 narrow_1), c.before args s = true) : ∀ q ∈ qn_tab, (Cond.eq (.elem (.field qn_tm "java/lang/String" "value" "[B") (.int q.1)) (.int q.2)).before args s = true := by
  unfold qn_tab
  refine List.forall_mem_cons.mpr ⟨hs _ (by decide +kernel), ?_⟩
  refine List.forall_mem_cons.mpr ⟨hs _ (by decide +kernel), ?_⟩
  refine List.forall_mem_cons.mpr ⟨hs _ (by decide +kernel), ?_⟩
  refine List.forall_mem_cons.mpr ⟨hs _ (by decide +kernel), ?_⟩
  refine List.forall_mem_cons.mpr ⟨hs _ (by decide +kernel), ?_⟩
  refine List.forall_mem_cons.mpr ⟨hs _ (by decide +kernel), ?_⟩
  refine List.forall_mem_cons.mpr ⟨hs _ (by decide +kernel), ?_⟩
  refine List.forall_mem_cons.mpr ⟨hs _ (by decide +kernel), ?_⟩
  refine List.forall_mem_cons.mpr ⟨hs _ (by decide +kernel), ?_⟩
  refine List.forall_mem_cons.mpr ⟨hs _ (by decide +kernel), ?_⟩
  refine List.forall_mem_cons.mpr ⟨hs _ (by decide +kernel), ?_⟩
  refine List.forall_mem_cons.mpr ⟨hs _ (by decide +kernel), ?_⟩
  refine List.forall_mem_cons.mpr ⟨hs _ (by decide +kernel), ?_⟩
  refine List.forall_mem_cons.mpr ⟨hs _ (by decide +kernel), ?_⟩
  refine List.forall_mem_cons.mpr ⟨hs _ (by decide +kernel), ?_⟩
  refine List.forall_mem_cons.mpr ⟨hs _ (by decide +kernel), ?_⟩
  refine List.forall_mem_cons.mpr ⟨hs _ (by decide +kernel), ?_⟩
  refine List.forall_mem_cons.mpr ⟨hs _ (by decide +kernel), ?_⟩
  refine List.forall_mem_cons.mpr ⟨hs _ (by decide +kernel), ?_⟩
  refine List.forall_mem_cons.mpr ⟨hs _ (by decide +kernel), ?_⟩
  refine List.forall_mem_cons.mpr ⟨hs _ (by decide +kernel), ?_⟩
  refine List.forall_mem_cons.mpr ⟨hs _ (by decide +kernel), ?_⟩
  refine List.forall_mem_cons.mpr ⟨hs _ (by decide +kernel), ?_⟩
  refine List.forall_mem_cons.mpr ⟨hs _ (by decide +kernel), ?_⟩
  refine List.forall_mem_cons.mpr ⟨hs _ (by decide +kernel), ?_⟩
  refine List.forall_mem_cons.mpr ⟨hs _ (by decide +kernel), ?_⟩
  refine List.forall_mem_cons.mpr ⟨hs _ (by decide +kernel), ?_⟩
  refine List.forall_mem_cons.mpr ⟨hs _ (by decide +kernel), ?_⟩
  refine List.forall_mem_cons.mpr ⟨hs _ (by decide +kernel), ?_⟩
  refine List.forall_mem_cons.mpr ⟨hs _ (by decide +kernel), ?_⟩
  refine List.forall_mem_cons.mpr ⟨hs _ (by decide +kernel), ?_⟩
  refine List.forall_mem_cons.mpr ⟨hs _ (by decide +kernel), ?_⟩
  refine List.forall_mem_cons.mpr ⟨hs _ (by decide +kernel), ?_⟩
  refine List.forall_mem_cons.mpr ⟨hs _ (by decide +kernel), ?_⟩
  refine List.forall_mem_cons.mpr ⟨hs _ (by decide +kernel), ?_⟩
  refine List.forall_mem_cons.mpr ⟨hs _ (by decide +kernel), ?_⟩
  refine List.forall_mem_cons.mpr ⟨hs _ (by decide +kernel), ?_⟩
  refine List.forall_mem_cons.mpr ⟨hs _ (by decide +kernel), ?_⟩
  refine List.forall_mem_cons.mpr ⟨hs _ (by decide +kernel), ?_⟩
  refine List.forall_mem_cons.mpr ⟨hs _ (by decide +kernel), ?_⟩
  refine List.forall_mem_cons.mpr ⟨hs _ (by decide +kernel), ?_⟩
  refine List.forall_mem_cons.mpr ⟨hs _ (by decide +kernel), ?_⟩
  refine List.forall_mem_cons.mpr ⟨hs _ (by decide +kernel), ?_⟩
  refine List.forall_mem_cons.mpr ⟨hs _ (by decide +kernel), ?_⟩
  refine List.forall_mem_cons.mpr ⟨hs _ (by decide +kernel), ?_⟩
  refine List.forall_mem_cons.mpr ⟨hs _ (by decide +kernel), ?_⟩
  refine List.forall_mem_cons.mpr ⟨hs _ (by decide +kernel), ?_⟩
  refine List.forall_mem_cons.mpr ⟨hs _ (by decide +kernel), ?_⟩
  refine List.forall_mem_cons.mpr ⟨hs _ (by decide +kernel), ?_⟩
  refine List.forall_mem_cons.mpr ⟨hs _ (by decide +kernel), ?_⟩
  refine List.forall_mem_cons.mpr ⟨hs _ (by decide +kernel), ?_⟩
  refine List.forall_mem_cons.mpr ⟨hs _ (by decide +kernel), ?_⟩
  refine List.forall_mem_cons.mpr ⟨hs _ (by decide +kernel), ?_⟩
  refine List.forall_mem_cons.mpr ⟨hs _ (by decide +kernel), ?_⟩
  refine List.forall_mem_cons.mpr ⟨hs _ (by decide +kernel), ?_⟩
  refine List.forall_mem_cons.mpr ⟨hs _ (by decide +kernel), ?_⟩
  refine List.forall_mem_cons.mpr ⟨hs _ (by decide +kernel), ?_⟩
  refine List.forall_mem_cons.mpr ⟨hs _ (by decide +kernel), ?_⟩
  refine List.forall_mem_cons.mpr ⟨hs _ (by decide +kernel), ?_⟩
  refine List.forall_mem_cons.mpr ⟨hs _ (by decide +kernel), ?_⟩
  refine List.forall_mem_cons.mpr ⟨hs _ (by decide +kernel), ?_⟩
  refine List.forall_mem_cons.mpr ⟨hs _ (by decide +kernel), ?_⟩
  refine List.forall_mem_cons.mpr ⟨hs _ (by decide +kernel), ?_⟩
  refine List.forall_mem_cons.mpr ⟨hs _ (by decide +kernel), ?_⟩
  refine List.forall_mem_cons.mpr ⟨hs _ (by decide +kernel), ?_⟩
  refine List.forall_mem_cons.mpr ⟨hs _ (by decide +kernel), ?_⟩
  refine List.forall_mem_cons.mpr ⟨hs _ (by decide +kernel), ?_⟩
  refine List.forall_mem_cons.mpr ⟨hs _ (by decide +kernel), ?_⟩
  refine List.forall_mem_cons.mpr ⟨hs _ (by decide +kernel), ?_⟩
  refine List.forall_mem_cons.mpr ⟨hs _ (by decide +kernel), ?_⟩
  refine List.forall_mem_cons.mpr ⟨hs _ (by decide +kernel), ?_⟩
  refine List.forall_mem_cons.mpr ⟨hs _ (by decide +kernel), ?_⟩
  refine List.forall_mem_cons.mpr ⟨hs _ (by decide +kernel), ?_⟩
  refine List.forall_mem_cons.mpr ⟨hs _ (by decide +kernel), ?_⟩
  refine List.forall_mem_cons.mpr ⟨hs _ (by decide +kernel), ?_⟩
  refine List.forall_mem_cons.mpr ⟨hs _ (by decide +kernel), ?_⟩
  refine List.forall_mem_cons.mpr ⟨hs _ (by decide +kernel), ?_⟩
  refine List.forall_mem_cons.mpr ⟨hs _ (by decide +kernel), ?_⟩
  refine List.forall_mem_cons.mpr ⟨hs _ (by decide +kernel), ?_⟩
  refine List.forall_mem_cons.mpr ⟨hs _ (by decide +kernel), ?_⟩
  refine List.forall_mem_cons.mpr ⟨hs _ (by decide +kernel), ?_⟩
  refine List.forall_mem_cons.mpr ⟨hs _ (by decide +kernel), ?_⟩
  refine List.forall_mem_cons.mpr ⟨hs _ (by decide +kernel), ?_⟩
  refine List.forall_mem_cons.mpr ⟨hs _ (by decide +kernel), ?_⟩
  refine List.forall_mem_cons.mpr ⟨hs _ (by decide +kernel), ?_⟩
  refine List.forall_mem_cons.mpr ⟨hs _ (by decide +kernel), ?_⟩
  refine List.forall_mem_cons.mpr ⟨hs _ (by decide +kernel), ?_⟩
  refine List.forall_mem_cons.mpr ⟨hs _ (by decide +kernel), ?_⟩
  refine List.forall_mem_cons.mpr ⟨hs _ (by decide +kernel), ?_⟩
  refine List.forall_mem_cons.mpr ⟨hs _ (by decide +kernel), ?_⟩
  refine List.forall_mem_cons.mpr ⟨hs _ (by decide +kernel), ?_⟩
  refine List.forall_mem_cons.mpr ⟨hs _ (by decide +kernel), ?_⟩
  refine List.forall_mem_cons.mpr ⟨hs _ (by decide +kernel), ?_⟩
  refine List.forall_mem_cons.mpr ⟨hs _ (by decide +kernel), ?_⟩
  refine List.forall_mem_cons.mpr ⟨hs _ (by decide +kernel), ?_⟩
  refine List.forall_mem_cons.mpr ⟨hs _ (by decide +kernel), ?_⟩
  refine List.forall_mem_cons.mpr ⟨hs _ (by decide +kernel), ?_⟩
  refine List.forall_mem_cons.mpr ⟨hs _ (by decide +kernel), ?_⟩
  refine List.forall_mem_cons.mpr ⟨hs _ (by decide +kernel), ?_⟩
  refine List.forall_mem_cons.mpr ⟨hs _ (by decide +kernel), ?_⟩
  refine List.forall_mem_cons.mpr ⟨hs _ (by decide +kernel), ?_⟩
  refine List.forall_mem_cons.mpr ⟨hs _ (by decide +kernel), ?_⟩
  refine List.forall_mem_cons.mpr ⟨hs _ (by decide +kernel), ?_⟩
  refine List.forall_mem_cons.mpr ⟨hs _ (by decide +kernel), ?_⟩
  refine List.forall_mem_cons.mpr ⟨hs _ (by decide +kernel), ?_⟩
  refine List.forall_mem_cons.mpr ⟨hs _ (by decide +kernel), ?_⟩
  refine List.forall_mem_cons.mpr ⟨hs _ (by decide +kernel), ?_⟩
  refine List.forall_mem_cons.mpr ⟨hs _ (by decide +kernel), ?_⟩
  refine List.forall_mem_cons.mpr ⟨hs _ (by decide +kernel), ?_⟩
  refine List.forall_mem_cons.mpr ⟨hs _ (by decide +kernel), ?_⟩
  refine List.forall_mem_cons.mpr ⟨hs _ (by decide +kernel), ?_⟩
  refine List.forall_mem_cons.mpr ⟨hs _ (by decide +kernel), ?_⟩
  refine List.forall_mem_cons.mpr ⟨hs _ (by decide +kernel), ?_⟩
  refine List.forall_mem_cons.mpr ⟨hs _ (by decide +kernel), ?_⟩
  refine List.forall_mem_cons.mpr ⟨hs _ (by decide +kernel), ?_⟩
  refine List.forall_mem_cons.mpr ⟨hs _ (by decide +kernel), ?_⟩
  refine List.forall_mem_cons.mpr ⟨hs _ (by decide +kernel), ?_⟩
  refine List.forall_mem_cons.mpr ⟨hs _ (by decide +kernel), ?_⟩
  refine List.forall_mem_cons.mpr ⟨hs _ (by decide +kernel), ?_⟩
  refine List.forall_mem_cons.mpr ⟨hs _ (by decide +kernel), ?_⟩
  refine List.forall_mem_cons.mpr ⟨hs _ (by decide +kernel), ?_⟩
  refine List.forall_mem_cons.mpr ⟨hs _ (by decide +kernel), ?_⟩
  refine List.forall_mem_cons.mpr ⟨hs _ (by decide +kernel), ?_⟩
  refine List.forall_mem_cons.mpr ⟨hs _ (by decide +kernel), ?_⟩
  refine List.forall_mem_cons.mpr ⟨hs _ (by decide +kernel), ?_⟩
  refine List.forall_mem_cons.mpr ⟨hs _ (by decide +kernel), ?_⟩
  refine List.forall_mem_cons.mpr ⟨hs _ (by decide +kernel), ?_⟩
  refine List.forall_mem_cons.mpr ⟨hs _ (by decide +kernel), ?_⟩
  refine List.forall_mem_cons.mpr ⟨hs _ (by decide +kernel), ?_⟩
  refine List.forall_mem_cons.mpr ⟨hs _ (by decide +kernel), ?_⟩
  refine List.forall_mem_cons.mpr ⟨hs _ (by decide +kernel), ?_⟩
  refine List.forall_mem_cons.mpr ⟨hs _ (by decide +kernel), ?_⟩
  refine List.forall_mem_cons.mpr ⟨hs _ (by decide +kernel), ?_⟩
  refine List.forall_mem_cons.mpr ⟨hs _ (by decide +kernel), ?_⟩
  refine List.forall_mem_cons.mpr ⟨hs _ (by decide +kernel), ?_⟩
  refine List.forall_mem_cons.mpr ⟨hs _ (by decide +kernel), ?_⟩
  refine List.forall_mem_cons.mpr ⟨hs _ (by decide +kernel), ?_⟩
  refine List.forall_mem_cons.mpr ⟨hs _ (by decide +kernel), ?_⟩
  refine List.forall_mem_cons.mpr ⟨hs _ (by decide +kernel), ?_⟩
  refine List.forall_mem_cons.mpr ⟨hs _ (by decide +kernel), ?_⟩
  refine List.forall_mem_cons.mpr ⟨hs _ (by decide +kernel), ?_⟩
  refine List.forall_mem_cons.mpr ⟨hs _ (by decide +kernel), ?_⟩
  refine List.forall_mem_cons.mpr ⟨hs _ (by decide +kernel), ?_⟩
  refine List.forall_mem_cons.mpr ⟨hs _ (by decide +kernel), ?_⟩
  refine List.forall_mem_cons.mpr ⟨hs _ (by decide +kernel), ?_⟩
  refine List.forall_mem_cons.mpr ⟨hs _ (by decide +kernel), ?_⟩
  refine List.forall_mem_cons.mpr ⟨hs _ (by decide +kernel), ?_⟩
  refine List.forall_mem_cons.mpr ⟨hs _ (by decide +kernel), ?_⟩
  refine List.forall_mem_cons.mpr ⟨hs _ (by decide +kernel), ?_⟩
  exact fun _ h => absurd h List.not_mem_nil
