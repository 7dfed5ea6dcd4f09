/-! printed by wip/whole/gen/ctor.py: contracts of constructors -/
theorem tY : ∀ q, q < 2 → ∀ N, N = qm_ad 2 q + 1 → N + 16 ≤ 155 ∧ qm_desc.getD (N + 0) (0, 0) = (21, q) ∧ qm_desc.getD (N + 1) (0, 0) = (22, q) ∧ qm_desc.getD (N + 2) (0, 0) = (23, q) ∧ qm_desc.getD (N + 3) (0, 0) = (24, q) ∧ qm_desc.getD (N + 4) (0, 0) = (25, q) ∧ qm_desc.getD (N + 5) (0, 0) = (26, q) ∧ qm_desc.getD (N + 6) (0, 0) = (27, q) ∧ qm_desc.getD (N + 7) (0, 0) = (28, q) ∧ qm_desc.getD (N + 8) (0, 0) = (3, q) ∧ qm_ad 27 q = N + 6 ∧ qm_ad 3 q = N + 8 := by
  intro q hq N hN
  subst hN
  revert q
  decide +kernel
def hY (h : qm_Hp) (q : Nat) (w : Int32) : qm_Hp := uI (hP (uI (uI (uI (uI (uI (uI (uI (uI (uI (uI (uI (uI (uI (uI (uI (uI (h) 2 q 1 1) 2 q 2 1) 2 q 3 1) 2 q 4 1) 2 q 5 (nI 0)) 2 q 6 1) 2 q 7 1) 27 q 0 (nI 2000)) 27 q 1 (nI 2000)) 27 q 2 (nI 2000)) 27 q 3 (nI 2000)) 2 q 8 1) 2 q 9 1) 2 q 10 (nI 0)) 2 q 11 (nI 0)) 2 q 12 N1) q w) 2 q 0 1
theorem met_Y (l : Launch) (d : Nat) {B0 sb sa sv L : Nat} {xs : Nat → Int32} {dC : Nat → ClassId} {dI : Nat → Nat → Nat} {cs : Nat × Nat × Nat × Nat × Nat} (hd0 : 1 ≤ d) (q N : Nat) (hq : q < 2) (hA : N = qm_ad 2 q + 1) (w : Int32) (h : qm_Hp) : qn_M l 238 d 16 409 B0 sb sa sv L xs dC dI cs [.ref (B0 + qm_ad 2 q), .int w] N h (N + 16) (hY h q w) := by
  obtain ⟨hb, d0, d1, d2, d3, d4, d5, d6, d7, d8, a6, a8⟩ := tY q hq N hA
  refine n_met cw_238 (by decide) rfl rfl (Nat.le_of_ble_eq_true rfl) ?_
  intro p e s m below meth c als X hin hcn hw hl fin
  refine lv_aload_n X.1 X.2.1 dec_238_0 rfl (lv_at hl 0 rfl) ?_
  refine n_obj X ol_238 hl.1 ⟨by show 1 ≤ d + 4; omega, by show 12 ≤ 64 * d + 256; omega⟩ dec_238_1 ?_
  refine lv_aload_n X.1 X.2.1 dec_238_4 rfl (lv_at hl 0 rfl) ?_
  refine lv_bipush (v := nI 12) X.1 X.2.1 dec_238_5 (by decide) ?_
  refine n_newi2 (k := 21) (i := q) (n := 12) X hw (by omega) (by omega) d0 rfl (by decide) (by decide) (nI_clamp (by decide)) ⟨by show _ ≤ 16; omega, by show _ ≤ 409; omega⟩ dec_238_7 fun H1 hw => ?_
  refine n_putR (a := qm_ad 21 q) X hw fl_238_9 (hq) (by omega) rfl (congrArg (qm_ad 21) (show 1 * q + 0 = q by omega)) rfl rfl ⟨hin, rfl⟩ dec_238_9 fun H1 locs1 hw => ?_
  refine lv_aload_n X.1 X.2.1 dec_238_12 rfl (lv_at hl 0 rfl) ?_
  refine lv_bipush (v := nI 12) X.1 X.2.1 dec_238_13 (by decide) ?_
  refine n_newi2 (k := 22) (i := q) (n := 12) X hw (by omega) (by omega) d1 rfl (by decide) (by decide) (nI_clamp (by decide)) ⟨by show _ ≤ 16; omega, by show _ ≤ 409; omega⟩ dec_238_15 fun H1 hw => ?_
  refine n_putR (a := qm_ad 22 q) X hw fl_238_15 (hq) (by omega) rfl (congrArg (qm_ad 22) (show 1 * q + 0 = q by omega)) rfl rfl ⟨hin, rfl⟩ dec_238_17 fun H1 locs1 hw => ?_
  refine lv_aload_n X.1 X.2.1 dec_238_20 rfl (lv_at hl 0 rfl) ?_
  refine lv_bipush (v := nI 12) X.1 X.2.1 dec_238_21 (by decide) ?_
  refine n_newi2 (k := 23) (i := q) (n := 12) X hw (by omega) (by omega) d2 rfl (by decide) (by decide) (nI_clamp (by decide)) ⟨by show _ ≤ 16; omega, by show _ ≤ 409; omega⟩ dec_238_23 fun H1 hw => ?_
  refine n_putR (a := qm_ad 23 q) X hw fl_238_18 (hq) (by omega) rfl (congrArg (qm_ad 23) (show 1 * q + 0 = q by omega)) rfl rfl ⟨hin, rfl⟩ dec_238_25 fun H1 locs1 hw => ?_
  refine lv_aload_n X.1 X.2.1 dec_238_28 rfl (lv_at hl 0 rfl) ?_
  refine lv_bipush (v := nI 12) X.1 X.2.1 dec_238_29 (by decide) ?_
  refine n_newi2 (k := 24) (i := q) (n := 12) X hw (by omega) (by omega) d3 rfl (by decide) (by decide) (nI_clamp (by decide)) ⟨by show _ ≤ 16; omega, by show _ ≤ 409; omega⟩ dec_238_31 fun H1 hw => ?_
  refine n_putR (a := qm_ad 24 q) X hw fl_238_21 (hq) (by omega) rfl (congrArg (qm_ad 24) (show 1 * q + 0 = q by omega)) rfl rfl ⟨hin, rfl⟩ dec_238_33 fun H1 locs1 hw => ?_
  refine lv_aload_n X.1 X.2.1 dec_238_36 rfl (lv_at hl 0 rfl) ?_
  refine lv_iconst (v := nI 0) X.1 X.2.1 dec_238_37 (by decide) ?_
  refine n_putI X hw fl_238_24 (hq) (by omega) (Or.inl rfl) (by first | exact Or.inl rfl | exact Or.inr ⟨hin, rfl⟩) dec_238_38 fun H1 locs1 hw => ?_
  refine lv_aload_n X.1 X.2.1 dec_238_41 rfl (lv_at hl 0 rfl) ?_
  refine lv_bipush (v := nI 40) X.1 X.2.1 dec_238_42 (by decide) ?_
  refine n_newi2 (k := 25) (i := q) (n := 40) X hw (by omega) (by omega) d4 rfl (by decide) (by decide) (nI_clamp (by decide)) ⟨by show _ ≤ 16; omega, by show _ ≤ 409; omega⟩ dec_238_44 fun H1 hw => ?_
  refine n_putR (a := qm_ad 25 q) X hw fl_238_28 (hq) (by omega) rfl (congrArg (qm_ad 25) (show 1 * q + 0 = q by omega)) rfl rfl ⟨hin, rfl⟩ dec_238_46 fun H1 locs1 hw => ?_
  refine lv_aload_n X.1 X.2.1 dec_238_49 rfl (lv_at hl 0 rfl) ?_
  refine lv_iconst (v := nI 4) X.1 X.2.1 dec_238_50 (by decide) ?_
  refine n_newi2 (k := 26) (i := q) (n := 4) X hw (by omega) (by omega) d5 rfl (by decide) (by decide) (nI_clamp (by decide)) ⟨by show _ ≤ 16; omega, by show _ ≤ 409; omega⟩ dec_238_51 fun H1 hw => ?_
  refine n_putR (a := qm_ad 26 q) X hw fl_238_31 (hq) (by omega) rfl (congrArg (qm_ad 26) (show 1 * q + 0 = q by omega)) rfl rfl ⟨hin, rfl⟩ dec_238_53 fun H1 locs1 hw => ?_
  refine lv_aload_n X.1 X.2.1 dec_238_56 rfl (lv_at hl 0 rfl) ?_
  refine lv_iconst (v := nI 4) X.1 X.2.1 dec_238_57 (by decide) ?_
  refine n_newi2 (k := 27) (i := q) (n := 4) X hw (by omega) (by omega) d6 rfl (by decide) (by decide) (nI_clamp (by decide)) ⟨by show _ ≤ 16; omega, by show _ ≤ 409; omega⟩ dec_238_58 fun H1 hw => ?_
  refine lv_dup X.1 X.2.1 dec_238_60 rfl ?_
  refine lv_iconst (v := nI 0) X.1 X.2.1 dec_238_61 (by decide) ?_
  refine lv_sipush (v := nI 2000) X.1 X.2.1 dec_238_62 (by decide) ?_
  refine n_iast (k := 27) (i := q) (j := 0) X hw (by decide) (by decide) (hq) (by decide) (by decide) (by omega) dec_238_65 fun H1 locs1 hw => ?_
  refine lv_dup X.1 X.2.1 dec_238_66 rfl ?_
  refine lv_iconst (v := nI 1) X.1 X.2.1 dec_238_67 (by decide) ?_
  refine lv_sipush (v := nI 2000) X.1 X.2.1 dec_238_68 (by decide) ?_
  refine n_iast (k := 27) (i := q) (j := 1) X hw (by decide) (by decide) (hq) (by decide) (by decide) (by omega) dec_238_71 fun H1 locs1 hw => ?_
  refine lv_dup X.1 X.2.1 dec_238_72 rfl ?_
  refine lv_iconst (v := nI 2) X.1 X.2.1 dec_238_73 (by decide) ?_
  refine lv_sipush (v := nI 2000) X.1 X.2.1 dec_238_74 (by decide) ?_
  refine n_iast (k := 27) (i := q) (j := 2) X hw (by decide) (by decide) (hq) (by decide) (by decide) (by omega) dec_238_77 fun H1 locs1 hw => ?_
  refine lv_dup X.1 X.2.1 dec_238_78 rfl ?_
  refine lv_iconst (v := nI 3) X.1 X.2.1 dec_238_79 (by decide) ?_
  refine lv_sipush (v := nI 2000) X.1 X.2.1 dec_238_80 (by decide) ?_
  refine n_iast (k := 27) (i := q) (j := 3) X hw (by decide) (by decide) (hq) (by decide) (by decide) (by omega) dec_238_83 fun H1 locs1 hw => ?_
  refine n_putR (a := qm_ad 27 q) X hw fl_238_34 (hq) (by omega) rfl (congrArg (qm_ad 27) (show 1 * q + 0 = q by omega)) rfl rfl ⟨hin, rfl⟩ dec_238_84 fun H1 locs1 hw => ?_
  refine lv_aload_n X.1 X.2.1 dec_238_87 rfl (lv_at hl 0 rfl) ?_
  refine lv_bipush (v := nI 6) X.1 X.2.1 dec_238_88 (by decide) ?_
  refine n_newi2 (k := 28) (i := q) (n := 6) X hw (by omega) (by omega) d7 rfl (by decide) (by decide) (nI_clamp (by decide)) ⟨by show _ ≤ 16; omega, by show _ ≤ 409; omega⟩ dec_238_90 fun H1 hw => ?_
  refine n_putR (a := qm_ad 28 q) X hw fl_238_37 (hq) (by omega) rfl (congrArg (qm_ad 28) (show 1 * q + 0 = q by omega)) rfl rfl ⟨hin, rfl⟩ dec_238_92 fun H1 locs1 hw => ?_
  refine lv_aload_n X.1 X.2.1 dec_238_95 rfl (lv_at hl 0 rfl) ?_
  refine lv_iconst (v := nI 0) X.1 X.2.1 dec_238_96 (by decide) ?_
  refine n_putI X hw fl_238_40 (hq) (by omega) (Or.inr ⟨rfl, rfl⟩) (by first | exact Or.inl rfl | exact Or.inr ⟨hin, rfl⟩) dec_238_97 fun H1 locs1 hw => ?_
  refine lv_aload_n X.1 X.2.1 dec_238_100 rfl (lv_at hl 0 rfl) ?_
  refine lv_iconst (v := nI 0) X.1 X.2.1 dec_238_101 (by decide) ?_
  refine n_putI X hw fl_238_44 (hq) (by omega) (Or.inl rfl) (by first | exact Or.inl rfl | exact Or.inr ⟨hin, rfl⟩) dec_238_102 fun H1 locs1 hw => ?_
  refine lv_aload_n X.1 X.2.1 dec_238_105 rfl (lv_at hl 0 rfl) ?_
  refine lv_iconst (v := N1) X.1 X.2.1 dec_238_106 (by decide) ?_
  refine n_putI X hw fl_238_47 (hq) (by omega) (Or.inl rfl) (by first | exact Or.inl rfl | exact Or.inr ⟨hin, rfl⟩) dec_238_107 fun H1 locs1 hw => ?_
  refine lv_aload_n X.1 X.2.1 dec_238_110 rfl (lv_at hl 0 rfl) ?_
  refine n_new2 (k := 3) (i := q) (nf := 13) X hw (by omega) rfl (by omega) d8 (by decide) cl_238_50 in_3 ini_3 ⟨by show _ ≤ 16; omega, by show _ ≤ 409; omega⟩ dec_238_111 fun H1 hw => ?_
  refine lv_dup X.1 X.2.1 dec_238_114 rfl ?_
  refine lv_iload_n X.1 X.2.1 dec_238_115 rfl (lv_at hl 1 rfl) ?_
  refine n_call (N' := N + 16) (h' := hP (uI (uI (uI (uI (uI (uI (uI (uI (uI (uI (uI (uI (uI (uI (uI (uI (h) 2 q 1 1) 2 q 2 1) 2 q 3 1) 2 q 4 1) 2 q 5 (nI 0)) 2 q 6 1) 2 q 7 1) 27 q 0 (nI 2000)) 27 q 1 (nI 2000)) 27 q 2 (nI 2000)) 27 q 3 (nI 2000)) 2 q 8 1) 2 q 9 1) 2 q 10 (nI 0)) 2 q 11 (nI 0)) 2 q 12 N1) q w) X hw (by omega) (met_P l (d - 1) q (N + 9) (by omega) (by omega) w (uI (uI (uI (uI (uI (uI (uI (uI (uI (uI (uI (uI (uI (uI (uI (uI (h) 2 q 1 1) 2 q 2 1) 2 q 3 1) 2 q 4 1) 2 q 5 (nI 0)) 2 q 6 1) 2 q 7 1) 27 q 0 (nI 2000)) 27 q 1 (nI 2000)) 27 q 2 (nI 2000)) 27 q 3 (nI 2000)) 2 q 8 1) 2 q 9 1) 2 q 10 (nI 0)) 2 q 11 (nI 0)) 2 q 12 N1)) (by omega) cw_183 rfl rfl mn_183 mi_183 lk_238_52 ⟨by show _ ≤ d + 4; omega, by show 8 + (2 + 11) + _ ≤ 64 * d + 256; omega⟩ rfl hl.1 rfl (Nat.le_of_ble_eq_true rfl) ⟨by show _ ≤ 16; omega, by show _ ≤ 409; omega⟩ dec_238_116 fun H1 locs1 hw => ?_
  refine n_putR (a := qm_ad 3 q) X hw fl_238_55 (hq) (by omega) rfl (congrArg (qm_ad 3) (show 1 * q + 0 = q by omega)) rfl rfl ⟨hin, rfl⟩ dec_238_119 fun H1 locs1 hw => ?_
  exact fin _ _ _ _ dec_238_122 hw
