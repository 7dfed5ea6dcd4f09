/-! printed by wip/whole/gen/ctor.py: contracts of constructors -/
theorem tP : ∀ q, q < 9 → ∀ N, N = qm_ad 3 q + 1 → N + 7 ≤ 155 ∧ qm_desc.getD (N + 0) (0, 0) = (11, q) ∧ qm_desc.getD (N + 1) (0, 0) = (12, q) ∧ qm_desc.getD (N + 2) (0, 0) = (13, q) ∧ qm_desc.getD (N + 3) (0, 0) = (14, q) ∧ qm_desc.getD (N + 4) (0, 0) = (15, q) ∧ qm_desc.getD (N + 5) (0, 0) = (16, q) ∧ qm_desc.getD (N + 6) (0, 0) = (17, q) := by
  intro q hq N hN
  subst hN
  revert q
  decide +kernel
def hP (h : qm_Hp) (q : Nat) (w : Int32) : qm_Hp := uI (uI (uI (uI (uI (uI (uI (uI (uI (uI (uI (uI (uI (h) 3 q 1 1) 3 q 2 1) 3 q 3 1) 3 q 4 1) 3 q 5 1) 3 q 6 1) 3 q 7 1) 3 q 8 (nI 0)) 3 q 9 N1) 3 q 10 (nI 0)) 3 q 11 (nI 0)) 3 q 12 (nI 0)) 3 q 0 w
theorem met_P (l : Launch) (d : Nat) {B0 sb sa sv L : Nat} {xs : Nat → Int32} {dC : Nat → ClassId} {dI : Nat → Nat → Nat} {cs : Nat × Nat × Nat × Nat × Nat} (q N : Nat) (hq : q < 9) (hA : N = qm_ad 3 q + 1) (w : Int32) (h : qm_Hp) : qn_M l 183 d 7 294 B0 sb sa sv L xs dC dI cs [.ref (B0 + qm_ad 3 q), .int w] N h (N + 7) (hP h q w) := by
  obtain ⟨hb, d0, d1, d2, d3, d4, d5, d6⟩ := tP q hq N hA
  refine n_met cw_183 (by decide) rfl rfl (Nat.le_of_ble_eq_true rfl) ?_
  intro p e s m below meth c als X hin hcn hw hl fin
  refine lv_aload_n X.1 X.2.1 dec_183_0 rfl (lv_at hl 0 rfl) ?_
  refine n_obj X ol_183 hl.1 ⟨by show 1 ≤ d + 4; omega, by show 12 ≤ 64 * d + 256; omega⟩ dec_183_1 ?_
  refine lv_aload_n X.1 X.2.1 dec_183_4 rfl (lv_at hl 0 rfl) ?_
  refine lv_bipush (v := nI 48) X.1 X.2.1 dec_183_5 (by decide) ?_
  refine n_newi2 (k := 11) (i := q) (n := 48) X hw (by omega) (by omega) d0 rfl (by decide) (by decide) (nI_clamp (by decide)) ⟨by show _ ≤ 7; omega, by show _ ≤ 294; omega⟩ dec_183_7 fun H1 hw => ?_
  refine n_putR (a := qm_ad 11 q) X hw fl_183_9 (hq) (by omega) rfl (congrArg (qm_ad 11) (show 1 * q + 0 = q by omega)) rfl rfl ⟨hin, rfl⟩ dec_183_9 fun H1 locs1 hw => ?_
  refine lv_aload_n X.1 X.2.1 dec_183_12 rfl (lv_at hl 0 rfl) ?_
  refine lv_bipush (v := nI 48) X.1 X.2.1 dec_183_13 (by decide) ?_
  refine n_newi2 (k := 12) (i := q) (n := 48) X hw (by omega) (by omega) d1 rfl (by decide) (by decide) (nI_clamp (by decide)) ⟨by show _ ≤ 7; omega, by show _ ≤ 294; omega⟩ dec_183_15 fun H1 hw => ?_
  refine n_putR (a := qm_ad 12 q) X hw fl_183_15 (hq) (by omega) rfl (congrArg (qm_ad 12) (show 1 * q + 0 = q by omega)) rfl rfl ⟨hin, rfl⟩ dec_183_17 fun H1 locs1 hw => ?_
  refine lv_aload_n X.1 X.2.1 dec_183_20 rfl (lv_at hl 0 rfl) ?_
  refine lv_bipush (v := nI 48) X.1 X.2.1 dec_183_21 (by decide) ?_
  refine n_newi2 (k := 13) (i := q) (n := 48) X hw (by omega) (by omega) d2 rfl (by decide) (by decide) (nI_clamp (by decide)) ⟨by show _ ≤ 7; omega, by show _ ≤ 294; omega⟩ dec_183_23 fun H1 hw => ?_
  refine n_putR (a := qm_ad 13 q) X hw fl_183_18 (hq) (by omega) rfl (congrArg (qm_ad 13) (show 1 * q + 0 = q by omega)) rfl rfl ⟨hin, rfl⟩ dec_183_25 fun H1 locs1 hw => ?_
  refine lv_aload_n X.1 X.2.1 dec_183_28 rfl (lv_at hl 0 rfl) ?_
  refine lv_bipush (v := nI 48) X.1 X.2.1 dec_183_29 (by decide) ?_
  refine n_newi2 (k := 14) (i := q) (n := 48) X hw (by omega) (by omega) d3 rfl (by decide) (by decide) (nI_clamp (by decide)) ⟨by show _ ≤ 7; omega, by show _ ≤ 294; omega⟩ dec_183_31 fun H1 hw => ?_
  refine n_putR (a := qm_ad 14 q) X hw fl_183_21 (hq) (by omega) rfl (congrArg (qm_ad 14) (show 1 * q + 0 = q by omega)) rfl rfl ⟨hin, rfl⟩ dec_183_33 fun H1 locs1 hw => ?_
  refine lv_aload_n X.1 X.2.1 dec_183_36 rfl (lv_at hl 0 rfl) ?_
  refine lv_bipush (v := nI 48) X.1 X.2.1 dec_183_37 (by decide) ?_
  refine n_newi2 (k := 15) (i := q) (n := 48) X hw (by omega) (by omega) d4 rfl (by decide) (by decide) (nI_clamp (by decide)) ⟨by show _ ≤ 7; omega, by show _ ≤ 294; omega⟩ dec_183_39 fun H1 hw => ?_
  refine n_putR (a := qm_ad 15 q) X hw fl_183_24 (hq) (by omega) rfl (congrArg (qm_ad 15) (show 1 * q + 0 = q by omega)) rfl rfl ⟨hin, rfl⟩ dec_183_41 fun H1 locs1 hw => ?_
  refine lv_aload_n X.1 X.2.1 dec_183_44 rfl (lv_at hl 0 rfl) ?_
  refine lv_bipush (v := nI 48) X.1 X.2.1 dec_183_45 (by decide) ?_
  refine n_newi2 (k := 16) (i := q) (n := 48) X hw (by omega) (by omega) d5 rfl (by decide) (by decide) (nI_clamp (by decide)) ⟨by show _ ≤ 7; omega, by show _ ≤ 294; omega⟩ dec_183_47 fun H1 hw => ?_
  refine n_putR (a := qm_ad 16 q) X hw fl_183_27 (hq) (by omega) rfl (congrArg (qm_ad 16) (show 1 * q + 0 = q by omega)) rfl rfl ⟨hin, rfl⟩ dec_183_49 fun H1 locs1 hw => ?_
  refine lv_aload_n X.1 X.2.1 dec_183_52 rfl (lv_at hl 0 rfl) ?_
  refine lv_bipush (v := nI 6) X.1 X.2.1 dec_183_53 (by decide) ?_
  refine n_newi2 (k := 17) (i := q) (n := 6) X hw (by omega) (by omega) d6 rfl (by decide) (by decide) (nI_clamp (by decide)) ⟨by show _ ≤ 7; omega, by show _ ≤ 294; omega⟩ dec_183_55 fun H1 hw => ?_
  refine n_putR (a := qm_ad 17 q) X hw fl_183_30 (hq) (by omega) rfl (congrArg (qm_ad 17) (show 1 * q + 0 = q by omega)) rfl rfl ⟨hin, rfl⟩ dec_183_57 fun H1 locs1 hw => ?_
  refine lv_aload_n X.1 X.2.1 dec_183_60 rfl (lv_at hl 0 rfl) ?_
  refine lv_iconst (v := nI 0) X.1 X.2.1 dec_183_61 (by decide) ?_
  refine n_putI X hw fl_183_33 (hq) (by omega) (Or.inl rfl) (by first | exact Or.inl rfl | exact Or.inr ⟨hin, rfl⟩) dec_183_62 fun H1 locs1 hw => ?_
  refine lv_aload_n X.1 X.2.1 dec_183_65 rfl (lv_at hl 0 rfl) ?_
  refine lv_iconst (v := N1) X.1 X.2.1 dec_183_66 (by decide) ?_
  refine n_putI X hw fl_183_37 (hq) (by omega) (Or.inl rfl) (by first | exact Or.inl rfl | exact Or.inr ⟨hin, rfl⟩) dec_183_67 fun H1 locs1 hw => ?_
  refine lv_aload_n X.1 X.2.1 dec_183_70 rfl (lv_at hl 0 rfl) ?_
  refine lv_iconst (v := nI 0) X.1 X.2.1 dec_183_71 (by decide) ?_
  refine n_putI X hw fl_183_40 (hq) (by omega) (Or.inl rfl) (by first | exact Or.inl rfl | exact Or.inr ⟨hin, rfl⟩) dec_183_72 fun H1 locs1 hw => ?_
  refine lv_aload_n X.1 X.2.1 dec_183_75 rfl (lv_at hl 0 rfl) ?_
  refine lv_iconst (v := nI 0) X.1 X.2.1 dec_183_76 (by decide) ?_
  refine n_putI X hw fl_183_43 (hq) (by omega) (Or.inl rfl) (by first | exact Or.inl rfl | exact Or.inr ⟨hin, rfl⟩) dec_183_77 fun H1 locs1 hw => ?_
  refine lv_aload_n X.1 X.2.1 dec_183_80 rfl (lv_at hl 0 rfl) ?_
  refine lv_iconst (v := nI 0) X.1 X.2.1 dec_183_81 (by decide) ?_
  refine n_putI X hw fl_183_46 (hq) (by omega) (Or.inl rfl) (by first | exact Or.inl rfl | exact Or.inr ⟨hin, rfl⟩) dec_183_82 fun H1 locs1 hw => ?_
  refine lv_aload_n X.1 X.2.1 dec_183_85 rfl (lv_at hl 0 rfl) ?_
  refine lv_iload_n X.1 X.2.1 dec_183_86 rfl (lv_at hl 1 rfl) ?_
  refine n_putI X hw fl_183_49 (hq) (by omega) (Or.inl rfl) (by first | exact Or.inl rfl | exact Or.inr ⟨hin, rfl⟩) dec_183_87 fun H1 locs1 hw => ?_
  exact fin _ _ _ _ dec_183_90 hw
theorem tT : ∀ q, q < 5 → ∀ N, N = qm_ad 4 q + 1 → N + 5 ≤ 155 ∧ qm_desc.getD (N + 0) (0, 0) = (31, q) ∧ qm_desc.getD (N + 1) (0, 0) = (32, q) ∧ qm_desc.getD (N + 2) (0, 0) = (33, q) ∧ qm_desc.getD (N + 3) (0, 0) = (34, q) ∧ qm_desc.getD (N + 4) (0, 0) = (35, q) ∧ qm_ad 35 q = N + 4 := by
  intro q hq N hN
  subst hN
  revert q
  decide +kernel
def hT (h : qm_Hp) (q : Nat) : qm_Hp := uI (uI (uI (uI (uI (uI (uI (uI (uI (uI (uI (uI (h) 4 q 0 1) 4 q 1 1) 4 q 2 1) 4 q 3 1) 35 q 0 N1) 35 q 1 N1) 35 q 2 N1) 35 q 3 N1) 35 q 4 N1) 4 q 4 1) 4 q 5 (nI 0)) 4 q 6 (nI 0)
theorem met_T (l : Launch) (d : Nat) {B0 sb sa sv L : Nat} {xs : Nat → Int32} {dC : Nat → ClassId} {dI : Nat → Nat → Nat} {cs : Nat × Nat × Nat × Nat × Nat} (q N : Nat) (hq : q < 5) (hA : N = qm_ad 4 q + 1) (h : qm_Hp) : qn_M l 221 d 5 365 B0 sb sa sv L xs dC dI cs [.ref (B0 + qm_ad 4 q)] N h (N + 5) (hT h q) := by
  obtain ⟨hb, d0, d1, d2, d3, d4, a4⟩ := tT q hq N hA
  refine n_met cw_221 (by decide) rfl rfl (Nat.le_of_ble_eq_true rfl) ?_
  intro p e s m below meth c als X hin hcn hw hl fin
  refine lv_aload_n X.1 X.2.1 dec_221_0 rfl (lv_at hl 0 rfl) ?_
  refine n_obj X ol_221 hl.1 ⟨by show 1 ≤ d + 4; omega, by show 12 ≤ 64 * d + 256; omega⟩ dec_221_1 ?_
  refine lv_aload_n X.1 X.2.1 dec_221_4 rfl (lv_at hl 0 rfl) ?_
  refine lv_sipush (v := nI 300) X.1 X.2.1 dec_221_5 (by decide) ?_
  refine n_newi2 (k := 31) (i := q) (n := 300) X hw (by omega) (by omega) d0 rfl (by decide) (by decide) (nI_clamp (by decide)) ⟨by show _ ≤ 5; omega, by show _ ≤ 365; omega⟩ dec_221_8 fun H1 hw => ?_
  refine n_putR (a := qm_ad 31 q) X hw fl_221_9 (hq) (by omega) rfl (congrArg (qm_ad 31) (show 1 * q + 0 = q by omega)) rfl rfl ⟨hin, rfl⟩ dec_221_10 fun H1 locs1 hw => ?_
  refine lv_aload_n X.1 X.2.1 dec_221_13 rfl (lv_at hl 0 rfl) ?_
  refine lv_bipush (v := nI 20) X.1 X.2.1 dec_221_14 (by decide) ?_
  refine n_newi2 (k := 32) (i := q) (n := 20) X hw (by omega) (by omega) d1 rfl (by decide) (by decide) (nI_clamp (by decide)) ⟨by show _ ≤ 5; omega, by show _ ≤ 365; omega⟩ dec_221_16 fun H1 hw => ?_
  refine n_putR (a := qm_ad 32 q) X hw fl_221_15 (hq) (by omega) rfl (congrArg (qm_ad 32) (show 1 * q + 0 = q by omega)) rfl rfl ⟨hin, rfl⟩ dec_221_18 fun H1 locs1 hw => ?_
  refine lv_aload_n X.1 X.2.1 dec_221_21 rfl (lv_at hl 0 rfl) ?_
  refine lv_bipush (v := nI 20) X.1 X.2.1 dec_221_22 (by decide) ?_
  refine n_newi2 (k := 33) (i := q) (n := 20) X hw (by omega) (by omega) d2 rfl (by decide) (by decide) (nI_clamp (by decide)) ⟨by show _ ≤ 5; omega, by show _ ≤ 365; omega⟩ dec_221_24 fun H1 hw => ?_
  refine n_putR (a := qm_ad 33 q) X hw fl_221_18 (hq) (by omega) rfl (congrArg (qm_ad 33) (show 1 * q + 0 = q by omega)) rfl rfl ⟨hin, rfl⟩ dec_221_26 fun H1 locs1 hw => ?_
  refine lv_aload_n X.1 X.2.1 dec_221_29 rfl (lv_at hl 0 rfl) ?_
  refine lv_bipush (v := nI 20) X.1 X.2.1 dec_221_30 (by decide) ?_
  refine n_newi2 (k := 34) (i := q) (n := 20) X hw (by omega) (by omega) d3 rfl (by decide) (by decide) (nI_clamp (by decide)) ⟨by show _ ≤ 5; omega, by show _ ≤ 365; omega⟩ dec_221_32 fun H1 hw => ?_
  refine n_putR (a := qm_ad 34 q) X hw fl_221_21 (hq) (by omega) rfl (congrArg (qm_ad 34) (show 1 * q + 0 = q by omega)) rfl rfl ⟨hin, rfl⟩ dec_221_34 fun H1 locs1 hw => ?_
  refine lv_aload_n X.1 X.2.1 dec_221_37 rfl (lv_at hl 0 rfl) ?_
  refine lv_iconst (v := nI 5) X.1 X.2.1 dec_221_38 (by decide) ?_
  refine n_newi2 (k := 35) (i := q) (n := 5) X hw (by omega) (by omega) d4 rfl (by decide) (by decide) (nI_clamp (by decide)) ⟨by show _ ≤ 5; omega, by show _ ≤ 365; omega⟩ dec_221_39 fun H1 hw => ?_
  refine lv_dup X.1 X.2.1 dec_221_41 rfl ?_
  refine lv_iconst (v := nI 0) X.1 X.2.1 dec_221_42 (by decide) ?_
  refine lv_iconst (v := N1) X.1 X.2.1 dec_221_43 (by decide) ?_
  refine n_iast (k := 35) (i := q) (j := 0) X hw (by decide) (by decide) (hq) (by decide) (by decide) (by omega) dec_221_44 fun H1 locs1 hw => ?_
  refine lv_dup X.1 X.2.1 dec_221_45 rfl ?_
  refine lv_iconst (v := nI 1) X.1 X.2.1 dec_221_46 (by decide) ?_
  refine lv_iconst (v := N1) X.1 X.2.1 dec_221_47 (by decide) ?_
  refine n_iast (k := 35) (i := q) (j := 1) X hw (by decide) (by decide) (hq) (by decide) (by decide) (by omega) dec_221_48 fun H1 locs1 hw => ?_
  refine lv_dup X.1 X.2.1 dec_221_49 rfl ?_
  refine lv_iconst (v := nI 2) X.1 X.2.1 dec_221_50 (by decide) ?_
  refine lv_iconst (v := N1) X.1 X.2.1 dec_221_51 (by decide) ?_
  refine n_iast (k := 35) (i := q) (j := 2) X hw (by decide) (by decide) (hq) (by decide) (by decide) (by omega) dec_221_52 fun H1 locs1 hw => ?_
  refine lv_dup X.1 X.2.1 dec_221_53 rfl ?_
  refine lv_iconst (v := nI 3) X.1 X.2.1 dec_221_54 (by decide) ?_
  refine lv_iconst (v := N1) X.1 X.2.1 dec_221_55 (by decide) ?_
  refine n_iast (k := 35) (i := q) (j := 3) X hw (by decide) (by decide) (hq) (by decide) (by decide) (by omega) dec_221_56 fun H1 locs1 hw => ?_
  refine lv_dup X.1 X.2.1 dec_221_57 rfl ?_
  refine lv_iconst (v := nI 4) X.1 X.2.1 dec_221_58 (by decide) ?_
  refine lv_iconst (v := N1) X.1 X.2.1 dec_221_59 (by decide) ?_
  refine n_iast (k := 35) (i := q) (j := 4) X hw (by decide) (by decide) (hq) (by decide) (by decide) (by omega) dec_221_60 fun H1 locs1 hw => ?_
  refine n_putR (a := qm_ad 35 q) X hw fl_221_24 (hq) (by omega) rfl (congrArg (qm_ad 35) (show 1 * q + 0 = q by omega)) rfl rfl ⟨hin, rfl⟩ dec_221_61 fun H1 locs1 hw => ?_
  refine lv_aload_n X.1 X.2.1 dec_221_64 rfl (lv_at hl 0 rfl) ?_
  refine lv_iconst (v := nI 0) X.1 X.2.1 dec_221_65 (by decide) ?_
  refine n_putI X hw fl_221_27 (hq) (by omega) (Or.inl rfl) (by first | exact Or.inl rfl | exact Or.inr ⟨hin, rfl⟩) dec_221_66 fun H1 locs1 hw => ?_
  refine lv_aload_n X.1 X.2.1 dec_221_69 rfl (lv_at hl 0 rfl) ?_
  refine lv_iconst (v := nI 0) X.1 X.2.1 dec_221_70 (by decide) ?_
  refine n_putI X hw fl_221_31 (hq) (by omega) (Or.inl rfl) (by first | exact Or.inl rfl | exact Or.inr ⟨hin, rfl⟩) dec_221_71 fun H1 locs1 hw => ?_
  exact fin _ _ _ _ dec_221_74 hw
def hL (h : qm_Hp) : qm_Hp := uP (uI (uI (h) 5 0 1 1) 5 0 2 1) 5 0 0 (4, 4)
theorem met_L (l : Launch) (d : Nat) {B0 sb sa sv L : Nat} {xs : Nat → Int32} {dC : Nat → ClassId} {dI : Nat → Nat → Nat} {cs : Nat × Nat × Nat × Nat × Nat} (h : qm_Hp) : qn_M l 165 d 2 57 B0 sb sa sv L xs dC dI cs [.ref (B0 + qm_ad 5 0), .ref (B0 + qm_ad 4 4)] 9 h 11 (hL h) := by
  refine n_met cw_165 (by decide) rfl rfl (Nat.le_of_ble_eq_true rfl) ?_
  intro p e s m below meth c als X hin hcn hw hl fin
  refine lv_aload_n X.1 X.2.1 dec_165_0 rfl (lv_at hl 0 rfl) ?_
  refine n_obj X ol_165 hl.1 ⟨by show 1 ≤ d + 4; omega, by show 12 ≤ 64 * d + 256; omega⟩ dec_165_1 ?_
  refine lv_aload_n X.1 X.2.1 dec_165_4 rfl (lv_at hl 0 rfl) ?_
  refine lv_bipush (v := nI 17) X.1 X.2.1 dec_165_5 (by decide) ?_
  refine n_newi2 (k := 41) (i := 0) (n := 17) X hw (by omega) (by omega) rfl rfl (by decide) (by decide) (nI_clamp (by decide)) ⟨by show _ ≤ 2; omega, by show _ ≤ 57; omega⟩ dec_165_7 fun H1 hw => ?_
  refine n_putR (a := qm_ad 41 0) X hw fl_165_9 (by decide) (by decide) rfl rfl rfl rfl ⟨hin, rfl⟩ dec_165_9 fun H1 locs1 hw => ?_
  refine lv_aload_n X.1 X.2.1 dec_165_12 rfl (lv_at hl 0 rfl) ?_
  refine lv_bipush (v := nI 40) X.1 X.2.1 dec_165_13 (by decide) ?_
  refine n_newi2 (k := 42) (i := 0) (n := 40) X hw (by omega) (by omega) rfl rfl (by decide) (by decide) (nI_clamp (by decide)) ⟨by show _ ≤ 2; omega, by show _ ≤ 57; omega⟩ dec_165_15 fun H1 hw => ?_
  refine n_putR (a := qm_ad 42 0) X hw fl_165_15 (by decide) (by decide) rfl rfl rfl rfl ⟨hin, rfl⟩ dec_165_17 fun H1 locs1 hw => ?_
  refine lv_aload_n X.1 X.2.1 dec_165_20 rfl (lv_at hl 0 rfl) ?_
  refine lv_aload_n X.1 X.2.1 dec_165_21 rfl (lv_at hl 1 rfl) ?_
  refine n_putM (q := (4, 4)) X hw fl_165_18 (by decide) (by decide) rfl rfl rfl rfl rfl dec_165_22 fun H1 locs1 hw => ?_
  exact fin _ _ _ _ dec_165_25 hw
def hK (h : qm_Hp) : qm_Hp := uI (uI (uI (uI (h) 7 0 0 1) 7 0 1 1) 7 0 2 1) 7 0 3 (nI 0)
theorem met_K (l : Launch) (d : Nat) {B0 sb sa sv L : Nat} {xs : Nat → Int32} {dC : Nat → ClassId} {dI : Nat → Nat → Nat} {cs : Nat × Nat × Nat × Nat × Nat} (h : qm_Hp) : qn_M l 228 d 3 903 B0 sb sa sv L xs dC dI cs [.ref (B0 + qm_ad 7 0)] 13 h 16 (hK h) := by
  refine n_met cw_228 (by decide) rfl rfl (Nat.le_of_ble_eq_true rfl) ?_
  intro p e s m below meth c als X hin hcn hw hl fin
  refine lv_aload_n X.1 X.2.1 dec_228_0 rfl (lv_at hl 0 rfl) ?_
  refine n_obj X ol_228 hl.1 ⟨by show 1 ≤ d + 4; omega, by show 12 ≤ 64 * d + 256; omega⟩ dec_228_1 ?_
  refine lv_aload_n X.1 X.2.1 dec_228_4 rfl (lv_at hl 0 rfl) ?_
  refine lv_sipush (v := nI 301) X.1 X.2.1 dec_228_5 (by decide) ?_
  refine n_newi2 (k := 43) (i := 0) (n := 301) X hw (by omega) (by omega) rfl rfl (by decide) (by decide) (nI_clamp (by decide)) ⟨by show _ ≤ 3; omega, by show _ ≤ 903; omega⟩ dec_228_8 fun H1 hw => ?_
  refine n_putR (a := qm_ad 43 0) X hw fl_228_9 (by decide) (by decide) rfl rfl rfl rfl ⟨hin, rfl⟩ dec_228_10 fun H1 locs1 hw => ?_
  refine lv_aload_n X.1 X.2.1 dec_228_13 rfl (lv_at hl 0 rfl) ?_
  refine lv_sipush (v := nI 301) X.1 X.2.1 dec_228_14 (by decide) ?_
  refine n_newi2 (k := 44) (i := 0) (n := 301) X hw (by omega) (by omega) rfl rfl (by decide) (by decide) (nI_clamp (by decide)) ⟨by show _ ≤ 3; omega, by show _ ≤ 903; omega⟩ dec_228_17 fun H1 hw => ?_
  refine n_putR (a := qm_ad 44 0) X hw fl_228_15 (by decide) (by decide) rfl rfl rfl rfl ⟨hin, rfl⟩ dec_228_19 fun H1 locs1 hw => ?_
  refine lv_aload_n X.1 X.2.1 dec_228_22 rfl (lv_at hl 0 rfl) ?_
  refine lv_sipush (v := nI 301) X.1 X.2.1 dec_228_23 (by decide) ?_
  refine n_newi2 (k := 45) (i := 0) (n := 301) X hw (by omega) (by omega) rfl rfl (by decide) (by decide) (nI_clamp (by decide)) ⟨by show _ ≤ 3; omega, by show _ ≤ 903; omega⟩ dec_228_26 fun H1 hw => ?_
  refine n_putR (a := qm_ad 45 0) X hw fl_228_18 (by decide) (by decide) rfl rfl rfl rfl ⟨hin, rfl⟩ dec_228_28 fun H1 locs1 hw => ?_
  refine lv_aload_n X.1 X.2.1 dec_228_31 rfl (lv_at hl 0 rfl) ?_
  refine lv_iconst (v := nI 0) X.1 X.2.1 dec_228_32 (by decide) ?_
  refine n_putI X hw fl_228_21 (by decide) (by decide) (Or.inl rfl) (by first | exact Or.inl rfl | exact Or.inr ⟨hin, rfl⟩) dec_228_33 fun H1 locs1 hw => ?_
  exact fin _ _ _ _ dec_228_36 hw
