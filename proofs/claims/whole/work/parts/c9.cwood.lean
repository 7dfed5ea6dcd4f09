/-! printed by wip/whole/gen/ctor.py: contract of a constructor -/
def hC (h : qm_Hp) (v : Int32) : qm_Hp := uI (hT (uI (hT (uI (hT (uI (hT (uI (hS (uI (hP (uI (hP (uI (hY (uI (hY (uI (uI (uI (uI (uI (uI (uI (hR (uI (hL (uI (hT (uI (h) 1 0 2 1) 4) 1 0 3 1)) 1 0 4 1)) 1 0 5 1) 1 0 6 1) 1 0 7 (nI 0)) 1 0 8 (nI 0)) 1 0 12 1) 1 0 13 1) 1 0 14 1) 0 v) 1 0 0 1) 1 v) 1 0 1 1) 2 v) 1 0 9 1) 3 v) 1 0 10 1) v) 1 0 11 1) 0) 51 0 0 1) 1) 51 0 1 1) 2) 51 0 2 1) 3) 51 0 3 1
set_option maxRecDepth 100000 in
theorem met_C (l : Launch) (d : Nat) {B0 sb sa sv L : Nat} {xs : Nat → Int32} {dC : Nat → ClassId} {dI : Nat → Nat → Nat} {cs : Nat × Nat × Nat × Nat × Nat} (h0 : 3 ≤ d) (w v : Int32) (hv : (if nI 2 < (if w < nI 6 then w else nI 6) then (if w < nI 6 then w else nI 6) else nI 2) = v) (h : qm_Hp) : qn_M l 0 d 137 6214 B0 sb sa sv L xs dC dI cs [.ref (B0 + qm_ad 1 0), .int w] 1 h 138 (hC h v) := by
  refine n_met cw_0 (by decide) rfl rfl (Nat.le_of_ble_eq_true rfl) ?_
  intro p e s m below meth c als X hin hcn hw hl fin
  refine lv_aload_n X.1 X.2.1 dec_0_0 rfl (lv_at hl 0 rfl) ?_
  refine n_obj X ol_0 hl.1 ⟨by show 1 ≤ d + 4; omega, by show 12 ≤ 64 * d + 256; omega⟩ dec_0_1 ?_
  refine lv_aload_n X.1 X.2.1 dec_0_4 rfl (lv_at hl 0 rfl) ?_
  refine lv_iconst (v := nI 4) X.1 X.2.1 dec_0_5 (by decide) ?_
  refine n_newt2 X hw (by omega) (by omega) rfl cl_0_9 (by decide) (nI_clamp (by decide)) ⟨by show _ ≤ 137; omega, by show _ ≤ 6214; omega⟩ dec_0_6 fun H1 hw => ?_
  refine n_putR (a := qm_ad 51 0) X hw fl_0_11 (by decide) (by decide) rfl rfl rfl rfl ⟨hin, rfl⟩ dec_0_9 fun H1 locs1 hw => ?_
  refine lv_aload_n X.1 X.2.1 dec_0_12 rfl (lv_at hl 0 rfl) ?_
  refine n_new2 (k := 4) (i := 4) (nf := 7) X hw (by omega) rfl (by omega) rfl (by decide) cl_0_9 in_4 ini_4 ⟨by show _ ≤ 137; omega, by show _ ≤ 6214; omega⟩ dec_0_13 fun H1 hw => ?_
  refine lv_dup X.1 X.2.1 dec_0_16 rfl ?_
  refine n_call (N' := 8) (h' := hT (uI (h) 1 0 2 1) 4) X hw (by omega) (met_T l (d - 1) 4 3 (by decide) rfl (uI (h) 1 0 2 1)) (by omega) cw_221 rfl rfl mn_221 mi_221 lk_0_15 ⟨by show _ ≤ d + 4; omega, by show 8 + (1 + 11) + _ ≤ 64 * d + 256; omega⟩ rfl hl.1 rfl (Nat.le_of_ble_eq_true rfl) ⟨by show _ ≤ 137; omega, by show _ ≤ 6214; omega⟩ dec_0_17 fun H1 locs1 hw => ?_
  refine n_putR (a := qm_ad 4 4) X hw fl_0_16 (by decide) (by decide) rfl rfl rfl rfl ⟨hin, rfl⟩ dec_0_20 fun H1 locs1 hw => ?_
  refine lv_aload_n X.1 X.2.1 dec_0_23 rfl (lv_at hl 0 rfl) ?_
  refine n_new2 (k := 5) (i := 0) (nf := 3) X hw (by omega) rfl (by omega) rfl (by decide) cl_0_20 in_5 ini_5 ⟨by show _ ≤ 137; omega, by show _ ≤ 6214; omega⟩ dec_0_24 fun H1 hw => ?_
  refine lv_dup X.1 X.2.1 dec_0_27 rfl ?_
  refine lv_aload_n X.1 X.2.1 dec_0_28 rfl (lv_at hl 0 rfl) ?_
  refine n_getR (a := qm_ad 4 4) X hw fl_0_16 (by decide) (by decide) rfl rfl rfl dec_0_29 ?_
  refine n_call (N' := 11) (h' := hL (uI (hT (uI (h) 1 0 2 1) 4) 1 0 3 1)) X hw (by omega) (met_L l (d - 1) (uI (hT (uI (h) 1 0 2 1) 4) 1 0 3 1)) (by omega) cw_165 rfl rfl mn_165 mi_165 lk_0_22 ⟨by show _ ≤ d + 4; omega, by show 8 + (2 + 11) + _ ≤ 64 * d + 256; omega⟩ rfl hl.1 rfl (Nat.le_of_ble_eq_true rfl) ⟨by show _ ≤ 137; omega, by show _ ≤ 6214; omega⟩ dec_0_32 fun H1 locs1 hw => ?_
  refine n_putR (a := qm_ad 5 0) X hw fl_0_25 (by decide) (by decide) rfl rfl rfl rfl ⟨hin, rfl⟩ dec_0_35 fun H1 locs1 hw => ?_
  refine lv_aload_n X.1 X.2.1 dec_0_38 rfl (lv_at hl 0 rfl) ?_
  refine n_new2 (k := 6) (i := 0) (nf := 6) X hw (by omega) rfl (by omega) rfl (by decide) cl_0_29 in_6 ini_6 ⟨by show _ ≤ 137; omega, by show _ ≤ 6214; omega⟩ dec_0_39 fun H1 hw => ?_
  refine lv_dup X.1 X.2.1 dec_0_42 rfl ?_
  refine n_call (N' := 16) (h' := hR (uI (hL (uI (hT (uI (h) 1 0 2 1) 4) 1 0 3 1)) 1 0 4 1)) X hw (by omega) (met_R l (d - 1) (by omega) (uI (hL (uI (hT (uI (h) 1 0 2 1) 4) 1 0 3 1)) 1 0 4 1)) (by omega) cw_198 rfl rfl mn_198 mi_198 lk_0_31 ⟨by show _ ≤ d + 4; omega, by show 8 + (1 + 11) + _ ≤ 64 * d + 256; omega⟩ rfl hl.1 rfl (Nat.le_of_ble_eq_true rfl) ⟨by show _ ≤ 137; omega, by show _ ≤ 6214; omega⟩ dec_0_43 fun H1 locs1 hw => ?_
  refine n_putR (a := qm_ad 6 0) X hw fl_0_32 (by decide) (by decide) rfl rfl rfl rfl ⟨hin, rfl⟩ dec_0_46 fun H1 locs1 hw => ?_
  refine lv_aload_n X.1 X.2.1 dec_0_49 rfl (lv_at hl 0 rfl) ?_
  refine lv_sipush (v := nI 300) X.1 X.2.1 dec_0_50 (by decide) ?_
  refine n_newi2 (k := 52) (i := 0) (n := 300) X hw (by omega) (by omega) rfl rfl (by decide) (by decide) (nI_clamp (by decide)) ⟨by show _ ≤ 137; omega, by show _ ≤ 6214; omega⟩ dec_0_53 fun H1 hw => ?_
  refine n_putR (a := qm_ad 52 0) X hw fl_0_36 (by decide) (by decide) rfl rfl rfl rfl ⟨hin, rfl⟩ dec_0_55 fun H1 locs1 hw => ?_
  refine lv_aload_n X.1 X.2.1 dec_0_58 rfl (lv_at hl 0 rfl) ?_
  refine lv_iconst (v := nI 0) X.1 X.2.1 dec_0_59 (by decide) ?_
  refine n_putI X hw fl_0_40 (by decide) (by decide) (Or.inl rfl) (by first | exact Or.inl rfl | exact Or.inr ⟨hin, rfl⟩) dec_0_60 fun H1 locs1 hw => ?_
  refine lv_aload_n X.1 X.2.1 dec_0_63 rfl (lv_at hl 0 rfl) ?_
  refine lv_iconst (v := nI 0) X.1 X.2.1 dec_0_64 (by decide) ?_
  refine n_putI X hw fl_0_44 (by decide) (by decide) (Or.inr ⟨rfl, rfl⟩) (by first | exact Or.inl rfl | exact Or.inr ⟨hin, rfl⟩) dec_0_65 fun H1 locs1 hw => ?_
  refine lv_aload_n X.1 X.2.1 dec_0_68 rfl (lv_at hl 0 rfl) ?_
  refine lv_bipush (v := nI 48) X.1 X.2.1 dec_0_69 (by decide) ?_
  refine n_newi2 (k := 53) (i := 0) (n := 48) X hw (by omega) (by omega) rfl rfl (by decide) (by decide) (nI_clamp (by decide)) ⟨by show _ ≤ 137; omega, by show _ ≤ 6214; omega⟩ dec_0_71 fun H1 hw => ?_
  refine n_putR (a := qm_ad 53 0) X hw fl_0_48 (by decide) (by decide) rfl rfl rfl rfl ⟨hin, rfl⟩ dec_0_73 fun H1 locs1 hw => ?_
  refine lv_aload_n X.1 X.2.1 dec_0_76 rfl (lv_at hl 0 rfl) ?_
  refine lv_bipush (v := nI 8) X.1 X.2.1 dec_0_77 (by decide) ?_
  refine n_newi2 (k := 54) (i := 0) (n := 8) X hw (by omega) (by omega) rfl rfl (by decide) (by decide) (nI_clamp (by decide)) ⟨by show _ ≤ 137; omega, by show _ ≤ 6214; omega⟩ dec_0_79 fun H1 hw => ?_
  refine n_putR (a := qm_ad 54 0) X hw fl_0_51 (by decide) (by decide) rfl rfl rfl rfl ⟨hin, rfl⟩ dec_0_81 fun H1 locs1 hw => ?_
  refine lv_aload_n X.1 X.2.1 dec_0_84 rfl (lv_at hl 0 rfl) ?_
  refine lv_bipush (v := nI 8) X.1 X.2.1 dec_0_85 (by decide) ?_
  refine n_newi2 (k := 55) (i := 0) (n := 8) X hw (by omega) (by omega) rfl rfl (by decide) (by decide) (nI_clamp (by decide)) ⟨by show _ ≤ 137; omega, by show _ ≤ 6214; omega⟩ dec_0_87 fun H1 hw => ?_
  refine n_putR (a := qm_ad 55 0) X hw fl_0_54 (by decide) (by decide) rfl rfl rfl rfl ⟨hin, rfl⟩ dec_0_89 fun H1 locs1 hw => ?_
  refine lv_iconst (v := nI 2) X.1 X.2.1 dec_0_92 (by decide) ?_
  refine lv_bipush (v := nI 6) X.1 X.2.1 dec_0_93 (by decide) ?_
  refine lv_iload_n X.1 X.2.1 dec_0_95 rfl (lv_at hl 1 rfl) ?_
  refine va_mmin X.1 X.2.1 (X.2.2.1.trans hl.1.symm) X.2.2.2.1 (X.2.2.2.2.1 _ lm_0_57.tb) (X.2.2.2.2.1 _ is_82.tb) (X.2.2.2.2.1 _ ii_M.tb) (X.2.2.2.2.1 _ icw_82.tb) (by show 1 ≤ d + 4; omega) (by show 1 + 13 ≤ 64 * d + 256; omega) (by show _ ≤ 137; omega) (by show _ ≤ 6214; omega) dec_0_96 ?_
  refine va_mmax X.1 X.2.1 (X.2.2.1.trans hl.1.symm) X.2.2.2.1 (X.2.2.2.2.1 _ lm_0_63.tb) (X.2.2.2.2.1 _ is_81.tb) (X.2.2.2.2.1 _ ii_M.tb) (X.2.2.2.2.1 _ icw_81.tb) (by show 1 ≤ d + 4; omega) (by show 0 + 13 ≤ 64 * d + 256; omega) (by show _ ≤ 137; omega) (by show _ ≤ 6214; omega) dec_0_99 ?_
  rw [hv]
  refine lv_istore_n X.1 X.2.1 dec_0_102 rfl hl (by decide) rfl fun als hl => ?_
  refine lv_aload_n X.1 X.2.1 dec_0_103 rfl (lv_at hl 1 rfl) ?_
  refine n_new2 (k := 2) (i := 0) (nf := 13) X hw (by omega) rfl (by omega) rfl (by decide) cl_0_66 in_2 ini_2 ⟨by show _ ≤ 137; omega, by show _ ≤ 6214; omega⟩ dec_0_104 fun H1 hw => ?_
  refine lv_dup X.1 X.2.1 dec_0_107 rfl ?_
  refine lv_iload_n X.1 X.2.1 dec_0_108 rfl (lv_at hl 0 rfl) ?_
  refine n_call (N' := 37) (h' := hY (uI (uI (uI (uI (uI (uI (uI (hR (uI (hL (uI (hT (uI (h) 1 0 2 1) 4) 1 0 3 1)) 1 0 4 1)) 1 0 5 1) 1 0 6 1) 1 0 7 (nI 0)) 1 0 8 (nI 0)) 1 0 12 1) 1 0 13 1) 1 0 14 1) 0 v) X hw (by omega) (met_Y l (d - 1) (by omega) 0 21 (by decide) rfl v (uI (uI (uI (uI (uI (uI (uI (hR (uI (hL (uI (hT (uI (h) 1 0 2 1) 4) 1 0 3 1)) 1 0 4 1)) 1 0 5 1) 1 0 6 1) 1 0 7 (nI 0)) 1 0 8 (nI 0)) 1 0 12 1) 1 0 13 1) 1 0 14 1)) (by omega) cw_238 rfl rfl mn_238 mi_238 lk_0_68 ⟨by show _ ≤ d + 4; omega, by show 8 + (2 + 11) + _ ≤ 64 * d + 256; omega⟩ rfl hl.1 rfl (Nat.le_of_ble_eq_true rfl) ⟨by show _ ≤ 137; omega, by show _ ≤ 6214; omega⟩ dec_0_109 fun H1 locs1 hw => ?_
  refine n_putR (a := qm_ad 2 0) X hw fl_0_71 (by decide) (by decide) rfl rfl rfl rfl ⟨hin, rfl⟩ dec_0_112 fun H1 locs1 hw => ?_
  refine lv_aload_n X.1 X.2.1 dec_0_115 rfl (lv_at hl 1 rfl) ?_
  refine n_new2 (k := 2) (i := 1) (nf := 13) X hw (by omega) rfl (by omega) rfl (by decide) cl_0_66 in_2 ini_2 ⟨by show _ ≤ 137; omega, by show _ ≤ 6214; omega⟩ dec_0_116 fun H1 hw => ?_
  refine lv_dup X.1 X.2.1 dec_0_119 rfl ?_
  refine lv_iload_n X.1 X.2.1 dec_0_120 rfl (lv_at hl 0 rfl) ?_
  refine n_call (N' := 54) (h' := hY (uI (hY (uI (uI (uI (uI (uI (uI (uI (hR (uI (hL (uI (hT (uI (h) 1 0 2 1) 4) 1 0 3 1)) 1 0 4 1)) 1 0 5 1) 1 0 6 1) 1 0 7 (nI 0)) 1 0 8 (nI 0)) 1 0 12 1) 1 0 13 1) 1 0 14 1) 0 v) 1 0 0 1) 1 v) X hw (by omega) (met_Y l (d - 1) (by omega) 1 38 (by decide) rfl v (uI (hY (uI (uI (uI (uI (uI (uI (uI (hR (uI (hL (uI (hT (uI (h) 1 0 2 1) 4) 1 0 3 1)) 1 0 4 1)) 1 0 5 1) 1 0 6 1) 1 0 7 (nI 0)) 1 0 8 (nI 0)) 1 0 12 1) 1 0 13 1) 1 0 14 1) 0 v) 1 0 0 1)) (by omega) cw_238 rfl rfl mn_238 mi_238 lk_0_68 ⟨by show _ ≤ d + 4; omega, by show 8 + (2 + 11) + _ ≤ 64 * d + 256; omega⟩ rfl hl.1 rfl (Nat.le_of_ble_eq_true rfl) ⟨by show _ ≤ 137; omega, by show _ ≤ 6214; omega⟩ dec_0_121 fun H1 locs1 hw => ?_
  refine n_putR (a := qm_ad 2 1) X hw fl_0_75 (by decide) (by decide) rfl rfl rfl rfl ⟨hin, rfl⟩ dec_0_124 fun H1 locs1 hw => ?_
  refine lv_aload_n X.1 X.2.1 dec_0_127 rfl (lv_at hl 1 rfl) ?_
  refine n_new2 (k := 3) (i := 2) (nf := 13) X hw (by omega) rfl (by omega) rfl (by decide) cl_0_78 in_3 ini_3 ⟨by show _ ≤ 137; omega, by show _ ≤ 6214; omega⟩ dec_0_128 fun H1 hw => ?_
  refine lv_dup X.1 X.2.1 dec_0_131 rfl ?_
  refine lv_iload_n X.1 X.2.1 dec_0_132 rfl (lv_at hl 0 rfl) ?_
  refine n_call (N' := 62) (h' := hP (uI (hY (uI (hY (uI (uI (uI (uI (uI (uI (uI (hR (uI (hL (uI (hT (uI (h) 1 0 2 1) 4) 1 0 3 1)) 1 0 4 1)) 1 0 5 1) 1 0 6 1) 1 0 7 (nI 0)) 1 0 8 (nI 0)) 1 0 12 1) 1 0 13 1) 1 0 14 1) 0 v) 1 0 0 1) 1 v) 1 0 1 1) 2 v) X hw (by omega) (met_P l (d - 1) 2 55 (by decide) rfl v (uI (hY (uI (hY (uI (uI (uI (uI (uI (uI (uI (hR (uI (hL (uI (hT (uI (h) 1 0 2 1) 4) 1 0 3 1)) 1 0 4 1)) 1 0 5 1) 1 0 6 1) 1 0 7 (nI 0)) 1 0 8 (nI 0)) 1 0 12 1) 1 0 13 1) 1 0 14 1) 0 v) 1 0 0 1) 1 v) 1 0 1 1)) (by omega) cw_183 rfl rfl mn_183 mi_183 lk_0_80 ⟨by show _ ≤ d + 4; omega, by show 8 + (2 + 11) + _ ≤ 64 * d + 256; omega⟩ rfl hl.1 rfl (Nat.le_of_ble_eq_true rfl) ⟨by show _ ≤ 137; omega, by show _ ≤ 6214; omega⟩ dec_0_133 fun H1 locs1 hw => ?_
  refine n_putR (a := qm_ad 3 2) X hw fl_0_81 (by decide) (by decide) rfl rfl rfl rfl ⟨hin, rfl⟩ dec_0_136 fun H1 locs1 hw => ?_
  refine lv_aload_n X.1 X.2.1 dec_0_139 rfl (lv_at hl 1 rfl) ?_
  refine n_new2 (k := 3) (i := 3) (nf := 13) X hw (by omega) rfl (by omega) rfl (by decide) cl_0_78 in_3 ini_3 ⟨by show _ ≤ 137; omega, by show _ ≤ 6214; omega⟩ dec_0_140 fun H1 hw => ?_
  refine lv_dup X.1 X.2.1 dec_0_143 rfl ?_
  refine lv_iload_n X.1 X.2.1 dec_0_144 rfl (lv_at hl 0 rfl) ?_
  refine n_call (N' := 70) (h' := hP (uI (hP (uI (hY (uI (hY (uI (uI (uI (uI (uI (uI (uI (hR (uI (hL (uI (hT (uI (h) 1 0 2 1) 4) 1 0 3 1)) 1 0 4 1)) 1 0 5 1) 1 0 6 1) 1 0 7 (nI 0)) 1 0 8 (nI 0)) 1 0 12 1) 1 0 13 1) 1 0 14 1) 0 v) 1 0 0 1) 1 v) 1 0 1 1) 2 v) 1 0 9 1) 3 v) X hw (by omega) (met_P l (d - 1) 3 63 (by decide) rfl v (uI (hP (uI (hY (uI (hY (uI (uI (uI (uI (uI (uI (uI (hR (uI (hL (uI (hT (uI (h) 1 0 2 1) 4) 1 0 3 1)) 1 0 4 1)) 1 0 5 1) 1 0 6 1) 1 0 7 (nI 0)) 1 0 8 (nI 0)) 1 0 12 1) 1 0 13 1) 1 0 14 1) 0 v) 1 0 0 1) 1 v) 1 0 1 1) 2 v) 1 0 9 1)) (by omega) cw_183 rfl rfl mn_183 mi_183 lk_0_80 ⟨by show _ ≤ d + 4; omega, by show 8 + (2 + 11) + _ ≤ 64 * d + 256; omega⟩ rfl hl.1 rfl (Nat.le_of_ble_eq_true rfl) ⟨by show _ ≤ 137; omega, by show _ ≤ 6214; omega⟩ dec_0_145 fun H1 locs1 hw => ?_
  refine n_putR (a := qm_ad 3 3) X hw fl_0_85 (by decide) (by decide) rfl rfl rfl rfl ⟨hin, rfl⟩ dec_0_148 fun H1 locs1 hw => ?_
  refine lv_aload_n X.1 X.2.1 dec_0_151 rfl (lv_at hl 1 rfl) ?_
  refine n_new2 (k := 8) (i := 0) (nf := 5) X hw (by omega) rfl (by omega) rfl (by decide) cl_0_88 in_8 ini_8 ⟨by show _ ≤ 137; omega, by show _ ≤ 6214; omega⟩ dec_0_152 fun H1 hw => ?_
  refine lv_dup X.1 X.2.1 dec_0_155 rfl ?_
  refine lv_iload_n X.1 X.2.1 dec_0_156 rfl (lv_at hl 0 rfl) ?_
  refine n_call (N' := 114) (h' := hS (uI (hP (uI (hP (uI (hY (uI (hY (uI (uI (uI (uI (uI (uI (uI (hR (uI (hL (uI (hT (uI (h) 1 0 2 1) 4) 1 0 3 1)) 1 0 4 1)) 1 0 5 1) 1 0 6 1) 1 0 7 (nI 0)) 1 0 8 (nI 0)) 1 0 12 1) 1 0 13 1) 1 0 14 1) 0 v) 1 0 0 1) 1 v) 1 0 1 1) 2 v) 1 0 9 1) 3 v) 1 0 10 1) v) X hw (by omega) (met_S l (d - 1) (by omega) v (uI (hP (uI (hP (uI (hY (uI (hY (uI (uI (uI (uI (uI (uI (uI (hR (uI (hL (uI (hT (uI (h) 1 0 2 1) 4) 1 0 3 1)) 1 0 4 1)) 1 0 5 1) 1 0 6 1) 1 0 7 (nI 0)) 1 0 8 (nI 0)) 1 0 12 1) 1 0 13 1) 1 0 14 1) 0 v) 1 0 0 1) 1 v) 1 0 1 1) 2 v) 1 0 9 1) 3 v) 1 0 10 1)) (by omega) cw_217 rfl rfl mn_217 mi_217 lk_0_90 ⟨by show _ ≤ d + 4; omega, by show 8 + (3 + 11) + _ ≤ 64 * d + 256; omega⟩ rfl hl.1 rfl (Nat.le_of_ble_eq_true rfl) ⟨by show _ ≤ 137; omega, by show _ ≤ 6214; omega⟩ dec_0_157 fun H1 locs1 hw => ?_
  refine n_putR (a := qm_ad 8 0) X hw fl_0_91 (by decide) (by decide) rfl rfl rfl rfl ⟨hin, rfl⟩ dec_0_160 fun H1 locs1 hw => ?_
  refine lv_iconst (v := nI 0) X.1 X.2.1 dec_0_163 (by decide) ?_
  refine lv_istore_n X.1 X.2.1 dec_0_164 rfl hl (by decide) rfl fun als hl => ?_
  refine lv_iload_n X.1 X.2.1 dec_0_165 rfl (lv_at hl 0 rfl) ?_
  refine lv_iconst (v := nI 4) X.1 X.2.1 dec_0_166 (by decide) ?_
  refine lv_icmp_ge (tgt := 189) X.1 X.2.1 dec_0_167 rfl (fun hh => absurd hh (by decide)) (fun _ => ?_)
  refine lv_aload_n X.1 X.2.1 dec_0_170 rfl (lv_at hl 2 rfl) ?_
  refine n_getR (a := qm_ad 51 0) X hw fl_0_11 (by decide) (by decide) rfl rfl rfl dec_0_171 ?_
  refine lv_iload_n X.1 X.2.1 dec_0_174 rfl (lv_at hl 0 rfl) ?_
  refine n_new2 (k := 4) (i := 0) (nf := 7) X hw (by omega) rfl (by omega) rfl (by decide) cl_0_9 in_4 ini_4 ⟨by show _ ≤ 137; omega, by show _ ≤ 6214; omega⟩ dec_0_175 fun H1 hw => ?_
  refine lv_dup X.1 X.2.1 dec_0_178 rfl ?_
  refine n_call (N' := 120) (h' := hT (uI (hS (uI (hP (uI (hP (uI (hY (uI (hY (uI (uI (uI (uI (uI (uI (uI (hR (uI (hL (uI (hT (uI (h) 1 0 2 1) 4) 1 0 3 1)) 1 0 4 1)) 1 0 5 1) 1 0 6 1) 1 0 7 (nI 0)) 1 0 8 (nI 0)) 1 0 12 1) 1 0 13 1) 1 0 14 1) 0 v) 1 0 0 1) 1 v) 1 0 1 1) 2 v) 1 0 9 1) 3 v) 1 0 10 1) v) 1 0 11 1) 0) X hw (by omega) (met_T l (d - 1) 0 115 (by decide) rfl (uI (hS (uI (hP (uI (hP (uI (hY (uI (hY (uI (uI (uI (uI (uI (uI (uI (hR (uI (hL (uI (hT (uI (h) 1 0 2 1) 4) 1 0 3 1)) 1 0 4 1)) 1 0 5 1) 1 0 6 1) 1 0 7 (nI 0)) 1 0 8 (nI 0)) 1 0 12 1) 1 0 13 1) 1 0 14 1) 0 v) 1 0 0 1) 1 v) 1 0 1 1) 2 v) 1 0 9 1) 3 v) 1 0 10 1) v) 1 0 11 1)) (by omega) cw_221 rfl rfl mn_221 mi_221 lk_0_15 ⟨by show _ ≤ d + 4; omega, by show 8 + (1 + 11) + _ ≤ 64 * d + 256; omega⟩ rfl hl.1 rfl (Nat.le_of_ble_eq_true rfl) ⟨by show _ ≤ 137; omega, by show _ ≤ 6214; omega⟩ dec_0_179 fun H1 locs1 hw => ?_
  refine n_astt (j := 0) X hw (by decide) (by decide) (by decide) dec_0_182 fun H1 locs1 hw => ?_
  refine lv_iinc (k := 0) (v := nI 1) X.1 X.2.1 dec_0_183 hl rfl (by decide) (by decide) rfl fun als hl => ?_
  refine lv_goto (tgt := 165) X.1 X.2.1 dec_0_186 rfl ?_
  refine lv_iload_n X.1 X.2.1 dec_0_165 rfl (lv_at hl 0 rfl) ?_
  refine lv_iconst (v := nI 4) X.1 X.2.1 dec_0_166 (by decide) ?_
  refine lv_icmp_ge (tgt := 189) X.1 X.2.1 dec_0_167 rfl (fun hh => absurd hh (by decide)) (fun _ => ?_)
  refine lv_aload_n X.1 X.2.1 dec_0_170 rfl (lv_at hl 2 rfl) ?_
  refine n_getR (a := qm_ad 51 0) X hw fl_0_11 (by decide) (by decide) rfl rfl rfl dec_0_171 ?_
  refine lv_iload_n X.1 X.2.1 dec_0_174 rfl (lv_at hl 0 rfl) ?_
  refine n_new2 (k := 4) (i := 1) (nf := 7) X hw (by omega) rfl (by omega) rfl (by decide) cl_0_9 in_4 ini_4 ⟨by show _ ≤ 137; omega, by show _ ≤ 6214; omega⟩ dec_0_175 fun H1 hw => ?_
  refine lv_dup X.1 X.2.1 dec_0_178 rfl ?_
  refine n_call (N' := 126) (h' := hT (uI (hT (uI (hS (uI (hP (uI (hP (uI (hY (uI (hY (uI (uI (uI (uI (uI (uI (uI (hR (uI (hL (uI (hT (uI (h) 1 0 2 1) 4) 1 0 3 1)) 1 0 4 1)) 1 0 5 1) 1 0 6 1) 1 0 7 (nI 0)) 1 0 8 (nI 0)) 1 0 12 1) 1 0 13 1) 1 0 14 1) 0 v) 1 0 0 1) 1 v) 1 0 1 1) 2 v) 1 0 9 1) 3 v) 1 0 10 1) v) 1 0 11 1) 0) 51 0 0 1) 1) X hw (by omega) (met_T l (d - 1) 1 121 (by decide) rfl (uI (hT (uI (hS (uI (hP (uI (hP (uI (hY (uI (hY (uI (uI (uI (uI (uI (uI (uI (hR (uI (hL (uI (hT (uI (h) 1 0 2 1) 4) 1 0 3 1)) 1 0 4 1)) 1 0 5 1) 1 0 6 1) 1 0 7 (nI 0)) 1 0 8 (nI 0)) 1 0 12 1) 1 0 13 1) 1 0 14 1) 0 v) 1 0 0 1) 1 v) 1 0 1 1) 2 v) 1 0 9 1) 3 v) 1 0 10 1) v) 1 0 11 1) 0) 51 0 0 1)) (by omega) cw_221 rfl rfl mn_221 mi_221 lk_0_15 ⟨by show _ ≤ d + 4; omega, by show 8 + (1 + 11) + _ ≤ 64 * d + 256; omega⟩ rfl hl.1 rfl (Nat.le_of_ble_eq_true rfl) ⟨by show _ ≤ 137; omega, by show _ ≤ 6214; omega⟩ dec_0_179 fun H1 locs1 hw => ?_
  refine n_astt (j := 1) X hw (by decide) (by decide) (by decide) dec_0_182 fun H1 locs1 hw => ?_
  refine lv_iinc (k := 0) (v := nI 2) X.1 X.2.1 dec_0_183 hl rfl (by decide) (by decide) rfl fun als hl => ?_
  refine lv_goto (tgt := 165) X.1 X.2.1 dec_0_186 rfl ?_
  refine lv_iload_n X.1 X.2.1 dec_0_165 rfl (lv_at hl 0 rfl) ?_
  refine lv_iconst (v := nI 4) X.1 X.2.1 dec_0_166 (by decide) ?_
  refine lv_icmp_ge (tgt := 189) X.1 X.2.1 dec_0_167 rfl (fun hh => absurd hh (by decide)) (fun _ => ?_)
  refine lv_aload_n X.1 X.2.1 dec_0_170 rfl (lv_at hl 2 rfl) ?_
  refine n_getR (a := qm_ad 51 0) X hw fl_0_11 (by decide) (by decide) rfl rfl rfl dec_0_171 ?_
  refine lv_iload_n X.1 X.2.1 dec_0_174 rfl (lv_at hl 0 rfl) ?_
  refine n_new2 (k := 4) (i := 2) (nf := 7) X hw (by omega) rfl (by omega) rfl (by decide) cl_0_9 in_4 ini_4 ⟨by show _ ≤ 137; omega, by show _ ≤ 6214; omega⟩ dec_0_175 fun H1 hw => ?_
  refine lv_dup X.1 X.2.1 dec_0_178 rfl ?_
  refine n_call (N' := 132) (h' := hT (uI (hT (uI (hT (uI (hS (uI (hP (uI (hP (uI (hY (uI (hY (uI (uI (uI (uI (uI (uI (uI (hR (uI (hL (uI (hT (uI (h) 1 0 2 1) 4) 1 0 3 1)) 1 0 4 1)) 1 0 5 1) 1 0 6 1) 1 0 7 (nI 0)) 1 0 8 (nI 0)) 1 0 12 1) 1 0 13 1) 1 0 14 1) 0 v) 1 0 0 1) 1 v) 1 0 1 1) 2 v) 1 0 9 1) 3 v) 1 0 10 1) v) 1 0 11 1) 0) 51 0 0 1) 1) 51 0 1 1) 2) X hw (by omega) (met_T l (d - 1) 2 127 (by decide) rfl (uI (hT (uI (hT (uI (hS (uI (hP (uI (hP (uI (hY (uI (hY (uI (uI (uI (uI (uI (uI (uI (hR (uI (hL (uI (hT (uI (h) 1 0 2 1) 4) 1 0 3 1)) 1 0 4 1)) 1 0 5 1) 1 0 6 1) 1 0 7 (nI 0)) 1 0 8 (nI 0)) 1 0 12 1) 1 0 13 1) 1 0 14 1) 0 v) 1 0 0 1) 1 v) 1 0 1 1) 2 v) 1 0 9 1) 3 v) 1 0 10 1) v) 1 0 11 1) 0) 51 0 0 1) 1) 51 0 1 1)) (by omega) cw_221 rfl rfl mn_221 mi_221 lk_0_15 ⟨by show _ ≤ d + 4; omega, by show 8 + (1 + 11) + _ ≤ 64 * d + 256; omega⟩ rfl hl.1 rfl (Nat.le_of_ble_eq_true rfl) ⟨by show _ ≤ 137; omega, by show _ ≤ 6214; omega⟩ dec_0_179 fun H1 locs1 hw => ?_
  refine n_astt (j := 2) X hw (by decide) (by decide) (by decide) dec_0_182 fun H1 locs1 hw => ?_
  refine lv_iinc (k := 0) (v := nI 3) X.1 X.2.1 dec_0_183 hl rfl (by decide) (by decide) rfl fun als hl => ?_
  refine lv_goto (tgt := 165) X.1 X.2.1 dec_0_186 rfl ?_
  refine lv_iload_n X.1 X.2.1 dec_0_165 rfl (lv_at hl 0 rfl) ?_
  refine lv_iconst (v := nI 4) X.1 X.2.1 dec_0_166 (by decide) ?_
  refine lv_icmp_ge (tgt := 189) X.1 X.2.1 dec_0_167 rfl (fun hh => absurd hh (by decide)) (fun _ => ?_)
  refine lv_aload_n X.1 X.2.1 dec_0_170 rfl (lv_at hl 2 rfl) ?_
  refine n_getR (a := qm_ad 51 0) X hw fl_0_11 (by decide) (by decide) rfl rfl rfl dec_0_171 ?_
  refine lv_iload_n X.1 X.2.1 dec_0_174 rfl (lv_at hl 0 rfl) ?_
  refine n_new2 (k := 4) (i := 3) (nf := 7) X hw (by omega) rfl (by omega) rfl (by decide) cl_0_9 in_4 ini_4 ⟨by show _ ≤ 137; omega, by show _ ≤ 6214; omega⟩ dec_0_175 fun H1 hw => ?_
  refine lv_dup X.1 X.2.1 dec_0_178 rfl ?_
  refine n_call (N' := 138) (h' := hT (uI (hT (uI (hT (uI (hT (uI (hS (uI (hP (uI (hP (uI (hY (uI (hY (uI (uI (uI (uI (uI (uI (uI (hR (uI (hL (uI (hT (uI (h) 1 0 2 1) 4) 1 0 3 1)) 1 0 4 1)) 1 0 5 1) 1 0 6 1) 1 0 7 (nI 0)) 1 0 8 (nI 0)) 1 0 12 1) 1 0 13 1) 1 0 14 1) 0 v) 1 0 0 1) 1 v) 1 0 1 1) 2 v) 1 0 9 1) 3 v) 1 0 10 1) v) 1 0 11 1) 0) 51 0 0 1) 1) 51 0 1 1) 2) 51 0 2 1) 3) X hw (by omega) (met_T l (d - 1) 3 133 (by decide) rfl (uI (hT (uI (hT (uI (hT (uI (hS (uI (hP (uI (hP (uI (hY (uI (hY (uI (uI (uI (uI (uI (uI (uI (hR (uI (hL (uI (hT (uI (h) 1 0 2 1) 4) 1 0 3 1)) 1 0 4 1)) 1 0 5 1) 1 0 6 1) 1 0 7 (nI 0)) 1 0 8 (nI 0)) 1 0 12 1) 1 0 13 1) 1 0 14 1) 0 v) 1 0 0 1) 1 v) 1 0 1 1) 2 v) 1 0 9 1) 3 v) 1 0 10 1) v) 1 0 11 1) 0) 51 0 0 1) 1) 51 0 1 1) 2) 51 0 2 1)) (by omega) cw_221 rfl rfl mn_221 mi_221 lk_0_15 ⟨by show _ ≤ d + 4; omega, by show 8 + (1 + 11) + _ ≤ 64 * d + 256; omega⟩ rfl hl.1 rfl (Nat.le_of_ble_eq_true rfl) ⟨by show _ ≤ 137; omega, by show _ ≤ 6214; omega⟩ dec_0_179 fun H1 locs1 hw => ?_
  refine n_astt (j := 3) X hw (by decide) (by decide) (by decide) dec_0_182 fun H1 locs1 hw => ?_
  refine lv_iinc (k := 0) (v := nI 4) X.1 X.2.1 dec_0_183 hl rfl (by decide) (by decide) rfl fun als hl => ?_
  refine lv_goto (tgt := 165) X.1 X.2.1 dec_0_186 rfl ?_
  refine lv_iload_n X.1 X.2.1 dec_0_165 rfl (lv_at hl 0 rfl) ?_
  refine lv_iconst (v := nI 4) X.1 X.2.1 dec_0_166 (by decide) ?_
  refine lv_icmp_ge (tgt := 189) X.1 X.2.1 dec_0_167 rfl (fun _ => ?_) (fun hh => absurd (by decide) hh)
  exact fin _ _ _ _ dec_0_189 hw
