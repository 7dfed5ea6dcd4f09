/-! printed by wip/whole/gen/ctor.py: contracts of constructors -/
def hR (h : qm_Hp) : qm_Hp := uI (uI (uI (uI (uP (uI (hK (h)) 6 0 0 1) 6 0 1 (0, 0)) 6 0 2 (nI 0)) 6 0 3 N1) 6 0 4 (nI 0)) 6 0 5 N1
theorem met_R (l : Launch) (d : Nat) {B0 sb sa sv L : Nat} {xs : Nat → Int32} {dC : Nat → ClassId} {dI : Nat → Nat → Nat} {cs : Nat × Nat × Nat × Nat × Nat} (h0 : 1 ≤ d) (h : qm_Hp) : qn_M l 198 d 4 907 B0 sb sa sv L xs dC dI cs [.ref (B0 + qm_ad 6 0)] 12 h 16 (hR h) := by
  refine n_met cw_198 (by decide) rfl rfl (Nat.le_of_ble_eq_true rfl) ?_
  intro p e s m below meth c als X hin hcn hw hl fin
  refine lv_aload_n X.1 X.2.1 dec_198_0 rfl (lv_at hl 0 rfl) ?_
  refine n_obj X ol_198 hl.1 ⟨by show 1 ≤ d + 4; omega, by show 12 ≤ 64 * d + 256; omega⟩ dec_198_1 ?_
  refine lv_aload_n X.1 X.2.1 dec_198_4 rfl (lv_at hl 0 rfl) ?_
  refine n_new2 (k := 7) (i := 0) (nf := 4) X hw (by omega) rfl (by omega) rfl (by decide) cl_198_9 in_7 ini_7 ⟨by show _ ≤ 4; omega, by show _ ≤ 907; omega⟩ dec_198_5 fun H1 hw => ?_
  refine lv_dup X.1 X.2.1 dec_198_8 rfl ?_
  refine n_call (N' := 16) (h' := hK (h)) X hw (by omega) (met_K l (d - 1) (h)) (by omega) cw_228 rfl rfl mn_228 mi_228 lk_198_11 ⟨by show _ ≤ d + 4; omega, by show 8 + (1 + 11) + _ ≤ 64 * d + 256; omega⟩ rfl hl.1 rfl (Nat.le_of_ble_eq_true rfl) ⟨by show _ ≤ 4; omega, by show _ ≤ 907; omega⟩ dec_198_9 fun H1 locs1 hw => ?_
  refine n_putR (a := qm_ad 7 0) X hw fl_198_12 (by decide) (by decide) rfl rfl rfl rfl ⟨hin, rfl⟩ dec_198_12 fun H1 locs1 hw => ?_
  refine lv_aload_n X.1 X.2.1 dec_198_15 rfl (lv_at hl 0 rfl) ?_
  refine lv_null X.1 X.2.1 dec_198_16 ?_
  refine n_putM (q := (0, 0)) X hw fl_198_18 (by decide) (by decide) rfl rfl rfl rfl rfl dec_198_17 fun H1 locs1 hw => ?_
  refine lv_aload_n X.1 X.2.1 dec_198_20 rfl (lv_at hl 0 rfl) ?_
  refine lv_iconst (v := nI 0) X.1 X.2.1 dec_198_21 (by decide) ?_
  refine n_putI X hw fl_198_22 (by decide) (by decide) (Or.inl rfl) (by first | exact Or.inl rfl | exact Or.inr ⟨hin, rfl⟩) dec_198_22 fun H1 locs1 hw => ?_
  refine lv_aload_n X.1 X.2.1 dec_198_25 rfl (lv_at hl 0 rfl) ?_
  refine lv_iconst (v := N1) X.1 X.2.1 dec_198_26 (by decide) ?_
  refine n_putI X hw fl_198_26 (by decide) (by decide) (Or.inl rfl) (by first | exact Or.inl rfl | exact Or.inr ⟨hin, rfl⟩) dec_198_27 fun H1 locs1 hw => ?_
  refine lv_aload_n X.1 X.2.1 dec_198_30 rfl (lv_at hl 0 rfl) ?_
  refine lv_iconst (v := nI 0) X.1 X.2.1 dec_198_31 (by decide) ?_
  refine n_putI X hw fl_198_29 (by decide) (by decide) (Or.inl rfl) (by first | exact Or.inl rfl | exact Or.inr ⟨hin, rfl⟩) dec_198_32 fun H1 locs1 hw => ?_
  refine lv_aload_n X.1 X.2.1 dec_198_35 rfl (lv_at hl 0 rfl) ?_
  refine lv_iconst (v := N1) X.1 X.2.1 dec_198_36 (by decide) ?_
  refine n_putI X hw fl_198_32 (by decide) (by decide) (Or.inl rfl) (by first | exact Or.inl rfl | exact Or.inr ⟨hin, rfl⟩) dec_198_37 fun H1 locs1 hw => ?_
  exact fin _ _ _ _ dec_198_40 hw
def hS (h : qm_Hp) (w : Int32) : qm_Hp := uI (hP (uI (hP (uI (hP (uI (hP (uI (hP (uI (uI (uI (uI (uI (h) 8 0 0 1) 8 0 1 1) 8 0 2 1) 8 0 3 (nI 0)) 8 0 4 (nI 0)) 4 w) 46 0 0 1) 5 w) 46 0 1 1) 6 w) 46 0 2 1) 7 w) 46 0 3 1) 8 w) 46 0 4 1
theorem met_S (l : Launch) (d : Nat) {B0 sb sa sv L : Nat} {xs : Nat → Int32} {dC : Nat → ClassId} {dI : Nat → Nat → Nat} {cs : Nat × Nat × Nat × Nat × Nat} (h0 : 1 ≤ d) (w : Int32) (h : qm_Hp) : qn_M l 217 d 43 1550 B0 sb sa sv L xs dC dI cs [.ref (B0 + qm_ad 8 0), .int w] 71 h 114 (hS h w) := by
  refine n_met cw_217 (by decide) rfl rfl (Nat.le_of_ble_eq_true rfl) ?_
  intro p e s m below meth c als X hin hcn hw hl fin
  refine lv_aload_n X.1 X.2.1 dec_217_0 rfl (lv_at hl 0 rfl) ?_
  refine n_obj X ol_217 hl.1 ⟨by show 1 ≤ d + 4; omega, by show 12 ≤ 64 * d + 256; omega⟩ dec_217_1 ?_
  refine lv_aload_n X.1 X.2.1 dec_217_4 rfl (lv_at hl 0 rfl) ?_
  refine lv_iconst (v := nI 5) X.1 X.2.1 dec_217_5 (by decide) ?_
  refine n_newp2 X hw (by omega) (by omega) rfl cl_217_9 (by decide) (nI_clamp (by decide)) ⟨by show _ ≤ 43; omega, by show _ ≤ 1550; omega⟩ dec_217_6 fun H1 hw => ?_
  refine n_putR (a := qm_ad 46 0) X hw fl_217_11 (by decide) (by decide) rfl rfl rfl rfl ⟨hin, rfl⟩ dec_217_9 fun H1 locs1 hw => ?_
  refine lv_aload_n X.1 X.2.1 dec_217_12 rfl (lv_at hl 0 rfl) ?_
  refine lv_iconst (v := nI 5) X.1 X.2.1 dec_217_13 (by decide) ?_
  refine n_newi2 (k := 47) (i := 0) (n := 5) X hw (by omega) (by omega) rfl rfl (by decide) (by decide) (nI_clamp (by decide)) ⟨by show _ ≤ 43; omega, by show _ ≤ 1550; omega⟩ dec_217_14 fun H1 hw => ?_
  refine n_putR (a := qm_ad 47 0) X hw fl_217_17 (by decide) (by decide) rfl rfl rfl rfl ⟨hin, rfl⟩ dec_217_16 fun H1 locs1 hw => ?_
  refine lv_aload_n X.1 X.2.1 dec_217_19 rfl (lv_at hl 0 rfl) ?_
  refine lv_iconst (v := nI 5) X.1 X.2.1 dec_217_20 (by decide) ?_
  refine n_newi2 (k := 48) (i := 0) (n := 5) X hw (by omega) (by omega) rfl rfl (by decide) (by decide) (nI_clamp (by decide)) ⟨by show _ ≤ 43; omega, by show _ ≤ 1550; omega⟩ dec_217_21 fun H1 hw => ?_
  refine n_putR (a := qm_ad 48 0) X hw fl_217_21 (by decide) (by decide) rfl rfl rfl rfl ⟨hin, rfl⟩ dec_217_23 fun H1 locs1 hw => ?_
  refine lv_aload_n X.1 X.2.1 dec_217_26 rfl (lv_at hl 0 rfl) ?_
  refine lv_iconst (v := nI 0) X.1 X.2.1 dec_217_27 (by decide) ?_
  refine n_putI X hw fl_217_24 (by decide) (by decide) (Or.inl rfl) (by first | exact Or.inl rfl | exact Or.inr ⟨hin, rfl⟩) dec_217_28 fun H1 locs1 hw => ?_
  refine lv_aload_n X.1 X.2.1 dec_217_31 rfl (lv_at hl 0 rfl) ?_
  refine lv_iconst (v := nI 0) X.1 X.2.1 dec_217_32 (by decide) ?_
  refine n_putI X hw fl_217_28 (by decide) (by decide) (Or.inl rfl) (by first | exact Or.inl rfl | exact Or.inr ⟨hin, rfl⟩) dec_217_33 fun H1 locs1 hw => ?_
  refine lv_iconst (v := nI 0) X.1 X.2.1 dec_217_36 (by decide) ?_
  refine lv_istore_n X.1 X.2.1 dec_217_37 rfl hl (by decide) rfl fun als hl => ?_
  refine lv_iload_n X.1 X.2.1 dec_217_38 rfl (lv_at hl 0 rfl) ?_
  refine lv_iconst (v := nI 5) X.1 X.2.1 dec_217_39 (by decide) ?_
  refine lv_icmp_ge (tgt := 63) X.1 X.2.1 dec_217_40 rfl (fun hh => absurd hh (by decide)) (fun _ => ?_)
  refine lv_aload_n X.1 X.2.1 dec_217_43 rfl (lv_at hl 1 rfl) ?_
  refine n_getR (a := qm_ad 46 0) X hw fl_217_11 (by decide) (by decide) rfl rfl rfl dec_217_44 ?_
  refine lv_iload_n X.1 X.2.1 dec_217_47 rfl (lv_at hl 0 rfl) ?_
  refine n_new2 (k := 3) (i := 4) (nf := 13) X hw (by omega) rfl (by omega) rfl (by decide) cl_217_9 in_3 ini_3 ⟨by show _ ≤ 43; omega, by show _ ≤ 1550; omega⟩ dec_217_48 fun H1 hw => ?_
  refine lv_dup X.1 X.2.1 dec_217_51 rfl ?_
  refine lv_iload_n X.1 X.2.1 dec_217_52 rfl (lv_at hl 2 rfl) ?_
  refine n_call (N' := 82) (h' := hP (uI (uI (uI (uI (uI (h) 8 0 0 1) 8 0 1 1) 8 0 2 1) 8 0 3 (nI 0)) 8 0 4 (nI 0)) 4 w) X hw (by omega) (met_P l (d - 1) 4 75 (by decide) rfl w (uI (uI (uI (uI (uI (h) 8 0 0 1) 8 0 1 1) 8 0 2 1) 8 0 3 (nI 0)) 8 0 4 (nI 0))) (by omega) cw_183 rfl rfl mn_183 mi_183 lk_217_31 ⟨by show _ ≤ d + 4; omega, by show 8 + (2 + 11) + _ ≤ 64 * d + 256; omega⟩ rfl hl.1 rfl (Nat.le_of_ble_eq_true rfl) ⟨by show _ ≤ 43; omega, by show _ ≤ 1550; omega⟩ dec_217_53 fun H1 locs1 hw => ?_
  refine n_astp (j := 0) X hw (by decide) (by decide) (by decide) dec_217_56 fun H1 locs1 hw => ?_
  refine lv_iinc (k := 0) (v := nI 1) X.1 X.2.1 dec_217_57 hl rfl (by decide) (by decide) rfl fun als hl => ?_
  refine lv_goto (tgt := 38) X.1 X.2.1 dec_217_60 rfl ?_
  refine lv_iload_n X.1 X.2.1 dec_217_38 rfl (lv_at hl 0 rfl) ?_
  refine lv_iconst (v := nI 5) X.1 X.2.1 dec_217_39 (by decide) ?_
  refine lv_icmp_ge (tgt := 63) X.1 X.2.1 dec_217_40 rfl (fun hh => absurd hh (by decide)) (fun _ => ?_)
  refine lv_aload_n X.1 X.2.1 dec_217_43 rfl (lv_at hl 1 rfl) ?_
  refine n_getR (a := qm_ad 46 0) X hw fl_217_11 (by decide) (by decide) rfl rfl rfl dec_217_44 ?_
  refine lv_iload_n X.1 X.2.1 dec_217_47 rfl (lv_at hl 0 rfl) ?_
  refine n_new2 (k := 3) (i := 5) (nf := 13) X hw (by omega) rfl (by omega) rfl (by decide) cl_217_9 in_3 ini_3 ⟨by show _ ≤ 43; omega, by show _ ≤ 1550; omega⟩ dec_217_48 fun H1 hw => ?_
  refine lv_dup X.1 X.2.1 dec_217_51 rfl ?_
  refine lv_iload_n X.1 X.2.1 dec_217_52 rfl (lv_at hl 2 rfl) ?_
  refine n_call (N' := 90) (h' := hP (uI (hP (uI (uI (uI (uI (uI (h) 8 0 0 1) 8 0 1 1) 8 0 2 1) 8 0 3 (nI 0)) 8 0 4 (nI 0)) 4 w) 46 0 0 1) 5 w) X hw (by omega) (met_P l (d - 1) 5 83 (by decide) rfl w (uI (hP (uI (uI (uI (uI (uI (h) 8 0 0 1) 8 0 1 1) 8 0 2 1) 8 0 3 (nI 0)) 8 0 4 (nI 0)) 4 w) 46 0 0 1)) (by omega) cw_183 rfl rfl mn_183 mi_183 lk_217_31 ⟨by show _ ≤ d + 4; omega, by show 8 + (2 + 11) + _ ≤ 64 * d + 256; omega⟩ rfl hl.1 rfl (Nat.le_of_ble_eq_true rfl) ⟨by show _ ≤ 43; omega, by show _ ≤ 1550; omega⟩ dec_217_53 fun H1 locs1 hw => ?_
  refine n_astp (j := 1) X hw (by decide) (by decide) (by decide) dec_217_56 fun H1 locs1 hw => ?_
  refine lv_iinc (k := 0) (v := nI 2) X.1 X.2.1 dec_217_57 hl rfl (by decide) (by decide) rfl fun als hl => ?_
  refine lv_goto (tgt := 38) X.1 X.2.1 dec_217_60 rfl ?_
  refine lv_iload_n X.1 X.2.1 dec_217_38 rfl (lv_at hl 0 rfl) ?_
  refine lv_iconst (v := nI 5) X.1 X.2.1 dec_217_39 (by decide) ?_
  refine lv_icmp_ge (tgt := 63) X.1 X.2.1 dec_217_40 rfl (fun hh => absurd hh (by decide)) (fun _ => ?_)
  refine lv_aload_n X.1 X.2.1 dec_217_43 rfl (lv_at hl 1 rfl) ?_
  refine n_getR (a := qm_ad 46 0) X hw fl_217_11 (by decide) (by decide) rfl rfl rfl dec_217_44 ?_
  refine lv_iload_n X.1 X.2.1 dec_217_47 rfl (lv_at hl 0 rfl) ?_
  refine n_new2 (k := 3) (i := 6) (nf := 13) X hw (by omega) rfl (by omega) rfl (by decide) cl_217_9 in_3 ini_3 ⟨by show _ ≤ 43; omega, by show _ ≤ 1550; omega⟩ dec_217_48 fun H1 hw => ?_
  refine lv_dup X.1 X.2.1 dec_217_51 rfl ?_
  refine lv_iload_n X.1 X.2.1 dec_217_52 rfl (lv_at hl 2 rfl) ?_
  refine n_call (N' := 98) (h' := hP (uI (hP (uI (hP (uI (uI (uI (uI (uI (h) 8 0 0 1) 8 0 1 1) 8 0 2 1) 8 0 3 (nI 0)) 8 0 4 (nI 0)) 4 w) 46 0 0 1) 5 w) 46 0 1 1) 6 w) X hw (by omega) (met_P l (d - 1) 6 91 (by decide) rfl w (uI (hP (uI (hP (uI (uI (uI (uI (uI (h) 8 0 0 1) 8 0 1 1) 8 0 2 1) 8 0 3 (nI 0)) 8 0 4 (nI 0)) 4 w) 46 0 0 1) 5 w) 46 0 1 1)) (by omega) cw_183 rfl rfl mn_183 mi_183 lk_217_31 ⟨by show _ ≤ d + 4; omega, by show 8 + (2 + 11) + _ ≤ 64 * d + 256; omega⟩ rfl hl.1 rfl (Nat.le_of_ble_eq_true rfl) ⟨by show _ ≤ 43; omega, by show _ ≤ 1550; omega⟩ dec_217_53 fun H1 locs1 hw => ?_
  refine n_astp (j := 2) X hw (by decide) (by decide) (by decide) dec_217_56 fun H1 locs1 hw => ?_
  refine lv_iinc (k := 0) (v := nI 3) X.1 X.2.1 dec_217_57 hl rfl (by decide) (by decide) rfl fun als hl => ?_
  refine lv_goto (tgt := 38) X.1 X.2.1 dec_217_60 rfl ?_
  refine lv_iload_n X.1 X.2.1 dec_217_38 rfl (lv_at hl 0 rfl) ?_
  refine lv_iconst (v := nI 5) X.1 X.2.1 dec_217_39 (by decide) ?_
  refine lv_icmp_ge (tgt := 63) X.1 X.2.1 dec_217_40 rfl (fun hh => absurd hh (by decide)) (fun _ => ?_)
  refine lv_aload_n X.1 X.2.1 dec_217_43 rfl (lv_at hl 1 rfl) ?_
  refine n_getR (a := qm_ad 46 0) X hw fl_217_11 (by decide) (by decide) rfl rfl rfl dec_217_44 ?_
  refine lv_iload_n X.1 X.2.1 dec_217_47 rfl (lv_at hl 0 rfl) ?_
  refine n_new2 (k := 3) (i := 7) (nf := 13) X hw (by omega) rfl (by omega) rfl (by decide) cl_217_9 in_3 ini_3 ⟨by show _ ≤ 43; omega, by show _ ≤ 1550; omega⟩ dec_217_48 fun H1 hw => ?_
  refine lv_dup X.1 X.2.1 dec_217_51 rfl ?_
  refine lv_iload_n X.1 X.2.1 dec_217_52 rfl (lv_at hl 2 rfl) ?_
  refine n_call (N' := 106) (h' := hP (uI (hP (uI (hP (uI (hP (uI (uI (uI (uI (uI (h) 8 0 0 1) 8 0 1 1) 8 0 2 1) 8 0 3 (nI 0)) 8 0 4 (nI 0)) 4 w) 46 0 0 1) 5 w) 46 0 1 1) 6 w) 46 0 2 1) 7 w) X hw (by omega) (met_P l (d - 1) 7 99 (by decide) rfl w (uI (hP (uI (hP (uI (hP (uI (uI (uI (uI (uI (h) 8 0 0 1) 8 0 1 1) 8 0 2 1) 8 0 3 (nI 0)) 8 0 4 (nI 0)) 4 w) 46 0 0 1) 5 w) 46 0 1 1) 6 w) 46 0 2 1)) (by omega) cw_183 rfl rfl mn_183 mi_183 lk_217_31 ⟨by show _ ≤ d + 4; omega, by show 8 + (2 + 11) + _ ≤ 64 * d + 256; omega⟩ rfl hl.1 rfl (Nat.le_of_ble_eq_true rfl) ⟨by show _ ≤ 43; omega, by show _ ≤ 1550; omega⟩ dec_217_53 fun H1 locs1 hw => ?_
  refine n_astp (j := 3) X hw (by decide) (by decide) (by decide) dec_217_56 fun H1 locs1 hw => ?_
  refine lv_iinc (k := 0) (v := nI 4) X.1 X.2.1 dec_217_57 hl rfl (by decide) (by decide) rfl fun als hl => ?_
  refine lv_goto (tgt := 38) X.1 X.2.1 dec_217_60 rfl ?_
  refine lv_iload_n X.1 X.2.1 dec_217_38 rfl (lv_at hl 0 rfl) ?_
  refine lv_iconst (v := nI 5) X.1 X.2.1 dec_217_39 (by decide) ?_
  refine lv_icmp_ge (tgt := 63) X.1 X.2.1 dec_217_40 rfl (fun hh => absurd hh (by decide)) (fun _ => ?_)
  refine lv_aload_n X.1 X.2.1 dec_217_43 rfl (lv_at hl 1 rfl) ?_
  refine n_getR (a := qm_ad 46 0) X hw fl_217_11 (by decide) (by decide) rfl rfl rfl dec_217_44 ?_
  refine lv_iload_n X.1 X.2.1 dec_217_47 rfl (lv_at hl 0 rfl) ?_
  refine n_new2 (k := 3) (i := 8) (nf := 13) X hw (by omega) rfl (by omega) rfl (by decide) cl_217_9 in_3 ini_3 ⟨by show _ ≤ 43; omega, by show _ ≤ 1550; omega⟩ dec_217_48 fun H1 hw => ?_
  refine lv_dup X.1 X.2.1 dec_217_51 rfl ?_
  refine lv_iload_n X.1 X.2.1 dec_217_52 rfl (lv_at hl 2 rfl) ?_
  refine n_call (N' := 114) (h' := hP (uI (hP (uI (hP (uI (hP (uI (hP (uI (uI (uI (uI (uI (h) 8 0 0 1) 8 0 1 1) 8 0 2 1) 8 0 3 (nI 0)) 8 0 4 (nI 0)) 4 w) 46 0 0 1) 5 w) 46 0 1 1) 6 w) 46 0 2 1) 7 w) 46 0 3 1) 8 w) X hw (by omega) (met_P l (d - 1) 8 107 (by decide) rfl w (uI (hP (uI (hP (uI (hP (uI (hP (uI (uI (uI (uI (uI (h) 8 0 0 1) 8 0 1 1) 8 0 2 1) 8 0 3 (nI 0)) 8 0 4 (nI 0)) 4 w) 46 0 0 1) 5 w) 46 0 1 1) 6 w) 46 0 2 1) 7 w) 46 0 3 1)) (by omega) cw_183 rfl rfl mn_183 mi_183 lk_217_31 ⟨by show _ ≤ d + 4; omega, by show 8 + (2 + 11) + _ ≤ 64 * d + 256; omega⟩ rfl hl.1 rfl (Nat.le_of_ble_eq_true rfl) ⟨by show _ ≤ 43; omega, by show _ ≤ 1550; omega⟩ dec_217_53 fun H1 locs1 hw => ?_
  refine n_astp (j := 4) X hw (by decide) (by decide) (by decide) dec_217_56 fun H1 locs1 hw => ?_
  refine lv_iinc (k := 0) (v := nI 5) X.1 X.2.1 dec_217_57 hl rfl (by decide) (by decide) rfl fun als hl => ?_
  refine lv_goto (tgt := 38) X.1 X.2.1 dec_217_60 rfl ?_
  refine lv_iload_n X.1 X.2.1 dec_217_38 rfl (lv_at hl 0 rfl) ?_
  refine lv_iconst (v := nI 5) X.1 X.2.1 dec_217_39 (by decide) ?_
  refine lv_icmp_ge (tgt := 63) X.1 X.2.1 dec_217_40 rfl (fun _ => ?_) (fun hh => absurd (by decide) hh)
  exact fin _ _ _ _ dec_217_63 hw
