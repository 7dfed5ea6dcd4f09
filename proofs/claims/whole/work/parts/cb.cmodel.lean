/-! printed by wip/whole/gen/ctor.py: contract of a constructor -/
def hM0 (h : qm_Hp) (v : Int32) : qm_Hp := uI (uI (uI (uI (uI (uI (uI (uI (uI (uI (uI (uI (uI (uI (uI (uI (uI (uI (uI (uI (uI (uI (uI (uI (uI (h) 9 0 0 1) 9 0 3 1) 9 0 4 1) 9 0 6 N1) 9 0 7 N1) 9 0 17 1) 9 0 23 1) 9 0 24 1) 9 0 25 1) 9 0 26 1) 9 0 28 1) 9 0 29 1) 9 0 30 1) 9 0 32 1) 9 0 33 1) 9 0 34 1) 9 0 35 1) 9 0 36 1) 9 0 1 v) 61 0 3 N1) 61 0 7 N1) 61 0 11 (nI 2000)) 61 0 13 (nI 2000)) 61 0 15 (nI 2000)) 61 0 17 (nI 2000)
def hM (h : qm_Hp) (v : Int32) : qm_Hp := uC (hM0 h v) 61 0 (420 * 0) 61 0 (420 * 1) 420
set_option maxRecDepth 100000 in
theorem met_M (l : Launch) (d : Nat) {B0 sb sa sv L : Nat} {xs : Nat → Int32} {dC : Nat → ClassId} {dI : Nat → Nat → Nat} {cs : Nat × Nat × Nat × Nat × Nat} (h0 : 1 ≤ d) (w v : Int32) (hv : (if nI 2 ≤ w then (if w ≤ nI 6 then w else nI 6) else nI 2) = v) (h : qm_Hp) (hok : qm_okH (hM0 h v) ∧ (∀ j, j < L → zI (hM0 h v) 80 0 j = xs j) ∧ zI (hM0 h v) 82 0 0 = nI L) : qn_M l 55 d 16 7601 B0 sb sa sv L xs dC dI cs [.ref (B0 + qm_ad 9 0), .int w] 139 h 155 (hM h v) := by
  refine n_met cw_55 (by decide) rfl rfl (Nat.le_of_ble_eq_true rfl) ?_
  intro p e s m below meth c als X hin hcn hw hl fin
  refine lv_aload_n X.1 X.2.1 dec_55_0 rfl (lv_at hl 0 rfl) ?_
  refine n_obj X ol_55 hl.1 ⟨by show 1 ≤ d + 4; omega, by show 12 ≤ 64 * d + 256; omega⟩ dec_55_1 ?_
  refine lv_aload_n X.1 X.2.1 dec_55_4 rfl (lv_at hl 0 rfl) ?_
  refine lv_sipush (v := nI 3360) X.1 X.2.1 dec_55_5 (by decide) ?_
  refine n_newi2 (k := 61) (i := 0) (n := 3360) X hw (by omega) (by omega) rfl rfl (by decide) (by decide) (nI_clamp (by decide)) ⟨by show _ ≤ 16; omega, by show _ ≤ 7601; omega⟩ dec_55_8 fun H1 hw => ?_
  refine n_putR (a := qm_ad 61 0) X hw fl_55_7 (by decide) (by decide) rfl rfl rfl rfl ⟨hin, rfl⟩ dec_55_10 fun H1 locs1 hw => ?_
  refine lv_aload_n X.1 X.2.1 dec_55_13 rfl (lv_at hl 0 rfl) ?_
  refine lv_sipush (v := nI 2880) X.1 X.2.1 dec_55_14 (by decide) ?_
  refine n_newi2 (k := 62) (i := 0) (n := 2880) X hw (by omega) (by omega) rfl rfl (by decide) (by decide) (nI_clamp (by decide)) ⟨by show _ ≤ 16; omega, by show _ ≤ 7601; omega⟩ dec_55_17 fun H1 hw => ?_
  refine n_putR (a := qm_ad 62 0) X hw fl_55_13 (by decide) (by decide) rfl rfl rfl rfl ⟨hin, rfl⟩ dec_55_19 fun H1 locs1 hw => ?_
  refine lv_aload_n X.1 X.2.1 dec_55_22 rfl (lv_at hl 0 rfl) ?_
  refine lv_sipush (v := nI 300) X.1 X.2.1 dec_55_23 (by decide) ?_
  refine n_newi2 (k := 63) (i := 0) (n := 300) X hw (by omega) (by omega) rfl rfl (by decide) (by decide) (nI_clamp (by decide)) ⟨by show _ ≤ 16; omega, by show _ ≤ 7601; omega⟩ dec_55_26 fun H1 hw => ?_
  refine n_putR (a := qm_ad 63 0) X hw fl_55_16 (by decide) (by decide) rfl rfl rfl rfl ⟨hin, rfl⟩ dec_55_28 fun H1 locs1 hw => ?_
  refine lv_aload_n X.1 X.2.1 dec_55_31 rfl (lv_at hl 0 rfl) ?_
  refine lv_iconst (v := N1) X.1 X.2.1 dec_55_32 (by decide) ?_
  refine n_putI X hw fl_55_19 (by decide) (by decide) (Or.inl rfl) (by first | exact Or.inl rfl | exact Or.inr ⟨hin, rfl⟩) dec_55_33 fun H1 locs1 hw => ?_
  refine lv_aload_n X.1 X.2.1 dec_55_36 rfl (lv_at hl 0 rfl) ?_
  refine lv_iconst (v := N1) X.1 X.2.1 dec_55_37 (by decide) ?_
  refine n_putI X hw fl_55_23 (by decide) (by decide) (Or.inl rfl) (by first | exact Or.inl rfl | exact Or.inr ⟨hin, rfl⟩) dec_55_38 fun H1 locs1 hw => ?_
  refine lv_aload_n X.1 X.2.1 dec_55_41 rfl (lv_at hl 0 rfl) ?_
  refine lv_sipush (v := nI 160) X.1 X.2.1 dec_55_42 (by decide) ?_
  refine n_newi2 (k := 64) (i := 0) (n := 160) X hw (by omega) (by omega) rfl rfl (by decide) (by decide) (nI_clamp (by decide)) ⟨by show _ ≤ 16; omega, by show _ ≤ 7601; omega⟩ dec_55_45 fun H1 hw => ?_
  refine n_putR (a := qm_ad 64 0) X hw fl_55_26 (by decide) (by decide) rfl rfl rfl rfl ⟨hin, rfl⟩ dec_55_47 fun H1 locs1 hw => ?_
  refine lv_aload_n X.1 X.2.1 dec_55_50 rfl (lv_at hl 0 rfl) ?_
  refine lv_bipush (v := nI 17) X.1 X.2.1 dec_55_51 (by decide) ?_
  refine n_newi2 (k := 65) (i := 0) (n := 17) X hw (by omega) (by omega) rfl rfl (by decide) (by decide) (nI_clamp (by decide)) ⟨by show _ ≤ 16; omega, by show _ ≤ 7601; omega⟩ dec_55_53 fun H1 hw => ?_
  refine n_putR (a := qm_ad 65 0) X hw fl_55_29 (by decide) (by decide) rfl rfl rfl rfl ⟨hin, rfl⟩ dec_55_55 fun H1 locs1 hw => ?_
  refine lv_aload_n X.1 X.2.1 dec_55_58 rfl (lv_at hl 0 rfl) ?_
  refine lv_sipush (v := nI 330) X.1 X.2.1 dec_55_59 (by decide) ?_
  refine n_newl2 (i := 0) X hw (by omega) (by omega) rfl (by decide) (nI_clamp (by decide)) ⟨by show _ ≤ 16; omega, by show _ ≤ 7601; omega⟩ dec_55_62 fun H1 hw => ?_
  refine n_putR (a := qm_ad 66 0) X hw fl_55_32 (by decide) (by decide) rfl rfl rfl rfl ⟨hin, rfl⟩ dec_55_64 fun H1 locs1 hw => ?_
  refine lv_aload_n X.1 X.2.1 dec_55_67 rfl (lv_at hl 0 rfl) ?_
  refine lv_sipush (v := nI 330) X.1 X.2.1 dec_55_68 (by decide) ?_
  refine n_newz2 (k := 67) (i := 0) (n := 330) X hw (by omega) (by omega) rfl (by decide) (by decide) (nI_clamp (by decide)) ⟨by show _ ≤ 16; omega, by show _ ≤ 7601; omega⟩ dec_55_71 fun H1 hw => ?_
  refine n_putR (a := qm_ad 67 0) X hw fl_55_36 (by decide) (by decide) rfl rfl rfl rfl ⟨hin, rfl⟩ dec_55_73 fun H1 locs1 hw => ?_
  refine lv_aload_n X.1 X.2.1 dec_55_76 rfl (lv_at hl 0 rfl) ?_
  refine lv_bipush (v := nI 48) X.1 X.2.1 dec_55_77 (by decide) ?_
  refine n_newi2 (k := 68) (i := 0) (n := 48) X hw (by omega) (by omega) rfl rfl (by decide) (by decide) (nI_clamp (by decide)) ⟨by show _ ≤ 16; omega, by show _ ≤ 7601; omega⟩ dec_55_79 fun H1 hw => ?_
  refine n_putR (a := qm_ad 68 0) X hw fl_55_40 (by decide) (by decide) rfl rfl rfl rfl ⟨hin, rfl⟩ dec_55_81 fun H1 locs1 hw => ?_
  refine lv_aload_n X.1 X.2.1 dec_55_84 rfl (lv_at hl 0 rfl) ?_
  refine lv_iconst (v := nI 5) X.1 X.2.1 dec_55_85 (by decide) ?_
  refine n_newi2 (k := 69) (i := 0) (n := 5) X hw (by omega) (by omega) rfl rfl (by decide) (by decide) (nI_clamp (by decide)) ⟨by show _ ≤ 16; omega, by show _ ≤ 7601; omega⟩ dec_55_86 fun H1 hw => ?_
  refine n_putR (a := qm_ad 69 0) X hw fl_55_43 (by decide) (by decide) rfl rfl rfl rfl ⟨hin, rfl⟩ dec_55_88 fun H1 locs1 hw => ?_
  refine lv_aload_n X.1 X.2.1 dec_55_91 rfl (lv_at hl 0 rfl) ?_
  refine lv_bipush (v := nI 6) X.1 X.2.1 dec_55_92 (by decide) ?_
  refine n_newi2 (k := 70) (i := 0) (n := 6) X hw (by omega) (by omega) rfl rfl (by decide) (by decide) (nI_clamp (by decide)) ⟨by show _ ≤ 16; omega, by show _ ≤ 7601; omega⟩ dec_55_94 fun H1 hw => ?_
  refine n_putR (a := qm_ad 70 0) X hw fl_55_46 (by decide) (by decide) rfl rfl rfl rfl ⟨hin, rfl⟩ dec_55_96 fun H1 locs1 hw => ?_
  refine lv_aload_n X.1 X.2.1 dec_55_99 rfl (lv_at hl 0 rfl) ?_
  refine lv_iconst (v := nI 5) X.1 X.2.1 dec_55_100 (by decide) ?_
  refine n_newi2 (k := 71) (i := 0) (n := 5) X hw (by omega) (by omega) rfl rfl (by decide) (by decide) (nI_clamp (by decide)) ⟨by show _ ≤ 16; omega, by show _ ≤ 7601; omega⟩ dec_55_101 fun H1 hw => ?_
  refine n_putR (a := qm_ad 71 0) X hw fl_55_49 (by decide) (by decide) rfl rfl rfl rfl ⟨hin, rfl⟩ dec_55_103 fun H1 locs1 hw => ?_
  refine lv_aload_n X.1 X.2.1 dec_55_106 rfl (lv_at hl 0 rfl) ?_
  refine lv_bipush (v := nI 8) X.1 X.2.1 dec_55_107 (by decide) ?_
  refine n_newi2 (k := 72) (i := 0) (n := 8) X hw (by omega) (by omega) rfl rfl (by decide) (by decide) (nI_clamp (by decide)) ⟨by show _ ≤ 16; omega, by show _ ≤ 7601; omega⟩ dec_55_109 fun H1 hw => ?_
  refine n_putR (a := qm_ad 72 0) X hw fl_55_52 (by decide) (by decide) rfl rfl rfl rfl ⟨hin, rfl⟩ dec_55_111 fun H1 locs1 hw => ?_
  refine lv_aload_n X.1 X.2.1 dec_55_114 rfl (lv_at hl 0 rfl) ?_
  refine lv_bipush (v := nI 8) X.1 X.2.1 dec_55_115 (by decide) ?_
  refine n_newi2 (k := 73) (i := 0) (n := 8) X hw (by omega) (by omega) rfl rfl (by decide) (by decide) (nI_clamp (by decide)) ⟨by show _ ≤ 16; omega, by show _ ≤ 7601; omega⟩ dec_55_117 fun H1 hw => ?_
  refine n_putR (a := qm_ad 73 0) X hw fl_55_55 (by decide) (by decide) rfl rfl rfl rfl ⟨hin, rfl⟩ dec_55_119 fun H1 locs1 hw => ?_
  refine lv_aload_n X.1 X.2.1 dec_55_122 rfl (lv_at hl 0 rfl) ?_
  refine lv_bipush (v := nI 48) X.1 X.2.1 dec_55_123 (by decide) ?_
  refine n_newi2 (k := 74) (i := 0) (n := 48) X hw (by omega) (by omega) rfl rfl (by decide) (by decide) (nI_clamp (by decide)) ⟨by show _ ≤ 16; omega, by show _ ≤ 7601; omega⟩ dec_55_125 fun H1 hw => ?_
  refine n_putR (a := qm_ad 74 0) X hw fl_55_58 (by decide) (by decide) rfl rfl rfl rfl ⟨hin, rfl⟩ dec_55_127 fun H1 locs1 hw => ?_
  refine lv_aload_n X.1 X.2.1 dec_55_130 rfl (lv_at hl 0 rfl) ?_
  refine lv_bipush (v := nI 48) X.1 X.2.1 dec_55_131 (by decide) ?_
  refine n_newi2 (k := 75) (i := 0) (n := 48) X hw (by omega) (by omega) rfl rfl (by decide) (by decide) (nI_clamp (by decide)) ⟨by show _ ≤ 16; omega, by show _ ≤ 7601; omega⟩ dec_55_133 fun H1 hw => ?_
  refine n_putR (a := qm_ad 75 0) X hw fl_55_61 (by decide) (by decide) rfl rfl rfl rfl ⟨hin, rfl⟩ dec_55_135 fun H1 locs1 hw => ?_
  refine lv_aload_n X.1 X.2.1 dec_55_138 rfl (lv_at hl 0 rfl) ?_
  refine lv_bipush (v := nI 48) X.1 X.2.1 dec_55_139 (by decide) ?_
  refine n_newz2 (k := 76) (i := 0) (n := 48) X hw (by omega) (by omega) rfl (by decide) (by decide) (nI_clamp (by decide)) ⟨by show _ ≤ 16; omega, by show _ ≤ 7601; omega⟩ dec_55_141 fun H1 hw => ?_
  refine n_putR (a := qm_ad 76 0) X hw fl_55_64 (by decide) (by decide) rfl rfl rfl rfl ⟨hin, rfl⟩ dec_55_143 fun H1 locs1 hw => ?_
  refine lv_aload_n X.1 X.2.1 dec_55_146 rfl (lv_at hl 0 rfl) ?_
  refine m_clamp X (lv_at hl 1 rfl) hv ?_
  refine n_putI X hw fl_55_67 (by decide) (by decide) (Or.inl rfl) (by first | exact Or.inl rfl | exact Or.inr ⟨hin, rfl⟩) dec_55_168 fun H1 locs1 hw => ?_
  refine lv_aload_n X.1 X.2.1 dec_55_171 rfl (lv_at hl 0 rfl) ?_
  refine n_getR (a := qm_ad 61 0) X hw fl_55_7 (by decide) (by decide) rfl rfl rfl dec_55_172 ?_
  refine lv_iconst (v := nI 3) X.1 X.2.1 dec_55_175 (by decide) ?_
  refine lv_iconst (v := N1) X.1 X.2.1 dec_55_176 (by decide) ?_
  refine n_iast (k := 61) (i := 0) (j := 3) X hw (by decide) (by decide) (by decide) (by decide) (by decide) (by decide) dec_55_177 fun H1 locs1 hw => ?_
  refine lv_aload_n X.1 X.2.1 dec_55_178 rfl (lv_at hl 0 rfl) ?_
  refine n_getR (a := qm_ad 61 0) X hw fl_55_7 (by decide) (by decide) rfl rfl rfl dec_55_179 ?_
  refine lv_bipush (v := nI 7) X.1 X.2.1 dec_55_182 (by decide) ?_
  refine lv_iconst (v := N1) X.1 X.2.1 dec_55_184 (by decide) ?_
  refine n_iast (k := 61) (i := 0) (j := 7) X hw (by decide) (by decide) (by decide) (by decide) (by decide) (by decide) dec_55_185 fun H1 locs1 hw => ?_
  refine lv_iconst (v := nI 0) X.1 X.2.1 dec_55_186 (by decide) ?_
  refine lv_istore_n X.1 X.2.1 dec_55_187 rfl hl (by decide) rfl fun als hl => ?_
  refine lv_iload_n X.1 X.2.1 dec_55_188 rfl (lv_at hl 0 rfl) ?_
  refine lv_iconst (v := nI 4) X.1 X.2.1 dec_55_189 (by decide) ?_
  refine lv_icmp_ge (tgt := 215) X.1 X.2.1 dec_55_190 rfl (fun hh => absurd hh (by decide)) (fun _ => ?_)
  refine lv_aload_n X.1 X.2.1 dec_55_193 rfl (lv_at hl 1 rfl) ?_
  refine n_getR (a := qm_ad 61 0) X hw fl_55_7 (by decide) (by decide) rfl rfl rfl dec_55_194 ?_
  refine lv_bipush (v := nI 10) X.1 X.2.1 dec_55_197 (by decide) ?_
  refine lv_iconst (v := nI 2) X.1 X.2.1 dec_55_199 (by decide) ?_
  refine lv_iload_n X.1 X.2.1 dec_55_200 rfl (lv_at hl 0 rfl) ?_
  refine lv_imul X.1 X.2.1 dec_55_201 ?_
  rw [show ((nI 2) * (nI 0) : Int32) = nI 0 by decide]
  refine lv_iadd X.1 X.2.1 dec_55_202 ?_
  rw [show ((nI 10) + (nI 0) : Int32) = nI 10 by decide]
  refine lv_iconst (v := nI 1) X.1 X.2.1 dec_55_203 (by decide) ?_
  refine lv_iadd X.1 X.2.1 dec_55_204 ?_
  rw [show ((nI 10) + (nI 1) : Int32) = nI 11 by decide]
  refine lv_sipush (v := nI 2000) X.1 X.2.1 dec_55_205 (by decide) ?_
  refine n_iast (k := 61) (i := 0) (j := 11) X hw (by decide) (by decide) (by decide) (by decide) (by decide) (by decide) dec_55_208 fun H1 locs1 hw => ?_
  refine lv_iinc (k := 0) (v := nI 1) X.1 X.2.1 dec_55_209 hl rfl (by decide) (by decide) rfl fun als hl => ?_
  refine lv_goto (tgt := 188) X.1 X.2.1 dec_55_212 rfl ?_
  refine lv_iload_n X.1 X.2.1 dec_55_188 rfl (lv_at hl 0 rfl) ?_
  refine lv_iconst (v := nI 4) X.1 X.2.1 dec_55_189 (by decide) ?_
  refine lv_icmp_ge (tgt := 215) X.1 X.2.1 dec_55_190 rfl (fun hh => absurd hh (by decide)) (fun _ => ?_)
  refine lv_aload_n X.1 X.2.1 dec_55_193 rfl (lv_at hl 1 rfl) ?_
  refine n_getR (a := qm_ad 61 0) X hw fl_55_7 (by decide) (by decide) rfl rfl rfl dec_55_194 ?_
  refine lv_bipush (v := nI 10) X.1 X.2.1 dec_55_197 (by decide) ?_
  refine lv_iconst (v := nI 2) X.1 X.2.1 dec_55_199 (by decide) ?_
  refine lv_iload_n X.1 X.2.1 dec_55_200 rfl (lv_at hl 0 rfl) ?_
  refine lv_imul X.1 X.2.1 dec_55_201 ?_
  rw [show ((nI 2) * (nI 1) : Int32) = nI 2 by decide]
  refine lv_iadd X.1 X.2.1 dec_55_202 ?_
  rw [show ((nI 10) + (nI 2) : Int32) = nI 12 by decide]
  refine lv_iconst (v := nI 1) X.1 X.2.1 dec_55_203 (by decide) ?_
  refine lv_iadd X.1 X.2.1 dec_55_204 ?_
  rw [show ((nI 12) + (nI 1) : Int32) = nI 13 by decide]
  refine lv_sipush (v := nI 2000) X.1 X.2.1 dec_55_205 (by decide) ?_
  refine n_iast (k := 61) (i := 0) (j := 13) X hw (by decide) (by decide) (by decide) (by decide) (by decide) (by decide) dec_55_208 fun H1 locs1 hw => ?_
  refine lv_iinc (k := 0) (v := nI 2) X.1 X.2.1 dec_55_209 hl rfl (by decide) (by decide) rfl fun als hl => ?_
  refine lv_goto (tgt := 188) X.1 X.2.1 dec_55_212 rfl ?_
  refine lv_iload_n X.1 X.2.1 dec_55_188 rfl (lv_at hl 0 rfl) ?_
  refine lv_iconst (v := nI 4) X.1 X.2.1 dec_55_189 (by decide) ?_
  refine lv_icmp_ge (tgt := 215) X.1 X.2.1 dec_55_190 rfl (fun hh => absurd hh (by decide)) (fun _ => ?_)
  refine lv_aload_n X.1 X.2.1 dec_55_193 rfl (lv_at hl 1 rfl) ?_
  refine n_getR (a := qm_ad 61 0) X hw fl_55_7 (by decide) (by decide) rfl rfl rfl dec_55_194 ?_
  refine lv_bipush (v := nI 10) X.1 X.2.1 dec_55_197 (by decide) ?_
  refine lv_iconst (v := nI 2) X.1 X.2.1 dec_55_199 (by decide) ?_
  refine lv_iload_n X.1 X.2.1 dec_55_200 rfl (lv_at hl 0 rfl) ?_
  refine lv_imul X.1 X.2.1 dec_55_201 ?_
  rw [show ((nI 2) * (nI 2) : Int32) = nI 4 by decide]
  refine lv_iadd X.1 X.2.1 dec_55_202 ?_
  rw [show ((nI 10) + (nI 4) : Int32) = nI 14 by decide]
  refine lv_iconst (v := nI 1) X.1 X.2.1 dec_55_203 (by decide) ?_
  refine lv_iadd X.1 X.2.1 dec_55_204 ?_
  rw [show ((nI 14) + (nI 1) : Int32) = nI 15 by decide]
  refine lv_sipush (v := nI 2000) X.1 X.2.1 dec_55_205 (by decide) ?_
  refine n_iast (k := 61) (i := 0) (j := 15) X hw (by decide) (by decide) (by decide) (by decide) (by decide) (by decide) dec_55_208 fun H1 locs1 hw => ?_
  refine lv_iinc (k := 0) (v := nI 3) X.1 X.2.1 dec_55_209 hl rfl (by decide) (by decide) rfl fun als hl => ?_
  refine lv_goto (tgt := 188) X.1 X.2.1 dec_55_212 rfl ?_
  refine lv_iload_n X.1 X.2.1 dec_55_188 rfl (lv_at hl 0 rfl) ?_
  refine lv_iconst (v := nI 4) X.1 X.2.1 dec_55_189 (by decide) ?_
  refine lv_icmp_ge (tgt := 215) X.1 X.2.1 dec_55_190 rfl (fun hh => absurd hh (by decide)) (fun _ => ?_)
  refine lv_aload_n X.1 X.2.1 dec_55_193 rfl (lv_at hl 1 rfl) ?_
  refine n_getR (a := qm_ad 61 0) X hw fl_55_7 (by decide) (by decide) rfl rfl rfl dec_55_194 ?_
  refine lv_bipush (v := nI 10) X.1 X.2.1 dec_55_197 (by decide) ?_
  refine lv_iconst (v := nI 2) X.1 X.2.1 dec_55_199 (by decide) ?_
  refine lv_iload_n X.1 X.2.1 dec_55_200 rfl (lv_at hl 0 rfl) ?_
  refine lv_imul X.1 X.2.1 dec_55_201 ?_
  rw [show ((nI 2) * (nI 3) : Int32) = nI 6 by decide]
  refine lv_iadd X.1 X.2.1 dec_55_202 ?_
  rw [show ((nI 10) + (nI 6) : Int32) = nI 16 by decide]
  refine lv_iconst (v := nI 1) X.1 X.2.1 dec_55_203 (by decide) ?_
  refine lv_iadd X.1 X.2.1 dec_55_204 ?_
  rw [show ((nI 16) + (nI 1) : Int32) = nI 17 by decide]
  refine lv_sipush (v := nI 2000) X.1 X.2.1 dec_55_205 (by decide) ?_
  refine n_iast (k := 61) (i := 0) (j := 17) X hw (by decide) (by decide) (by decide) (by decide) (by decide) (by decide) dec_55_208 fun H1 locs1 hw => ?_
  refine lv_iinc (k := 0) (v := nI 4) X.1 X.2.1 dec_55_209 hl rfl (by decide) (by decide) rfl fun als hl => ?_
  refine lv_goto (tgt := 188) X.1 X.2.1 dec_55_212 rfl ?_
  refine lv_iload_n X.1 X.2.1 dec_55_188 rfl (lv_at hl 0 rfl) ?_
  refine lv_iconst (v := nI 4) X.1 X.2.1 dec_55_189 (by decide) ?_
  refine lv_icmp_ge (tgt := 215) X.1 X.2.1 dec_55_190 rfl (fun _ => ?_) (fun hh => absurd (by decide) hh)
  refine lv_aload_n X.1 X.2.1 dec_55_215 rfl (lv_at hl 1 rfl) ?_
  refine lv_iconst (v := nI 0) X.1 X.2.1 dec_55_216 (by decide) ?_
  refine lv_iconst (v := nI 1) X.1 X.2.1 dec_55_217 (by decide) ?_
  exact m_tail X hw hok ⟨by show _ ≤ 16; omega, by show _ ≤ 7601; omega, by show 5 ≤ d + 4; omega, by show 320 ≤ 64 * d + 256; omega⟩ hl fun H1 locs1 hw => fin _ _ _ _ dec_55_221 hw
