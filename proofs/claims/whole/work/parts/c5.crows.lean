/-! printed by wip/whole/gen/ctor.py: rows for the constructors -/
set_option maxRecDepth 20000 in
theorem cw_183 : qm_CW 183 1 := ⟨⟨qm_in1 144 rfl, rfl⟩, by decide +kernel, by decide +kernel, by decide +kernel, by decide +kernel⟩
theorem dec_183_0 : decode (mC 183) 0 = .ok (.aload_n 0, 1) := by decide +kernel
theorem dec_183_1 : decode (mC 183) 1 = .ok (.invokespecial 3, 3) := by decide +kernel
set_option maxRecDepth 20000 in
theorem ol_183 : qm_Tb (Cond.methodLink (qm_cls (mN 183)) 3 Lib.objectInit) := ⟨qm_in1 145 rfl, rfl⟩
theorem dec_183_4 : decode (mC 183) 4 = .ok (.aload_n 0, 1) := by decide +kernel
theorem dec_183_5 : decode (mC 183) 5 = .ok (.bipush 48, 2) := by decide +kernel
theorem dec_183_7 : decode (mC 183) 7 = .ok (.newarray .int, 2) := by decide +kernel
theorem dec_183_9 : decode (mC 183) 9 = .ok (.putfield 9, 3) := by decide +kernel
set_option maxRecDepth 20000 in
theorem fl_183_9 : qn_FL 183 9 3 1 := ⟨⟨qm_in1 150 rfl, rfl⟩, by decide, by decide, rfl⟩
theorem dec_183_12 : decode (mC 183) 12 = .ok (.aload_n 0, 1) := by decide +kernel
theorem dec_183_13 : decode (mC 183) 13 = .ok (.bipush 48, 2) := by decide +kernel
theorem dec_183_15 : decode (mC 183) 15 = .ok (.newarray .int, 2) := by decide +kernel
theorem dec_183_17 : decode (mC 183) 17 = .ok (.putfield 15, 3) := by decide +kernel
set_option maxRecDepth 20000 in
theorem fl_183_15 : qn_FL 183 15 3 2 := ⟨⟨qm_in1 153 rfl, rfl⟩, by decide, by decide, rfl⟩
theorem dec_183_20 : decode (mC 183) 20 = .ok (.aload_n 0, 1) := by decide +kernel
theorem dec_183_21 : decode (mC 183) 21 = .ok (.bipush 48, 2) := by decide +kernel
theorem dec_183_23 : decode (mC 183) 23 = .ok (.newarray .int, 2) := by decide +kernel
theorem dec_183_25 : decode (mC 183) 25 = .ok (.putfield 18, 3) := by decide +kernel
set_option maxRecDepth 20000 in
theorem fl_183_18 : qn_FL 183 18 3 3 := ⟨⟨qm_in1 156 rfl, rfl⟩, by decide, by decide, rfl⟩
theorem dec_183_28 : decode (mC 183) 28 = .ok (.aload_n 0, 1) := by decide +kernel
theorem dec_183_29 : decode (mC 183) 29 = .ok (.bipush 48, 2) := by decide +kernel
theorem dec_183_31 : decode (mC 183) 31 = .ok (.newarray .int, 2) := by decide +kernel
theorem dec_183_33 : decode (mC 183) 33 = .ok (.putfield 21, 3) := by decide +kernel
set_option maxRecDepth 20000 in
theorem fl_183_21 : qn_FL 183 21 3 4 := ⟨⟨qm_in1 159 rfl, rfl⟩, by decide, by decide, rfl⟩
theorem dec_183_36 : decode (mC 183) 36 = .ok (.aload_n 0, 1) := by decide +kernel
theorem dec_183_37 : decode (mC 183) 37 = .ok (.bipush 48, 2) := by decide +kernel
theorem dec_183_39 : decode (mC 183) 39 = .ok (.newarray .int, 2) := by decide +kernel
theorem dec_183_41 : decode (mC 183) 41 = .ok (.putfield 24, 3) := by decide +kernel
set_option maxRecDepth 20000 in
theorem fl_183_24 : qn_FL 183 24 3 5 := ⟨⟨qm_in1 162 rfl, rfl⟩, by decide, by decide, rfl⟩
theorem dec_183_44 : decode (mC 183) 44 = .ok (.aload_n 0, 1) := by decide +kernel
theorem dec_183_45 : decode (mC 183) 45 = .ok (.bipush 48, 2) := by decide +kernel
theorem dec_183_47 : decode (mC 183) 47 = .ok (.newarray .int, 2) := by decide +kernel
theorem dec_183_49 : decode (mC 183) 49 = .ok (.putfield 27, 3) := by decide +kernel
set_option maxRecDepth 20000 in
theorem fl_183_27 : qn_FL 183 27 3 6 := ⟨⟨qm_in1 164 rfl, rfl⟩, by decide, by decide, rfl⟩
theorem dec_183_52 : decode (mC 183) 52 = .ok (.aload_n 0, 1) := by decide +kernel
theorem dec_183_53 : decode (mC 183) 53 = .ok (.bipush 6, 2) := by decide +kernel
theorem dec_183_55 : decode (mC 183) 55 = .ok (.newarray .int, 2) := by decide +kernel
theorem dec_183_57 : decode (mC 183) 57 = .ok (.putfield 30, 3) := by decide +kernel
set_option maxRecDepth 20000 in
theorem fl_183_30 : qn_FL 183 30 3 7 := ⟨⟨qm_in1 166 rfl, rfl⟩, by decide, by decide, rfl⟩
theorem dec_183_60 : decode (mC 183) 60 = .ok (.aload_n 0, 1) := by decide +kernel
theorem dec_183_61 : decode (mC 183) 61 = .ok (.iconst 0, 1) := by decide +kernel
theorem dec_183_62 : decode (mC 183) 62 = .ok (.putfield 33, 3) := by decide +kernel
set_option maxRecDepth 20000 in
theorem fl_183_33 : qn_FL 183 33 3 8 := ⟨⟨qm_in1 170 rfl, rfl⟩, by decide, by decide, rfl⟩
theorem dec_183_65 : decode (mC 183) 65 = .ok (.aload_n 0, 1) := by decide +kernel
theorem dec_183_66 : decode (mC 183) 66 = .ok (.iconst (-1), 1) := by decide +kernel
theorem dec_183_67 : decode (mC 183) 67 = .ok (.putfield 37, 3) := by decide +kernel
set_option maxRecDepth 20000 in
theorem fl_183_37 : qn_FL 183 37 3 9 := ⟨⟨qm_in1 173 rfl, rfl⟩, by decide, by decide, rfl⟩
theorem dec_183_70 : decode (mC 183) 70 = .ok (.aload_n 0, 1) := by decide +kernel
theorem dec_183_71 : decode (mC 183) 71 = .ok (.iconst 0, 1) := by decide +kernel
theorem dec_183_72 : decode (mC 183) 72 = .ok (.putfield 40, 3) := by decide +kernel
set_option maxRecDepth 20000 in
theorem fl_183_40 : qn_FL 183 40 3 10 := ⟨⟨qm_in1 176 rfl, rfl⟩, by decide, by decide, rfl⟩
theorem dec_183_75 : decode (mC 183) 75 = .ok (.aload_n 0, 1) := by decide +kernel
theorem dec_183_76 : decode (mC 183) 76 = .ok (.iconst 0, 1) := by decide +kernel
theorem dec_183_77 : decode (mC 183) 77 = .ok (.putfield 43, 3) := by decide +kernel
set_option maxRecDepth 20000 in
theorem fl_183_43 : qn_FL 183 43 3 11 := ⟨⟨qm_in1 179 rfl, rfl⟩, by decide, by decide, rfl⟩
theorem dec_183_80 : decode (mC 183) 80 = .ok (.aload_n 0, 1) := by decide +kernel
theorem dec_183_81 : decode (mC 183) 81 = .ok (.iconst 0, 1) := by decide +kernel
theorem dec_183_82 : decode (mC 183) 82 = .ok (.putfield 46, 3) := by decide +kernel
set_option maxRecDepth 20000 in
theorem fl_183_46 : qn_FL 183 46 3 12 := ⟨⟨qm_in1 182 rfl, rfl⟩, by decide, by decide, rfl⟩
theorem dec_183_85 : decode (mC 183) 85 = .ok (.aload_n 0, 1) := by decide +kernel
theorem dec_183_86 : decode (mC 183) 86 = .ok (.iload_n 1, 1) := by decide +kernel
theorem dec_183_87 : decode (mC 183) 87 = .ok (.putfield 49, 3) := by decide +kernel
set_option maxRecDepth 20000 in
theorem fl_183_49 : qn_FL 183 49 3 0 := ⟨⟨qm_in1 146 rfl, rfl⟩, by decide, by decide, rfl⟩
theorem dec_183_90 : decode (mC 183) 90 = .ok (.return_, 1) := by decide +kernel
set_option maxRecDepth 20000 in
theorem cw_221 : qm_CW 221 0 := ⟨⟨qm_in1 29 rfl, rfl⟩, by decide +kernel, by decide +kernel, by decide +kernel, by decide +kernel⟩
theorem dec_221_0 : decode (mC 221) 0 = .ok (.aload_n 0, 1) := by decide +kernel
theorem dec_221_1 : decode (mC 221) 1 = .ok (.invokespecial 3, 3) := by decide +kernel
set_option maxRecDepth 20000 in
theorem ol_221 : qm_Tb (Cond.methodLink (qm_cls (mN 221)) 3 Lib.objectInit) := ⟨qm_in1 30 rfl, rfl⟩
theorem dec_221_4 : decode (mC 221) 4 = .ok (.aload_n 0, 1) := by decide +kernel
theorem dec_221_5 : decode (mC 221) 5 = .ok (.sipush 300, 3) := by decide +kernel
theorem dec_221_8 : decode (mC 221) 8 = .ok (.newarray .int, 2) := by decide +kernel
theorem dec_221_10 : decode (mC 221) 10 = .ok (.putfield 9, 3) := by decide +kernel
set_option maxRecDepth 20000 in
theorem fl_221_9 : qn_FL 221 9 4 0 := ⟨⟨qm_in1 31 rfl, rfl⟩, by decide, by decide, rfl⟩
theorem dec_221_13 : decode (mC 221) 13 = .ok (.aload_n 0, 1) := by decide +kernel
theorem dec_221_14 : decode (mC 221) 14 = .ok (.bipush 20, 2) := by decide +kernel
theorem dec_221_16 : decode (mC 221) 16 = .ok (.newarray .int, 2) := by decide +kernel
theorem dec_221_18 : decode (mC 221) 18 = .ok (.putfield 15, 3) := by decide +kernel
set_option maxRecDepth 20000 in
theorem fl_221_15 : qn_FL 221 15 4 1 := ⟨⟨qm_in1 33 rfl, rfl⟩, by decide, by decide, rfl⟩
theorem dec_221_21 : decode (mC 221) 21 = .ok (.aload_n 0, 1) := by decide +kernel
theorem dec_221_22 : decode (mC 221) 22 = .ok (.bipush 20, 2) := by decide +kernel
theorem dec_221_24 : decode (mC 221) 24 = .ok (.newarray .int, 2) := by decide +kernel
theorem dec_221_26 : decode (mC 221) 26 = .ok (.putfield 18, 3) := by decide +kernel
set_option maxRecDepth 20000 in
theorem fl_221_18 : qn_FL 221 18 4 2 := ⟨⟨qm_in1 36 rfl, rfl⟩, by decide, by decide, rfl⟩
theorem dec_221_29 : decode (mC 221) 29 = .ok (.aload_n 0, 1) := by decide +kernel
theorem dec_221_30 : decode (mC 221) 30 = .ok (.bipush 20, 2) := by decide +kernel
theorem dec_221_32 : decode (mC 221) 32 = .ok (.newarray .int, 2) := by decide +kernel
theorem dec_221_34 : decode (mC 221) 34 = .ok (.putfield 21, 3) := by decide +kernel
set_option maxRecDepth 20000 in
theorem fl_221_21 : qn_FL 221 21 4 3 := ⟨⟨qm_in1 38 rfl, rfl⟩, by decide, by decide, rfl⟩
theorem dec_221_37 : decode (mC 221) 37 = .ok (.aload_n 0, 1) := by decide +kernel
theorem dec_221_38 : decode (mC 221) 38 = .ok (.iconst 5, 1) := by decide +kernel
theorem dec_221_39 : decode (mC 221) 39 = .ok (.newarray .int, 2) := by decide +kernel
theorem dec_221_41 : decode (mC 221) 41 = .ok (.dup, 1) := by decide +kernel
theorem dec_221_42 : decode (mC 221) 42 = .ok (.iconst 0, 1) := by decide +kernel
theorem dec_221_43 : decode (mC 221) 43 = .ok (.iconst (-1), 1) := by decide +kernel
theorem dec_221_44 : decode (mC 221) 44 = .ok (.iastore, 1) := by decide +kernel
theorem dec_221_45 : decode (mC 221) 45 = .ok (.dup, 1) := by decide +kernel
theorem dec_221_46 : decode (mC 221) 46 = .ok (.iconst 1, 1) := by decide +kernel
theorem dec_221_47 : decode (mC 221) 47 = .ok (.iconst (-1), 1) := by decide +kernel
theorem dec_221_48 : decode (mC 221) 48 = .ok (.iastore, 1) := by decide +kernel
theorem dec_221_49 : decode (mC 221) 49 = .ok (.dup, 1) := by decide +kernel
theorem dec_221_50 : decode (mC 221) 50 = .ok (.iconst 2, 1) := by decide +kernel
theorem dec_221_51 : decode (mC 221) 51 = .ok (.iconst (-1), 1) := by decide +kernel
theorem dec_221_52 : decode (mC 221) 52 = .ok (.iastore, 1) := by decide +kernel
theorem dec_221_53 : decode (mC 221) 53 = .ok (.dup, 1) := by decide +kernel
theorem dec_221_54 : decode (mC 221) 54 = .ok (.iconst 3, 1) := by decide +kernel
theorem dec_221_55 : decode (mC 221) 55 = .ok (.iconst (-1), 1) := by decide +kernel
theorem dec_221_56 : decode (mC 221) 56 = .ok (.iastore, 1) := by decide +kernel
theorem dec_221_57 : decode (mC 221) 57 = .ok (.dup, 1) := by decide +kernel
theorem dec_221_58 : decode (mC 221) 58 = .ok (.iconst 4, 1) := by decide +kernel
theorem dec_221_59 : decode (mC 221) 59 = .ok (.iconst (-1), 1) := by decide +kernel
theorem dec_221_60 : decode (mC 221) 60 = .ok (.iastore, 1) := by decide +kernel
theorem dec_221_61 : decode (mC 221) 61 = .ok (.putfield 24, 3) := by decide +kernel
set_option maxRecDepth 20000 in
theorem fl_221_24 : qn_FL 221 24 4 4 := ⟨⟨qm_in1 40 rfl, rfl⟩, by decide, by decide, rfl⟩
theorem dec_221_64 : decode (mC 221) 64 = .ok (.aload_n 0, 1) := by decide +kernel
theorem dec_221_65 : decode (mC 221) 65 = .ok (.iconst 0, 1) := by decide +kernel
theorem dec_221_66 : decode (mC 221) 66 = .ok (.putfield 27, 3) := by decide +kernel
set_option maxRecDepth 20000 in
theorem fl_221_27 : qn_FL 221 27 4 5 := ⟨⟨qm_in1 41 rfl, rfl⟩, by decide, by decide, rfl⟩
theorem dec_221_69 : decode (mC 221) 69 = .ok (.aload_n 0, 1) := by decide +kernel
theorem dec_221_70 : decode (mC 221) 70 = .ok (.iconst 0, 1) := by decide +kernel
theorem dec_221_71 : decode (mC 221) 71 = .ok (.putfield 31, 3) := by decide +kernel
set_option maxRecDepth 20000 in
theorem fl_221_31 : qn_FL 221 31 4 6 := ⟨⟨qm_in1 42 rfl, rfl⟩, by decide, by decide, rfl⟩
theorem dec_221_74 : decode (mC 221) 74 = .ok (.return_, 1) := by decide +kernel
set_option maxRecDepth 20000 in
theorem cw_165 : qm_CW 165 1 := ⟨⟨qm_in1 65 rfl, rfl⟩, by decide +kernel, by decide +kernel, by decide +kernel, by decide +kernel⟩
theorem dec_165_0 : decode (mC 165) 0 = .ok (.aload_n 0, 1) := by decide +kernel
theorem dec_165_1 : decode (mC 165) 1 = .ok (.invokespecial 3, 3) := by decide +kernel
set_option maxRecDepth 20000 in
theorem ol_165 : qm_Tb (Cond.methodLink (qm_cls (mN 165)) 3 Lib.objectInit) := ⟨qm_in1 66 rfl, rfl⟩
theorem dec_165_4 : decode (mC 165) 4 = .ok (.aload_n 0, 1) := by decide +kernel
theorem dec_165_5 : decode (mC 165) 5 = .ok (.bipush 17, 2) := by decide +kernel
theorem dec_165_7 : decode (mC 165) 7 = .ok (.newarray .int, 2) := by decide +kernel
theorem dec_165_9 : decode (mC 165) 9 = .ok (.putfield 9, 3) := by decide +kernel
set_option maxRecDepth 20000 in
theorem fl_165_9 : qn_FL 165 9 5 1 := ⟨⟨qm_in1 69 rfl, rfl⟩, by decide, by decide, rfl⟩
theorem dec_165_12 : decode (mC 165) 12 = .ok (.aload_n 0, 1) := by decide +kernel
theorem dec_165_13 : decode (mC 165) 13 = .ok (.bipush 40, 2) := by decide +kernel
theorem dec_165_15 : decode (mC 165) 15 = .ok (.newarray .int, 2) := by decide +kernel
theorem dec_165_17 : decode (mC 165) 17 = .ok (.putfield 15, 3) := by decide +kernel
set_option maxRecDepth 20000 in
theorem fl_165_15 : qn_FL 165 15 5 2 := ⟨⟨qm_in1 70 rfl, rfl⟩, by decide, by decide, rfl⟩
theorem dec_165_20 : decode (mC 165) 20 = .ok (.aload_n 0, 1) := by decide +kernel
theorem dec_165_21 : decode (mC 165) 21 = .ok (.aload_n 1, 1) := by decide +kernel
theorem dec_165_22 : decode (mC 165) 22 = .ok (.putfield 18, 3) := by decide +kernel
set_option maxRecDepth 20000 in
theorem fl_165_18 : qn_FL 165 18 5 0 := ⟨⟨qm_in1 67 rfl, rfl⟩, by decide, by decide, rfl⟩
theorem dec_165_25 : decode (mC 165) 25 = .ok (.return_, 1) := by decide +kernel
set_option maxRecDepth 20000 in
theorem cw_228 : qm_CW 228 0 := ⟨⟨qm_in1 88 rfl, rfl⟩, by decide +kernel, by decide +kernel, by decide +kernel, by decide +kernel⟩
theorem dec_228_0 : decode (mC 228) 0 = .ok (.aload_n 0, 1) := by decide +kernel
theorem dec_228_1 : decode (mC 228) 1 = .ok (.invokespecial 3, 3) := by decide +kernel
set_option maxRecDepth 20000 in
theorem ol_228 : qm_Tb (Cond.methodLink (qm_cls (mN 228)) 3 Lib.objectInit) := ⟨qm_in1 89 rfl, rfl⟩
theorem dec_228_4 : decode (mC 228) 4 = .ok (.aload_n 0, 1) := by decide +kernel
theorem dec_228_5 : decode (mC 228) 5 = .ok (.sipush 301, 3) := by decide +kernel
theorem dec_228_8 : decode (mC 228) 8 = .ok (.newarray .int, 2) := by decide +kernel
theorem dec_228_10 : decode (mC 228) 10 = .ok (.putfield 9, 3) := by decide +kernel
set_option maxRecDepth 20000 in
theorem fl_228_9 : qn_FL 228 9 7 0 := ⟨⟨qm_in1 90 rfl, rfl⟩, by decide, by decide, rfl⟩
theorem dec_228_13 : decode (mC 228) 13 = .ok (.aload_n 0, 1) := by decide +kernel
theorem dec_228_14 : decode (mC 228) 14 = .ok (.sipush 301, 3) := by decide +kernel
theorem dec_228_17 : decode (mC 228) 17 = .ok (.newarray .int, 2) := by decide +kernel
theorem dec_228_19 : decode (mC 228) 19 = .ok (.putfield 15, 3) := by decide +kernel
set_option maxRecDepth 20000 in
theorem fl_228_15 : qn_FL 228 15 7 1 := ⟨⟨qm_in1 92 rfl, rfl⟩, by decide, by decide, rfl⟩
theorem dec_228_22 : decode (mC 228) 22 = .ok (.aload_n 0, 1) := by decide +kernel
theorem dec_228_23 : decode (mC 228) 23 = .ok (.sipush 301, 3) := by decide +kernel
theorem dec_228_26 : decode (mC 228) 26 = .ok (.newarray .int, 2) := by decide +kernel
theorem dec_228_28 : decode (mC 228) 28 = .ok (.putfield 18, 3) := by decide +kernel
set_option maxRecDepth 20000 in
theorem fl_228_18 : qn_FL 228 18 7 2 := ⟨⟨qm_in1 94 rfl, rfl⟩, by decide, by decide, rfl⟩
theorem dec_228_31 : decode (mC 228) 31 = .ok (.aload_n 0, 1) := by decide +kernel
theorem dec_228_32 : decode (mC 228) 32 = .ok (.iconst 0, 1) := by decide +kernel
theorem dec_228_33 : decode (mC 228) 33 = .ok (.putfield 21, 3) := by decide +kernel
set_option maxRecDepth 20000 in
theorem fl_228_21 : qn_FL 228 21 7 3 := ⟨⟨qm_in1 96 rfl, rfl⟩, by decide, by decide, rfl⟩
theorem dec_228_36 : decode (mC 228) 36 = .ok (.return_, 1) := by decide +kernel
set_option maxRecDepth 20000 in
theorem cw_238 : qm_CW 238 1 := ⟨⟨qm_in1 138 rfl, rfl⟩, by decide +kernel, by decide +kernel, by decide +kernel, by decide +kernel⟩
theorem dec_238_0 : decode (mC 238) 0 = .ok (.aload_n 0, 1) := by decide +kernel
theorem dec_238_1 : decode (mC 238) 1 = .ok (.invokespecial 3, 3) := by decide +kernel
set_option maxRecDepth 20000 in
theorem ol_238 : qm_Tb (Cond.methodLink (qm_cls (mN 238)) 3 Lib.objectInit) := ⟨qm_in1 139 rfl, rfl⟩
theorem dec_238_4 : decode (mC 238) 4 = .ok (.aload_n 0, 1) := by decide +kernel
theorem dec_238_5 : decode (mC 238) 5 = .ok (.bipush 12, 2) := by decide +kernel
theorem dec_238_7 : decode (mC 238) 7 = .ok (.newarray .int, 2) := by decide +kernel
theorem dec_238_9 : decode (mC 238) 9 = .ok (.putfield 9, 3) := by decide +kernel
set_option maxRecDepth 20000 in
theorem fl_238_9 : qn_FL 238 9 2 1 := ⟨⟨qm_in1 213 rfl, rfl⟩, by decide, by decide, rfl⟩
theorem dec_238_12 : decode (mC 238) 12 = .ok (.aload_n 0, 1) := by decide +kernel
theorem dec_238_13 : decode (mC 238) 13 = .ok (.bipush 12, 2) := by decide +kernel
theorem dec_238_15 : decode (mC 238) 15 = .ok (.newarray .int, 2) := by decide +kernel
theorem dec_238_17 : decode (mC 238) 17 = .ok (.putfield 15, 3) := by decide +kernel
set_option maxRecDepth 20000 in
theorem fl_238_15 : qn_FL 238 15 2 2 := ⟨⟨qm_in1 216 rfl, rfl⟩, by decide, by decide, rfl⟩
theorem dec_238_20 : decode (mC 238) 20 = .ok (.aload_n 0, 1) := by decide +kernel
theorem dec_238_21 : decode (mC 238) 21 = .ok (.bipush 12, 2) := by decide +kernel
theorem dec_238_23 : decode (mC 238) 23 = .ok (.newarray .int, 2) := by decide +kernel
theorem dec_238_25 : decode (mC 238) 25 = .ok (.putfield 18, 3) := by decide +kernel
set_option maxRecDepth 20000 in
theorem fl_238_18 : qn_FL 238 18 2 3 := ⟨⟨qm_in1 219 rfl, rfl⟩, by decide, by decide, rfl⟩
theorem dec_238_28 : decode (mC 238) 28 = .ok (.aload_n 0, 1) := by decide +kernel
theorem dec_238_29 : decode (mC 238) 29 = .ok (.bipush 12, 2) := by decide +kernel
theorem dec_238_31 : decode (mC 238) 31 = .ok (.newarray .int, 2) := by decide +kernel
theorem dec_238_33 : decode (mC 238) 33 = .ok (.putfield 21, 3) := by decide +kernel
set_option maxRecDepth 20000 in
theorem fl_238_21 : qn_FL 238 21 2 4 := ⟨⟨qm_in1 222 rfl, rfl⟩, by decide, by decide, rfl⟩
theorem dec_238_36 : decode (mC 238) 36 = .ok (.aload_n 0, 1) := by decide +kernel
theorem dec_238_37 : decode (mC 238) 37 = .ok (.iconst 0, 1) := by decide +kernel
theorem dec_238_38 : decode (mC 238) 38 = .ok (.putfield 24, 3) := by decide +kernel
set_option maxRecDepth 20000 in
theorem fl_238_24 : qn_FL 238 24 2 5 := ⟨⟨qm_in1 225 rfl, rfl⟩, by decide, by decide, rfl⟩
theorem dec_238_41 : decode (mC 238) 41 = .ok (.aload_n 0, 1) := by decide +kernel
theorem dec_238_42 : decode (mC 238) 42 = .ok (.bipush 40, 2) := by decide +kernel
theorem dec_238_44 : decode (mC 238) 44 = .ok (.newarray .int, 2) := by decide +kernel
theorem dec_238_46 : decode (mC 238) 46 = .ok (.putfield 28, 3) := by decide +kernel
set_option maxRecDepth 20000 in
theorem fl_238_28 : qn_FL 238 28 2 6 := ⟨⟨qm_in1 227 rfl, rfl⟩, by decide, by decide, rfl⟩
theorem dec_238_49 : decode (mC 238) 49 = .ok (.aload_n 0, 1) := by decide +kernel
theorem dec_238_50 : decode (mC 238) 50 = .ok (.iconst 4, 1) := by decide +kernel
theorem dec_238_51 : decode (mC 238) 51 = .ok (.newarray .int, 2) := by decide +kernel
theorem dec_238_53 : decode (mC 238) 53 = .ok (.putfield 31, 3) := by decide +kernel
set_option maxRecDepth 20000 in
theorem fl_238_31 : qn_FL 238 31 2 7 := ⟨⟨qm_in1 230 rfl, rfl⟩, by decide, by decide, rfl⟩
theorem dec_238_56 : decode (mC 238) 56 = .ok (.aload_n 0, 1) := by decide +kernel
theorem dec_238_57 : decode (mC 238) 57 = .ok (.iconst 4, 1) := by decide +kernel
theorem dec_238_58 : decode (mC 238) 58 = .ok (.newarray .int, 2) := by decide +kernel
theorem dec_238_60 : decode (mC 238) 60 = .ok (.dup, 1) := by decide +kernel
theorem dec_238_61 : decode (mC 238) 61 = .ok (.iconst 0, 1) := by decide +kernel
theorem dec_238_62 : decode (mC 238) 62 = .ok (.sipush 2000, 3) := by decide +kernel
theorem dec_238_65 : decode (mC 238) 65 = .ok (.iastore, 1) := by decide +kernel
theorem dec_238_66 : decode (mC 238) 66 = .ok (.dup, 1) := by decide +kernel
theorem dec_238_67 : decode (mC 238) 67 = .ok (.iconst 1, 1) := by decide +kernel
theorem dec_238_68 : decode (mC 238) 68 = .ok (.sipush 2000, 3) := by decide +kernel
theorem dec_238_71 : decode (mC 238) 71 = .ok (.iastore, 1) := by decide +kernel
theorem dec_238_72 : decode (mC 238) 72 = .ok (.dup, 1) := by decide +kernel
theorem dec_238_73 : decode (mC 238) 73 = .ok (.iconst 2, 1) := by decide +kernel
theorem dec_238_74 : decode (mC 238) 74 = .ok (.sipush 2000, 3) := by decide +kernel
theorem dec_238_77 : decode (mC 238) 77 = .ok (.iastore, 1) := by decide +kernel
theorem dec_238_78 : decode (mC 238) 78 = .ok (.dup, 1) := by decide +kernel
theorem dec_238_79 : decode (mC 238) 79 = .ok (.iconst 3, 1) := by decide +kernel
theorem dec_238_80 : decode (mC 238) 80 = .ok (.sipush 2000, 3) := by decide +kernel
theorem dec_238_83 : decode (mC 238) 83 = .ok (.iastore, 1) := by decide +kernel
theorem dec_238_84 : decode (mC 238) 84 = .ok (.putfield 34, 3) := by decide +kernel
set_option maxRecDepth 20000 in
theorem fl_238_34 : qn_FL 238 34 2 8 := ⟨⟨qm_in1 232 rfl, rfl⟩, by decide, by decide, rfl⟩
theorem dec_238_87 : decode (mC 238) 87 = .ok (.aload_n 0, 1) := by decide +kernel
theorem dec_238_88 : decode (mC 238) 88 = .ok (.bipush 6, 2) := by decide +kernel
theorem dec_238_90 : decode (mC 238) 90 = .ok (.newarray .int, 2) := by decide +kernel
theorem dec_238_92 : decode (mC 238) 92 = .ok (.putfield 37, 3) := by decide +kernel
set_option maxRecDepth 20000 in
theorem fl_238_37 : qn_FL 238 37 2 9 := ⟨⟨qm_in1 234 rfl, rfl⟩, by decide, by decide, rfl⟩
theorem dec_238_95 : decode (mC 238) 95 = .ok (.aload_n 0, 1) := by decide +kernel
theorem dec_238_96 : decode (mC 238) 96 = .ok (.iconst 0, 1) := by decide +kernel
theorem dec_238_97 : decode (mC 238) 97 = .ok (.putfield 40, 3) := by decide +kernel
set_option maxRecDepth 20000 in
theorem fl_238_40 : qn_FL 238 40 2 10 := ⟨⟨qm_in1 236 rfl, rfl⟩, by decide, by decide, rfl⟩
theorem dec_238_100 : decode (mC 238) 100 = .ok (.aload_n 0, 1) := by decide +kernel
theorem dec_238_101 : decode (mC 238) 101 = .ok (.iconst 0, 1) := by decide +kernel
theorem dec_238_102 : decode (mC 238) 102 = .ok (.putfield 44, 3) := by decide +kernel
set_option maxRecDepth 20000 in
theorem fl_238_44 : qn_FL 238 44 2 11 := ⟨⟨qm_in1 238 rfl, rfl⟩, by decide, by decide, rfl⟩
theorem dec_238_105 : decode (mC 238) 105 = .ok (.aload_n 0, 1) := by decide +kernel
theorem dec_238_106 : decode (mC 238) 106 = .ok (.iconst (-1), 1) := by decide +kernel
theorem dec_238_107 : decode (mC 238) 107 = .ok (.putfield 47, 3) := by decide +kernel
set_option maxRecDepth 20000 in
theorem fl_238_47 : qn_FL 238 47 2 12 := ⟨⟨qm_in2 0 rfl, rfl⟩, by decide, by decide, rfl⟩
theorem dec_238_110 : decode (mC 238) 110 = .ok (.aload_n 0, 1) := by decide +kernel
theorem dec_238_111 : decode (mC 238) 111 = .ok (.new 50, 3) := by decide +kernel
set_option maxRecDepth 20000 in
theorem cl_238_50 : qm_Tb (Cond.classLink (qm_cls (mN 238)) 50 (qm_R 3)) := ⟨qm_in1 140 rfl, rfl⟩
set_option maxRecDepth 20000 in
theorem in_3 : qm_Tb (Cond.instantiable (qm_R 3) (qm_nf 3)) := ⟨qm_in1 141 rfl, rfl⟩
set_option maxRecDepth 20000 in
theorem ini_3 : qm_Tb (Cond.initialized (qm_R 3)) := ⟨qm_in1 8 rfl, rfl⟩
theorem dec_238_114 : decode (mC 238) 114 = .ok (.dup, 1) := by decide +kernel
theorem dec_238_115 : decode (mC 238) 115 = .ok (.iload_n 1, 1) := by decide +kernel
theorem dec_238_116 : decode (mC 238) 116 = .ok (.invokespecial 52, 3) := by decide +kernel
set_option maxRecDepth 20000 in
theorem mn_183 : qm_Tb (Cond.initialized (mY 183).cls) := ⟨qm_in1 8 rfl, rfl⟩
set_option maxRecDepth 20000 in
theorem mi_183 : qm_Tb (Cond.instanceMethod (mY 183)) := ⟨qm_in1 143 rfl, rfl⟩
set_option maxRecDepth 20000 in
theorem lk_238_52 : qm_Tb (Cond.methodLink (qm_cls (mN 238)) 52 (mY 183)) ∨ Cond.methodLinkNest (qm_cls (mN 238)) 52 (mY 183) "WoodStack" ∈ qn_nest := Or.inl ⟨qm_in1 142 rfl, rfl⟩
theorem dec_238_119 : decode (mC 238) 119 = .ok (.putfield 55, 3) := by decide +kernel
set_option maxRecDepth 20000 in
theorem fl_238_55 : qn_FL 238 55 2 0 := ⟨⟨qm_in1 211 rfl, rfl⟩, by decide, by decide, rfl⟩
theorem dec_238_122 : decode (mC 238) 122 = .ok (.return_, 1) := by decide +kernel
set_option maxRecDepth 20000 in
theorem cw_198 : qm_CW 198 0 := ⟨⟨qm_in1 82 rfl, rfl⟩, by decide +kernel, by decide +kernel, by decide +kernel, by decide +kernel⟩
theorem dec_198_0 : decode (mC 198) 0 = .ok (.aload_n 0, 1) := by decide +kernel
theorem dec_198_1 : decode (mC 198) 1 = .ok (.invokespecial 3, 3) := by decide +kernel
set_option maxRecDepth 20000 in
theorem ol_198 : qm_Tb (Cond.methodLink (qm_cls (mN 198)) 3 Lib.objectInit) := ⟨qm_in1 83 rfl, rfl⟩
theorem dec_198_4 : decode (mC 198) 4 = .ok (.aload_n 0, 1) := by decide +kernel
theorem dec_198_5 : decode (mC 198) 5 = .ok (.new 9, 3) := by decide +kernel
set_option maxRecDepth 20000 in
theorem cl_198_9 : qm_Tb (Cond.classLink (qm_cls (mN 198)) 9 (qm_R 7)) := ⟨qm_in1 84 rfl, rfl⟩
set_option maxRecDepth 20000 in
theorem in_7 : qm_Tb (Cond.instantiable (qm_R 7) (qm_nf 7)) := ⟨qm_in1 85 rfl, rfl⟩
set_option maxRecDepth 20000 in
theorem ini_7 : qm_Tb (Cond.initialized (qm_R 7)) := ⟨qm_in1 5 rfl, rfl⟩
theorem dec_198_8 : decode (mC 198) 8 = .ok (.dup, 1) := by decide +kernel
theorem dec_198_9 : decode (mC 198) 9 = .ok (.invokespecial 11, 3) := by decide +kernel
set_option maxRecDepth 20000 in
theorem mn_228 : qm_Tb (Cond.initialized (mY 228).cls) := ⟨qm_in1 5 rfl, rfl⟩
set_option maxRecDepth 20000 in
theorem mi_228 : qm_Tb (Cond.instanceMethod (mY 228)) := ⟨qm_in1 87 rfl, rfl⟩
theorem lk_198_11 : qm_Tb (Cond.methodLink (qm_cls (mN 198)) 11 (mY 228)) ∨ Cond.methodLinkNest (qm_cls (mN 198)) 11 (mY 228) "WoodStack" ∈ qn_nest := Or.inr (List.mem_of_getElem? (i := 2) rfl)
theorem dec_198_12 : decode (mC 198) 12 = .ok (.putfield 12, 3) := by decide +kernel
set_option maxRecDepth 20000 in
theorem fl_198_12 : qn_FL 198 12 6 0 := ⟨⟨qm_in1 107 rfl, rfl⟩, by decide, by decide, rfl⟩
theorem dec_198_15 : decode (mC 198) 15 = .ok (.aload_n 0, 1) := by decide +kernel
theorem dec_198_16 : decode (mC 198) 16 = .ok (.aconst_null, 1) := by decide +kernel
theorem dec_198_17 : decode (mC 198) 17 = .ok (.putfield 18, 3) := by decide +kernel
set_option maxRecDepth 20000 in
theorem fl_198_18 : qn_FL 198 18 6 1 := ⟨⟨qm_in1 108 rfl, rfl⟩, by decide, by decide, rfl⟩
theorem dec_198_20 : decode (mC 198) 20 = .ok (.aload_n 0, 1) := by decide +kernel
theorem dec_198_21 : decode (mC 198) 21 = .ok (.iconst 0, 1) := by decide +kernel
theorem dec_198_22 : decode (mC 198) 22 = .ok (.putfield 22, 3) := by decide +kernel
set_option maxRecDepth 20000 in
theorem fl_198_22 : qn_FL 198 22 6 2 := ⟨⟨qm_in1 109 rfl, rfl⟩, by decide, by decide, rfl⟩
theorem dec_198_25 : decode (mC 198) 25 = .ok (.aload_n 0, 1) := by decide +kernel
theorem dec_198_26 : decode (mC 198) 26 = .ok (.iconst (-1), 1) := by decide +kernel
theorem dec_198_27 : decode (mC 198) 27 = .ok (.putfield 26, 3) := by decide +kernel
set_option maxRecDepth 20000 in
theorem fl_198_26 : qn_FL 198 26 6 3 := ⟨⟨qm_in1 110 rfl, rfl⟩, by decide, by decide, rfl⟩
theorem dec_198_30 : decode (mC 198) 30 = .ok (.aload_n 0, 1) := by decide +kernel
theorem dec_198_31 : decode (mC 198) 31 = .ok (.iconst 0, 1) := by decide +kernel
theorem dec_198_32 : decode (mC 198) 32 = .ok (.putfield 29, 3) := by decide +kernel
set_option maxRecDepth 20000 in
theorem fl_198_29 : qn_FL 198 29 6 4 := ⟨⟨qm_in1 111 rfl, rfl⟩, by decide, by decide, rfl⟩
theorem dec_198_35 : decode (mC 198) 35 = .ok (.aload_n 0, 1) := by decide +kernel
theorem dec_198_36 : decode (mC 198) 36 = .ok (.iconst (-1), 1) := by decide +kernel
theorem dec_198_37 : decode (mC 198) 37 = .ok (.putfield 32, 3) := by decide +kernel
set_option maxRecDepth 20000 in
theorem fl_198_32 : qn_FL 198 32 6 5 := ⟨⟨qm_in1 113 rfl, rfl⟩, by decide, by decide, rfl⟩
theorem dec_198_40 : decode (mC 198) 40 = .ok (.return_, 1) := by decide +kernel
set_option maxRecDepth 20000 in
theorem cw_217 : qm_CW 217 1 := ⟨⟨qm_in2 35 rfl, rfl⟩, by decide +kernel, by decide +kernel, by decide +kernel, by decide +kernel⟩
theorem dec_217_0 : decode (mC 217) 0 = .ok (.aload_n 0, 1) := by decide +kernel
theorem dec_217_1 : decode (mC 217) 1 = .ok (.invokespecial 3, 3) := by decide +kernel
set_option maxRecDepth 20000 in
theorem ol_217 : qm_Tb (Cond.methodLink (qm_cls (mN 217)) 3 Lib.objectInit) := ⟨qm_in2 36 rfl, rfl⟩
theorem dec_217_4 : decode (mC 217) 4 = .ok (.aload_n 0, 1) := by decide +kernel
theorem dec_217_5 : decode (mC 217) 5 = .ok (.iconst 5, 1) := by decide +kernel
theorem dec_217_6 : decode (mC 217) 6 = .ok (.anewarray 9, 3) := by decide +kernel
set_option maxRecDepth 20000 in
theorem cl_217_9 : qm_Tb (Cond.classLink (qm_cls (mN 217)) 9 (qm_R 3)) := ⟨qm_in2 37 rfl, rfl⟩
theorem dec_217_9 : decode (mC 217) 9 = .ok (.putfield 11, 3) := by decide +kernel
set_option maxRecDepth 20000 in
theorem fl_217_11 : qn_FL 217 11 8 0 := ⟨⟨qm_in2 40 rfl, rfl⟩, by decide, by decide, rfl⟩
theorem dec_217_12 : decode (mC 217) 12 = .ok (.aload_n 0, 1) := by decide +kernel
theorem dec_217_13 : decode (mC 217) 13 = .ok (.iconst 5, 1) := by decide +kernel
theorem dec_217_14 : decode (mC 217) 14 = .ok (.newarray .int, 2) := by decide +kernel
theorem dec_217_16 : decode (mC 217) 16 = .ok (.putfield 17, 3) := by decide +kernel
set_option maxRecDepth 20000 in
theorem fl_217_17 : qn_FL 217 17 8 1 := ⟨⟨qm_in2 41 rfl, rfl⟩, by decide, by decide, rfl⟩
theorem dec_217_19 : decode (mC 217) 19 = .ok (.aload_n 0, 1) := by decide +kernel
theorem dec_217_20 : decode (mC 217) 20 = .ok (.iconst 5, 1) := by decide +kernel
theorem dec_217_21 : decode (mC 217) 21 = .ok (.newarray .int, 2) := by decide +kernel
theorem dec_217_23 : decode (mC 217) 23 = .ok (.putfield 21, 3) := by decide +kernel
set_option maxRecDepth 20000 in
theorem fl_217_21 : qn_FL 217 21 8 2 := ⟨⟨qm_in2 42 rfl, rfl⟩, by decide, by decide, rfl⟩
theorem dec_217_26 : decode (mC 217) 26 = .ok (.aload_n 0, 1) := by decide +kernel
theorem dec_217_27 : decode (mC 217) 27 = .ok (.iconst 0, 1) := by decide +kernel
theorem dec_217_28 : decode (mC 217) 28 = .ok (.putfield 24, 3) := by decide +kernel
set_option maxRecDepth 20000 in
theorem fl_217_24 : qn_FL 217 24 8 3 := ⟨⟨qm_in2 44 rfl, rfl⟩, by decide, by decide, rfl⟩
theorem dec_217_31 : decode (mC 217) 31 = .ok (.aload_n 0, 1) := by decide +kernel
theorem dec_217_32 : decode (mC 217) 32 = .ok (.iconst 0, 1) := by decide +kernel
theorem dec_217_33 : decode (mC 217) 33 = .ok (.putfield 28, 3) := by decide +kernel
set_option maxRecDepth 20000 in
theorem fl_217_28 : qn_FL 217 28 8 4 := ⟨⟨qm_in2 46 rfl, rfl⟩, by decide, by decide, rfl⟩
theorem dec_217_36 : decode (mC 217) 36 = .ok (.iconst 0, 1) := by decide +kernel
theorem dec_217_37 : decode (mC 217) 37 = .ok (.istore_n 2, 1) := by decide +kernel
theorem dec_217_38 : decode (mC 217) 38 = .ok (.iload_n 2, 1) := by decide +kernel
theorem dec_217_39 : decode (mC 217) 39 = .ok (.iconst 5, 1) := by decide +kernel
theorem dec_217_40 : decode (mC 217) 40 = .ok (.if_icmp .ge 23, 3) := by decide +kernel
theorem dec_217_43 : decode (mC 217) 43 = .ok (.aload_n 0, 1) := by decide +kernel
theorem dec_217_44 : decode (mC 217) 44 = .ok (.getfield 11, 3) := by decide +kernel
theorem dec_217_47 : decode (mC 217) 47 = .ok (.iload_n 2, 1) := by decide +kernel
theorem dec_217_48 : decode (mC 217) 48 = .ok (.new 9, 3) := by decide +kernel
theorem dec_217_51 : decode (mC 217) 51 = .ok (.dup, 1) := by decide +kernel
theorem dec_217_52 : decode (mC 217) 52 = .ok (.iload_n 1, 1) := by decide +kernel
theorem dec_217_53 : decode (mC 217) 53 = .ok (.invokespecial 31, 3) := by decide +kernel
set_option maxRecDepth 20000 in
theorem lk_217_31 : qm_Tb (Cond.methodLink (qm_cls (mN 217)) 31 (mY 183)) ∨ Cond.methodLinkNest (qm_cls (mN 217)) 31 (mY 183) "WoodStack" ∈ qn_nest := Or.inl ⟨qm_in2 39 rfl, rfl⟩
theorem dec_217_56 : decode (mC 217) 56 = .ok (.aastore, 1) := by decide +kernel
theorem dec_217_57 : decode (mC 217) 57 = .ok (.iinc 2 1, 3) := by decide +kernel
theorem dec_217_60 : decode (mC 217) 60 = .ok (.goto (-22), 3) := by decide +kernel
theorem dec_217_63 : decode (mC 217) 63 = .ok (.return_, 1) := by decide +kernel
set_option maxRecDepth 20000 in
theorem cw_0 : qm_CW 0 1 := ⟨⟨qm_in1 20 rfl, rfl⟩, by decide +kernel, by decide +kernel, by decide +kernel, by decide +kernel⟩
theorem dec_0_0 : decode (mC 0) 0 = .ok (.aload_n 0, 1) := by decide +kernel
theorem dec_0_1 : decode (mC 0) 1 = .ok (.invokespecial 1, 3) := by decide +kernel
set_option maxRecDepth 20000 in
theorem ol_0 : qm_Tb (Cond.methodLink (qm_cls (mN 0)) 1 Lib.objectInit) := ⟨qm_in1 21 rfl, rfl⟩
theorem dec_0_4 : decode (mC 0) 4 = .ok (.aload_n 0, 1) := by decide +kernel
theorem dec_0_5 : decode (mC 0) 5 = .ok (.iconst 4, 1) := by decide +kernel
theorem dec_0_6 : decode (mC 0) 6 = .ok (.anewarray 9, 3) := by decide +kernel
set_option maxRecDepth 20000 in
theorem cl_0_9 : qm_Tb (Cond.classLink (qm_cls (mN 0)) 9 (qm_R 4)) := ⟨qm_in1 24 rfl, rfl⟩
theorem dec_0_9 : decode (mC 0) 9 = .ok (.putfield 11, 3) := by decide +kernel
set_option maxRecDepth 20000 in
theorem fl_0_11 : qn_FL 0 11 1 2 := ⟨⟨qm_in2 61 rfl, rfl⟩, by decide, by decide, rfl⟩
theorem dec_0_12 : decode (mC 0) 12 = .ok (.aload_n 0, 1) := by decide +kernel
theorem dec_0_13 : decode (mC 0) 13 = .ok (.new 9, 3) := by decide +kernel
set_option maxRecDepth 20000 in
theorem in_4 : qm_Tb (Cond.instantiable (qm_R 4) (qm_nf 4)) := ⟨qm_in1 26 rfl, rfl⟩
set_option maxRecDepth 20000 in
theorem ini_4 : qm_Tb (Cond.initialized (qm_R 4)) := ⟨qm_in1 2 rfl, rfl⟩
theorem dec_0_16 : decode (mC 0) 16 = .ok (.dup, 1) := by decide +kernel
theorem dec_0_17 : decode (mC 0) 17 = .ok (.invokespecial 15, 3) := by decide +kernel
set_option maxRecDepth 20000 in
theorem mn_221 : qm_Tb (Cond.initialized (mY 221).cls) := ⟨qm_in1 2 rfl, rfl⟩
set_option maxRecDepth 20000 in
theorem mi_221 : qm_Tb (Cond.instanceMethod (mY 221)) := ⟨qm_in1 28 rfl, rfl⟩
theorem lk_0_15 : qm_Tb (Cond.methodLink (qm_cls (mN 0)) 15 (mY 221)) ∨ Cond.methodLinkNest (qm_cls (mN 0)) 15 (mY 221) "WoodStack" ∈ qn_nest := Or.inr (List.mem_of_getElem? (i := 0) rfl)
theorem dec_0_20 : decode (mC 0) 20 = .ok (.putfield 16, 3) := by decide +kernel
set_option maxRecDepth 20000 in
theorem fl_0_16 : qn_FL 0 16 1 3 := ⟨⟨qm_in2 62 rfl, rfl⟩, by decide, by decide, rfl⟩
theorem dec_0_23 : decode (mC 0) 23 = .ok (.aload_n 0, 1) := by decide +kernel
theorem dec_0_24 : decode (mC 0) 24 = .ok (.new 20, 3) := by decide +kernel
set_option maxRecDepth 20000 in
theorem cl_0_20 : qm_Tb (Cond.classLink (qm_cls (mN 0)) 20 (qm_R 5)) := ⟨qm_in1 61 rfl, rfl⟩
set_option maxRecDepth 20000 in
theorem in_5 : qm_Tb (Cond.instantiable (qm_R 5) (qm_nf 5)) := ⟨qm_in1 62 rfl, rfl⟩
set_option maxRecDepth 20000 in
theorem ini_5 : qm_Tb (Cond.initialized (qm_R 5)) := ⟨qm_in1 3 rfl, rfl⟩
theorem dec_0_27 : decode (mC 0) 27 = .ok (.dup, 1) := by decide +kernel
theorem dec_0_28 : decode (mC 0) 28 = .ok (.aload_n 0, 1) := by decide +kernel
theorem dec_0_29 : decode (mC 0) 29 = .ok (.getfield 16, 3) := by decide +kernel
theorem dec_0_32 : decode (mC 0) 32 = .ok (.invokespecial 22, 3) := by decide +kernel
set_option maxRecDepth 20000 in
theorem mn_165 : qm_Tb (Cond.initialized (mY 165).cls) := ⟨qm_in1 3 rfl, rfl⟩
set_option maxRecDepth 20000 in
theorem mi_165 : qm_Tb (Cond.instanceMethod (mY 165)) := ⟨qm_in1 64 rfl, rfl⟩
set_option maxRecDepth 20000 in
theorem lk_0_22 : qm_Tb (Cond.methodLink (qm_cls (mN 0)) 22 (mY 165)) ∨ Cond.methodLinkNest (qm_cls (mN 0)) 22 (mY 165) "WoodStack" ∈ qn_nest := Or.inl ⟨qm_in1 63 rfl, rfl⟩
theorem dec_0_35 : decode (mC 0) 35 = .ok (.putfield 25, 3) := by decide +kernel
set_option maxRecDepth 20000 in
theorem fl_0_25 : qn_FL 0 25 1 4 := ⟨⟨qm_in2 63 rfl, rfl⟩, by decide, by decide, rfl⟩
theorem dec_0_38 : decode (mC 0) 38 = .ok (.aload_n 0, 1) := by decide +kernel
theorem dec_0_39 : decode (mC 0) 39 = .ok (.new 29, 3) := by decide +kernel
set_option maxRecDepth 20000 in
theorem cl_0_29 : qm_Tb (Cond.classLink (qm_cls (mN 0)) 29 (qm_R 6)) := ⟨qm_in1 78 rfl, rfl⟩
set_option maxRecDepth 20000 in
theorem in_6 : qm_Tb (Cond.instantiable (qm_R 6) (qm_nf 6)) := ⟨qm_in1 79 rfl, rfl⟩
set_option maxRecDepth 20000 in
theorem ini_6 : qm_Tb (Cond.initialized (qm_R 6)) := ⟨qm_in1 4 rfl, rfl⟩
theorem dec_0_42 : decode (mC 0) 42 = .ok (.dup, 1) := by decide +kernel
theorem dec_0_43 : decode (mC 0) 43 = .ok (.invokespecial 31, 3) := by decide +kernel
set_option maxRecDepth 20000 in
theorem mn_198 : qm_Tb (Cond.initialized (mY 198).cls) := ⟨qm_in1 4 rfl, rfl⟩
set_option maxRecDepth 20000 in
theorem mi_198 : qm_Tb (Cond.instanceMethod (mY 198)) := ⟨qm_in1 81 rfl, rfl⟩
theorem lk_0_31 : qm_Tb (Cond.methodLink (qm_cls (mN 0)) 31 (mY 198)) ∨ Cond.methodLinkNest (qm_cls (mN 0)) 31 (mY 198) "WoodStack" ∈ qn_nest := Or.inr (List.mem_of_getElem? (i := 1) rfl)
theorem dec_0_46 : decode (mC 0) 46 = .ok (.putfield 32, 3) := by decide +kernel
set_option maxRecDepth 20000 in
theorem fl_0_32 : qn_FL 0 32 1 5 := ⟨⟨qm_in2 64 rfl, rfl⟩, by decide, by decide, rfl⟩
theorem dec_0_49 : decode (mC 0) 49 = .ok (.aload_n 0, 1) := by decide +kernel
theorem dec_0_50 : decode (mC 0) 50 = .ok (.sipush 300, 3) := by decide +kernel
theorem dec_0_53 : decode (mC 0) 53 = .ok (.newarray .int, 2) := by decide +kernel
theorem dec_0_55 : decode (mC 0) 55 = .ok (.putfield 36, 3) := by decide +kernel
set_option maxRecDepth 20000 in
theorem fl_0_36 : qn_FL 0 36 1 6 := ⟨⟨qm_in2 65 rfl, rfl⟩, by decide, by decide, rfl⟩
theorem dec_0_58 : decode (mC 0) 58 = .ok (.aload_n 0, 1) := by decide +kernel
theorem dec_0_59 : decode (mC 0) 59 = .ok (.iconst 0, 1) := by decide +kernel
theorem dec_0_60 : decode (mC 0) 60 = .ok (.putfield 40, 3) := by decide +kernel
set_option maxRecDepth 20000 in
theorem fl_0_40 : qn_FL 0 40 1 7 := ⟨⟨qm_in2 66 rfl, rfl⟩, by decide, by decide, rfl⟩
theorem dec_0_63 : decode (mC 0) 63 = .ok (.aload_n 0, 1) := by decide +kernel
theorem dec_0_64 : decode (mC 0) 64 = .ok (.iconst 0, 1) := by decide +kernel
theorem dec_0_65 : decode (mC 0) 65 = .ok (.putfield 44, 3) := by decide +kernel
set_option maxRecDepth 20000 in
theorem fl_0_44 : qn_FL 0 44 1 8 := ⟨⟨qm_in2 67 rfl, rfl⟩, by decide, by decide, rfl⟩
theorem dec_0_68 : decode (mC 0) 68 = .ok (.aload_n 0, 1) := by decide +kernel
theorem dec_0_69 : decode (mC 0) 69 = .ok (.bipush 48, 2) := by decide +kernel
theorem dec_0_71 : decode (mC 0) 71 = .ok (.newarray .int, 2) := by decide +kernel
theorem dec_0_73 : decode (mC 0) 73 = .ok (.putfield 48, 3) := by decide +kernel
set_option maxRecDepth 20000 in
theorem fl_0_48 : qn_FL 0 48 1 12 := ⟨⟨qm_in2 71 rfl, rfl⟩, by decide, by decide, rfl⟩
theorem dec_0_76 : decode (mC 0) 76 = .ok (.aload_n 0, 1) := by decide +kernel
theorem dec_0_77 : decode (mC 0) 77 = .ok (.bipush 8, 2) := by decide +kernel
theorem dec_0_79 : decode (mC 0) 79 = .ok (.newarray .int, 2) := by decide +kernel
theorem dec_0_81 : decode (mC 0) 81 = .ok (.putfield 51, 3) := by decide +kernel
set_option maxRecDepth 20000 in
theorem fl_0_51 : qn_FL 0 51 1 13 := ⟨⟨qm_in2 72 rfl, rfl⟩, by decide, by decide, rfl⟩
theorem dec_0_84 : decode (mC 0) 84 = .ok (.aload_n 0, 1) := by decide +kernel
theorem dec_0_85 : decode (mC 0) 85 = .ok (.bipush 8, 2) := by decide +kernel
theorem dec_0_87 : decode (mC 0) 87 = .ok (.newarray .int, 2) := by decide +kernel
theorem dec_0_89 : decode (mC 0) 89 = .ok (.putfield 54, 3) := by decide +kernel
set_option maxRecDepth 20000 in
theorem fl_0_54 : qn_FL 0 54 1 14 := ⟨⟨qm_in2 73 rfl, rfl⟩, by decide, by decide, rfl⟩
theorem dec_0_92 : decode (mC 0) 92 = .ok (.iconst 2, 1) := by decide +kernel
theorem dec_0_93 : decode (mC 0) 93 = .ok (.bipush 6, 2) := by decide +kernel
theorem dec_0_95 : decode (mC 0) 95 = .ok (.iload_n 1, 1) := by decide +kernel
theorem dec_0_96 : decode (mC 0) 96 = .ok (.invokestatic 57, 3) := by decide +kernel
set_option maxRecDepth 20000 in
theorem lm_0_57 : qm_Tb (Cond.methodLink (qm_cls (mN 0)) 57 Lib.Math.min.name) := ⟨qm_in1 128 rfl, rfl⟩
theorem dec_0_99 : decode (mC 0) 99 = .ok (.invokestatic 63, 3) := by decide +kernel
set_option maxRecDepth 20000 in
theorem lm_0_63 : qm_Tb (Cond.methodLink (qm_cls (mN 0)) 63 Lib.Math.max.name) := ⟨qm_in1 131 rfl, rfl⟩
theorem dec_0_102 : decode (mC 0) 102 = .ok (.istore_n 2, 1) := by decide +kernel
theorem dec_0_103 : decode (mC 0) 103 = .ok (.aload_n 0, 1) := by decide +kernel
theorem dec_0_104 : decode (mC 0) 104 = .ok (.new 66, 3) := by decide +kernel
set_option maxRecDepth 20000 in
theorem cl_0_66 : qm_Tb (Cond.classLink (qm_cls (mN 0)) 66 (qm_R 2)) := ⟨qm_in1 134 rfl, rfl⟩
set_option maxRecDepth 20000 in
theorem in_2 : qm_Tb (Cond.instantiable (qm_R 2) (qm_nf 2)) := ⟨qm_in1 135 rfl, rfl⟩
set_option maxRecDepth 20000 in
theorem ini_2 : qm_Tb (Cond.initialized (qm_R 2)) := ⟨qm_in1 7 rfl, rfl⟩
theorem dec_0_107 : decode (mC 0) 107 = .ok (.dup, 1) := by decide +kernel
theorem dec_0_108 : decode (mC 0) 108 = .ok (.iload_n 2, 1) := by decide +kernel
theorem dec_0_109 : decode (mC 0) 109 = .ok (.invokespecial 68, 3) := by decide +kernel
set_option maxRecDepth 20000 in
theorem mn_238 : qm_Tb (Cond.initialized (mY 238).cls) := ⟨qm_in1 7 rfl, rfl⟩
set_option maxRecDepth 20000 in
theorem mi_238 : qm_Tb (Cond.instanceMethod (mY 238)) := ⟨qm_in1 137 rfl, rfl⟩
set_option maxRecDepth 20000 in
theorem lk_0_68 : qm_Tb (Cond.methodLink (qm_cls (mN 0)) 68 (mY 238)) ∨ Cond.methodLinkNest (qm_cls (mN 0)) 68 (mY 238) "WoodStack" ∈ qn_nest := Or.inl ⟨qm_in1 136 rfl, rfl⟩
theorem dec_0_112 : decode (mC 0) 112 = .ok (.putfield 71, 3) := by decide +kernel
set_option maxRecDepth 20000 in
theorem fl_0_71 : qn_FL 0 71 1 0 := ⟨⟨qm_in2 59 rfl, rfl⟩, by decide, by decide, rfl⟩
theorem dec_0_115 : decode (mC 0) 115 = .ok (.aload_n 0, 1) := by decide +kernel
theorem dec_0_116 : decode (mC 0) 116 = .ok (.new 66, 3) := by decide +kernel
theorem dec_0_119 : decode (mC 0) 119 = .ok (.dup, 1) := by decide +kernel
theorem dec_0_120 : decode (mC 0) 120 = .ok (.iload_n 2, 1) := by decide +kernel
theorem dec_0_121 : decode (mC 0) 121 = .ok (.invokespecial 68, 3) := by decide +kernel
theorem dec_0_124 : decode (mC 0) 124 = .ok (.putfield 75, 3) := by decide +kernel
set_option maxRecDepth 20000 in
theorem fl_0_75 : qn_FL 0 75 1 1 := ⟨⟨qm_in2 60 rfl, rfl⟩, by decide, by decide, rfl⟩
theorem dec_0_127 : decode (mC 0) 127 = .ok (.aload_n 0, 1) := by decide +kernel
theorem dec_0_128 : decode (mC 0) 128 = .ok (.new 78, 3) := by decide +kernel
set_option maxRecDepth 20000 in
theorem cl_0_78 : qm_Tb (Cond.classLink (qm_cls (mN 0)) 78 (qm_R 3)) := ⟨qm_in2 29 rfl, rfl⟩
theorem dec_0_131 : decode (mC 0) 131 = .ok (.dup, 1) := by decide +kernel
theorem dec_0_132 : decode (mC 0) 132 = .ok (.iload_n 2, 1) := by decide +kernel
theorem dec_0_133 : decode (mC 0) 133 = .ok (.invokespecial 80, 3) := by decide +kernel
set_option maxRecDepth 20000 in
theorem lk_0_80 : qm_Tb (Cond.methodLink (qm_cls (mN 0)) 80 (mY 183)) ∨ Cond.methodLinkNest (qm_cls (mN 0)) 80 (mY 183) "WoodStack" ∈ qn_nest := Or.inl ⟨qm_in2 30 rfl, rfl⟩
theorem dec_0_136 : decode (mC 0) 136 = .ok (.putfield 81, 3) := by decide +kernel
set_option maxRecDepth 20000 in
theorem fl_0_81 : qn_FL 0 81 1 9 := ⟨⟨qm_in2 68 rfl, rfl⟩, by decide, by decide, rfl⟩
theorem dec_0_139 : decode (mC 0) 139 = .ok (.aload_n 0, 1) := by decide +kernel
theorem dec_0_140 : decode (mC 0) 140 = .ok (.new 78, 3) := by decide +kernel
theorem dec_0_143 : decode (mC 0) 143 = .ok (.dup, 1) := by decide +kernel
theorem dec_0_144 : decode (mC 0) 144 = .ok (.iload_n 2, 1) := by decide +kernel
theorem dec_0_145 : decode (mC 0) 145 = .ok (.invokespecial 80, 3) := by decide +kernel
theorem dec_0_148 : decode (mC 0) 148 = .ok (.putfield 85, 3) := by decide +kernel
set_option maxRecDepth 20000 in
theorem fl_0_85 : qn_FL 0 85 1 10 := ⟨⟨qm_in2 69 rfl, rfl⟩, by decide, by decide, rfl⟩
theorem dec_0_151 : decode (mC 0) 151 = .ok (.aload_n 0, 1) := by decide +kernel
theorem dec_0_152 : decode (mC 0) 152 = .ok (.new 88, 3) := by decide +kernel
set_option maxRecDepth 20000 in
theorem cl_0_88 : qm_Tb (Cond.classLink (qm_cls (mN 0)) 88 (qm_R 8)) := ⟨qm_in2 31 rfl, rfl⟩
set_option maxRecDepth 20000 in
theorem in_8 : qm_Tb (Cond.instantiable (qm_R 8) (qm_nf 8)) := ⟨qm_in2 32 rfl, rfl⟩
set_option maxRecDepth 20000 in
theorem ini_8 : qm_Tb (Cond.initialized (qm_R 8)) := ⟨qm_in1 9 rfl, rfl⟩
theorem dec_0_155 : decode (mC 0) 155 = .ok (.dup, 1) := by decide +kernel
theorem dec_0_156 : decode (mC 0) 156 = .ok (.iload_n 2, 1) := by decide +kernel
theorem dec_0_157 : decode (mC 0) 157 = .ok (.invokespecial 90, 3) := by decide +kernel
set_option maxRecDepth 20000 in
theorem mn_217 : qm_Tb (Cond.initialized (mY 217).cls) := ⟨qm_in1 9 rfl, rfl⟩
set_option maxRecDepth 20000 in
theorem mi_217 : qm_Tb (Cond.instanceMethod (mY 217)) := ⟨qm_in2 34 rfl, rfl⟩
set_option maxRecDepth 20000 in
theorem lk_0_90 : qm_Tb (Cond.methodLink (qm_cls (mN 0)) 90 (mY 217)) ∨ Cond.methodLinkNest (qm_cls (mN 0)) 90 (mY 217) "WoodStack" ∈ qn_nest := Or.inl ⟨qm_in2 33 rfl, rfl⟩
theorem dec_0_160 : decode (mC 0) 160 = .ok (.putfield 91, 3) := by decide +kernel
set_option maxRecDepth 20000 in
theorem fl_0_91 : qn_FL 0 91 1 11 := ⟨⟨qm_in2 70 rfl, rfl⟩, by decide, by decide, rfl⟩
theorem dec_0_163 : decode (mC 0) 163 = .ok (.iconst 0, 1) := by decide +kernel
theorem dec_0_164 : decode (mC 0) 164 = .ok (.istore_n 3, 1) := by decide +kernel
theorem dec_0_165 : decode (mC 0) 165 = .ok (.iload_n 3, 1) := by decide +kernel
theorem dec_0_166 : decode (mC 0) 166 = .ok (.iconst 4, 1) := by decide +kernel
theorem dec_0_167 : decode (mC 0) 167 = .ok (.if_icmp .ge 22, 3) := by decide +kernel
theorem dec_0_170 : decode (mC 0) 170 = .ok (.aload_n 0, 1) := by decide +kernel
theorem dec_0_171 : decode (mC 0) 171 = .ok (.getfield 11, 3) := by decide +kernel
theorem dec_0_174 : decode (mC 0) 174 = .ok (.iload_n 3, 1) := by decide +kernel
theorem dec_0_175 : decode (mC 0) 175 = .ok (.new 9, 3) := by decide +kernel
theorem dec_0_178 : decode (mC 0) 178 = .ok (.dup, 1) := by decide +kernel
theorem dec_0_179 : decode (mC 0) 179 = .ok (.invokespecial 15, 3) := by decide +kernel
theorem dec_0_182 : decode (mC 0) 182 = .ok (.aastore, 1) := by decide +kernel
theorem dec_0_183 : decode (mC 0) 183 = .ok (.iinc 3 1, 3) := by decide +kernel
theorem dec_0_186 : decode (mC 0) 186 = .ok (.goto (-21), 3) := by decide +kernel
theorem dec_0_189 : decode (mC 0) 189 = .ok (.return_, 1) := by decide +kernel
set_option maxRecDepth 20000 in
theorem cw_55 : qm_CW 55 1 := ⟨⟨qm_in4 202 rfl, rfl⟩, by decide +kernel, by decide +kernel, by decide +kernel, by decide +kernel⟩
theorem dec_55_0 : decode (mC 55) 0 = .ok (.aload_n 0, 1) := by decide +kernel
theorem dec_55_1 : decode (mC 55) 1 = .ok (.invokespecial 1, 3) := by decide +kernel
set_option maxRecDepth 20000 in
theorem ol_55 : qm_Tb (Cond.methodLink (qm_cls (mN 55)) 1 Lib.objectInit) := ⟨qm_in4 203 rfl, rfl⟩
theorem dec_55_4 : decode (mC 55) 4 = .ok (.aload_n 0, 1) := by decide +kernel
theorem dec_55_5 : decode (mC 55) 5 = .ok (.sipush 3360, 3) := by decide +kernel
theorem dec_55_8 : decode (mC 55) 8 = .ok (.newarray .int, 2) := by decide +kernel
theorem dec_55_10 : decode (mC 55) 10 = .ok (.putfield 7, 3) := by decide +kernel
set_option maxRecDepth 20000 in
theorem fl_55_7 : qn_FL 55 7 9 0 := ⟨⟨qm_in4 208 rfl, rfl⟩, by decide, by decide, rfl⟩
theorem dec_55_13 : decode (mC 55) 13 = .ok (.aload_n 0, 1) := by decide +kernel
theorem dec_55_14 : decode (mC 55) 14 = .ok (.sipush 2880, 3) := by decide +kernel
theorem dec_55_17 : decode (mC 55) 17 = .ok (.newarray .int, 2) := by decide +kernel
theorem dec_55_19 : decode (mC 55) 19 = .ok (.putfield 13, 3) := by decide +kernel
set_option maxRecDepth 20000 in
theorem fl_55_13 : qn_FL 55 13 9 3 := ⟨⟨qm_in4 211 rfl, rfl⟩, by decide, by decide, rfl⟩
theorem dec_55_22 : decode (mC 55) 22 = .ok (.aload_n 0, 1) := by decide +kernel
theorem dec_55_23 : decode (mC 55) 23 = .ok (.sipush 300, 3) := by decide +kernel
theorem dec_55_26 : decode (mC 55) 26 = .ok (.newarray .int, 2) := by decide +kernel
theorem dec_55_28 : decode (mC 55) 28 = .ok (.putfield 16, 3) := by decide +kernel
set_option maxRecDepth 20000 in
theorem fl_55_16 : qn_FL 55 16 9 4 := ⟨⟨qm_in4 212 rfl, rfl⟩, by decide, by decide, rfl⟩
theorem dec_55_31 : decode (mC 55) 31 = .ok (.aload_n 0, 1) := by decide +kernel
theorem dec_55_32 : decode (mC 55) 32 = .ok (.iconst (-1), 1) := by decide +kernel
theorem dec_55_33 : decode (mC 55) 33 = .ok (.putfield 19, 3) := by decide +kernel
set_option maxRecDepth 20000 in
theorem fl_55_19 : qn_FL 55 19 9 6 := ⟨⟨qm_in4 214 rfl, rfl⟩, by decide, by decide, rfl⟩
theorem dec_55_36 : decode (mC 55) 36 = .ok (.aload_n 0, 1) := by decide +kernel
theorem dec_55_37 : decode (mC 55) 37 = .ok (.iconst (-1), 1) := by decide +kernel
theorem dec_55_38 : decode (mC 55) 38 = .ok (.putfield 23, 3) := by decide +kernel
set_option maxRecDepth 20000 in
theorem fl_55_23 : qn_FL 55 23 9 7 := ⟨⟨qm_in4 215 rfl, rfl⟩, by decide, by decide, rfl⟩
theorem dec_55_41 : decode (mC 55) 41 = .ok (.aload_n 0, 1) := by decide +kernel
theorem dec_55_42 : decode (mC 55) 42 = .ok (.sipush 160, 3) := by decide +kernel
theorem dec_55_45 : decode (mC 55) 45 = .ok (.newarray .int, 2) := by decide +kernel
theorem dec_55_47 : decode (mC 55) 47 = .ok (.putfield 26, 3) := by decide +kernel
set_option maxRecDepth 20000 in
theorem fl_55_26 : qn_FL 55 26 9 17 := ⟨⟨qm_in4 223 rfl, rfl⟩, by decide, by decide, rfl⟩
theorem dec_55_50 : decode (mC 55) 50 = .ok (.aload_n 0, 1) := by decide +kernel
theorem dec_55_51 : decode (mC 55) 51 = .ok (.bipush 17, 2) := by decide +kernel
theorem dec_55_53 : decode (mC 55) 53 = .ok (.newarray .int, 2) := by decide +kernel
theorem dec_55_55 : decode (mC 55) 55 = .ok (.putfield 29, 3) := by decide +kernel
set_option maxRecDepth 20000 in
theorem fl_55_29 : qn_FL 55 29 9 23 := ⟨⟨qm_in4 229 rfl, rfl⟩, by decide, by decide, rfl⟩
theorem dec_55_58 : decode (mC 55) 58 = .ok (.aload_n 0, 1) := by decide +kernel
theorem dec_55_59 : decode (mC 55) 59 = .ok (.sipush 330, 3) := by decide +kernel
theorem dec_55_62 : decode (mC 55) 62 = .ok (.newarray .long, 2) := by decide +kernel
theorem dec_55_64 : decode (mC 55) 64 = .ok (.putfield 32, 3) := by decide +kernel
set_option maxRecDepth 20000 in
theorem fl_55_32 : qn_FL 55 32 9 24 := ⟨⟨qm_in4 230 rfl, rfl⟩, by decide, by decide, rfl⟩
theorem dec_55_67 : decode (mC 55) 67 = .ok (.aload_n 0, 1) := by decide +kernel
theorem dec_55_68 : decode (mC 55) 68 = .ok (.sipush 330, 3) := by decide +kernel
theorem dec_55_71 : decode (mC 55) 71 = .ok (.newarray .boolean, 2) := by decide +kernel
theorem dec_55_73 : decode (mC 55) 73 = .ok (.putfield 36, 3) := by decide +kernel
set_option maxRecDepth 20000 in
theorem fl_55_36 : qn_FL 55 36 9 25 := ⟨⟨qm_in4 231 rfl, rfl⟩, by decide, by decide, rfl⟩
theorem dec_55_76 : decode (mC 55) 76 = .ok (.aload_n 0, 1) := by decide +kernel
theorem dec_55_77 : decode (mC 55) 77 = .ok (.bipush 48, 2) := by decide +kernel
theorem dec_55_79 : decode (mC 55) 79 = .ok (.newarray .int, 2) := by decide +kernel
theorem dec_55_81 : decode (mC 55) 81 = .ok (.putfield 40, 3) := by decide +kernel
set_option maxRecDepth 20000 in
theorem fl_55_40 : qn_FL 55 40 9 26 := ⟨⟨qm_in4 232 rfl, rfl⟩, by decide, by decide, rfl⟩
theorem dec_55_84 : decode (mC 55) 84 = .ok (.aload_n 0, 1) := by decide +kernel
theorem dec_55_85 : decode (mC 55) 85 = .ok (.iconst 5, 1) := by decide +kernel
theorem dec_55_86 : decode (mC 55) 86 = .ok (.newarray .int, 2) := by decide +kernel
theorem dec_55_88 : decode (mC 55) 88 = .ok (.putfield 43, 3) := by decide +kernel
set_option maxRecDepth 20000 in
theorem fl_55_43 : qn_FL 55 43 9 28 := ⟨⟨qm_in4 234 rfl, rfl⟩, by decide, by decide, rfl⟩
theorem dec_55_91 : decode (mC 55) 91 = .ok (.aload_n 0, 1) := by decide +kernel
theorem dec_55_92 : decode (mC 55) 92 = .ok (.bipush 6, 2) := by decide +kernel
theorem dec_55_94 : decode (mC 55) 94 = .ok (.newarray .int, 2) := by decide +kernel
theorem dec_55_96 : decode (mC 55) 96 = .ok (.putfield 46, 3) := by decide +kernel
set_option maxRecDepth 20000 in
theorem fl_55_46 : qn_FL 55 46 9 29 := ⟨⟨qm_in4 235 rfl, rfl⟩, by decide, by decide, rfl⟩
theorem dec_55_99 : decode (mC 55) 99 = .ok (.aload_n 0, 1) := by decide +kernel
theorem dec_55_100 : decode (mC 55) 100 = .ok (.iconst 5, 1) := by decide +kernel
theorem dec_55_101 : decode (mC 55) 101 = .ok (.newarray .int, 2) := by decide +kernel
theorem dec_55_103 : decode (mC 55) 103 = .ok (.putfield 49, 3) := by decide +kernel
set_option maxRecDepth 20000 in
theorem fl_55_49 : qn_FL 55 49 9 30 := ⟨⟨qm_in4 236 rfl, rfl⟩, by decide, by decide, rfl⟩
theorem dec_55_106 : decode (mC 55) 106 = .ok (.aload_n 0, 1) := by decide +kernel
theorem dec_55_107 : decode (mC 55) 107 = .ok (.bipush 8, 2) := by decide +kernel
theorem dec_55_109 : decode (mC 55) 109 = .ok (.newarray .int, 2) := by decide +kernel
theorem dec_55_111 : decode (mC 55) 111 = .ok (.putfield 52, 3) := by decide +kernel
set_option maxRecDepth 20000 in
theorem fl_55_52 : qn_FL 55 52 9 32 := ⟨⟨qm_in4 238 rfl, rfl⟩, by decide, by decide, rfl⟩
theorem dec_55_114 : decode (mC 55) 114 = .ok (.aload_n 0, 1) := by decide +kernel
theorem dec_55_115 : decode (mC 55) 115 = .ok (.bipush 8, 2) := by decide +kernel
theorem dec_55_117 : decode (mC 55) 117 = .ok (.newarray .int, 2) := by decide +kernel
theorem dec_55_119 : decode (mC 55) 119 = .ok (.putfield 55, 3) := by decide +kernel
set_option maxRecDepth 20000 in
theorem fl_55_55 : qn_FL 55 55 9 33 := ⟨⟨qm_in4 239 rfl, rfl⟩, by decide, by decide, rfl⟩
theorem dec_55_122 : decode (mC 55) 122 = .ok (.aload_n 0, 1) := by decide +kernel
theorem dec_55_123 : decode (mC 55) 123 = .ok (.bipush 48, 2) := by decide +kernel
theorem dec_55_125 : decode (mC 55) 125 = .ok (.newarray .int, 2) := by decide +kernel
theorem dec_55_127 : decode (mC 55) 127 = .ok (.putfield 58, 3) := by decide +kernel
set_option maxRecDepth 20000 in
theorem fl_55_58 : qn_FL 55 58 9 34 := ⟨⟨qm_in5 0 rfl, rfl⟩, by decide, by decide, rfl⟩
theorem dec_55_130 : decode (mC 55) 130 = .ok (.aload_n 0, 1) := by decide +kernel
theorem dec_55_131 : decode (mC 55) 131 = .ok (.bipush 48, 2) := by decide +kernel
theorem dec_55_133 : decode (mC 55) 133 = .ok (.newarray .int, 2) := by decide +kernel
theorem dec_55_135 : decode (mC 55) 135 = .ok (.putfield 61, 3) := by decide +kernel
set_option maxRecDepth 20000 in
theorem fl_55_61 : qn_FL 55 61 9 35 := ⟨⟨qm_in5 1 rfl, rfl⟩, by decide, by decide, rfl⟩
theorem dec_55_138 : decode (mC 55) 138 = .ok (.aload_n 0, 1) := by decide +kernel
theorem dec_55_139 : decode (mC 55) 139 = .ok (.bipush 48, 2) := by decide +kernel
theorem dec_55_141 : decode (mC 55) 141 = .ok (.newarray .boolean, 2) := by decide +kernel
theorem dec_55_143 : decode (mC 55) 143 = .ok (.putfield 64, 3) := by decide +kernel
set_option maxRecDepth 20000 in
theorem fl_55_64 : qn_FL 55 64 9 36 := ⟨⟨qm_in5 2 rfl, rfl⟩, by decide, by decide, rfl⟩
theorem dec_55_146 : decode (mC 55) 146 = .ok (.aload_n 0, 1) := by decide +kernel
theorem dec_55_147 : decode (mC 55) 147 = .ok (.iload_n 1, 1) := by decide +kernel
theorem dec_55_148 : decode (mC 55) 148 = .ok (.iconst 2, 1) := by decide +kernel
theorem dec_55_149 : decode (mC 55) 149 = .ok (.if_icmp .ge 7, 3) := by decide +kernel
theorem dec_55_152 : decode (mC 55) 152 = .ok (.iconst 2, 1) := by decide +kernel
theorem dec_55_153 : decode (mC 55) 153 = .ok (.goto 15, 3) := by decide +kernel
theorem dec_55_156 : decode (mC 55) 156 = .ok (.iload_n 1, 1) := by decide +kernel
theorem dec_55_157 : decode (mC 55) 157 = .ok (.bipush 6, 2) := by decide +kernel
theorem dec_55_159 : decode (mC 55) 159 = .ok (.if_icmp .le 8, 3) := by decide +kernel
theorem dec_55_162 : decode (mC 55) 162 = .ok (.bipush 6, 2) := by decide +kernel
theorem dec_55_164 : decode (mC 55) 164 = .ok (.goto 4, 3) := by decide +kernel
theorem dec_55_167 : decode (mC 55) 167 = .ok (.iload_n 1, 1) := by decide +kernel
theorem dec_55_218 : decode (mC 55) 218 = .ok (.invokevirtual 70, 3) := by decide +kernel
theorem dec_55_168 : decode (mC 55) 168 = .ok (.putfield 67, 3) := by decide +kernel
set_option maxRecDepth 20000 in
theorem fl_55_67 : qn_FL 55 67 9 1 := ⟨⟨qm_in4 209 rfl, rfl⟩, by decide, by decide, rfl⟩
theorem dec_55_171 : decode (mC 55) 171 = .ok (.aload_n 0, 1) := by decide +kernel
theorem dec_55_172 : decode (mC 55) 172 = .ok (.getfield 7, 3) := by decide +kernel
theorem dec_55_175 : decode (mC 55) 175 = .ok (.iconst 3, 1) := by decide +kernel
theorem dec_55_176 : decode (mC 55) 176 = .ok (.iconst (-1), 1) := by decide +kernel
theorem dec_55_177 : decode (mC 55) 177 = .ok (.iastore, 1) := by decide +kernel
theorem dec_55_178 : decode (mC 55) 178 = .ok (.aload_n 0, 1) := by decide +kernel
theorem dec_55_179 : decode (mC 55) 179 = .ok (.getfield 7, 3) := by decide +kernel
theorem dec_55_182 : decode (mC 55) 182 = .ok (.bipush 7, 2) := by decide +kernel
theorem dec_55_184 : decode (mC 55) 184 = .ok (.iconst (-1), 1) := by decide +kernel
theorem dec_55_185 : decode (mC 55) 185 = .ok (.iastore, 1) := by decide +kernel
theorem dec_55_186 : decode (mC 55) 186 = .ok (.iconst 0, 1) := by decide +kernel
theorem dec_55_187 : decode (mC 55) 187 = .ok (.istore_n 2, 1) := by decide +kernel
theorem dec_55_188 : decode (mC 55) 188 = .ok (.iload_n 2, 1) := by decide +kernel
theorem dec_55_189 : decode (mC 55) 189 = .ok (.iconst 4, 1) := by decide +kernel
theorem dec_55_190 : decode (mC 55) 190 = .ok (.if_icmp .ge 25, 3) := by decide +kernel
theorem dec_55_193 : decode (mC 55) 193 = .ok (.aload_n 0, 1) := by decide +kernel
theorem dec_55_194 : decode (mC 55) 194 = .ok (.getfield 7, 3) := by decide +kernel
theorem dec_55_197 : decode (mC 55) 197 = .ok (.bipush 10, 2) := by decide +kernel
theorem dec_55_199 : decode (mC 55) 199 = .ok (.iconst 2, 1) := by decide +kernel
theorem dec_55_200 : decode (mC 55) 200 = .ok (.iload_n 2, 1) := by decide +kernel
theorem dec_55_201 : decode (mC 55) 201 = .ok (.imul, 1) := by decide +kernel
theorem dec_55_202 : decode (mC 55) 202 = .ok (.iadd, 1) := by decide +kernel
theorem dec_55_203 : decode (mC 55) 203 = .ok (.iconst 1, 1) := by decide +kernel
theorem dec_55_204 : decode (mC 55) 204 = .ok (.iadd, 1) := by decide +kernel
theorem dec_55_205 : decode (mC 55) 205 = .ok (.sipush 2000, 3) := by decide +kernel
theorem dec_55_208 : decode (mC 55) 208 = .ok (.iastore, 1) := by decide +kernel
theorem dec_55_209 : decode (mC 55) 209 = .ok (.iinc 2 1, 3) := by decide +kernel
theorem dec_55_212 : decode (mC 55) 212 = .ok (.goto (-24), 3) := by decide +kernel
theorem dec_55_215 : decode (mC 55) 215 = .ok (.aload_n 0, 1) := by decide +kernel
theorem dec_55_216 : decode (mC 55) 216 = .ok (.iconst 0, 1) := by decide +kernel
theorem dec_55_217 : decode (mC 55) 217 = .ok (.iconst 1, 1) := by decide +kernel
theorem dec_55_221 : decode (mC 55) 221 = .ok (.return_, 1) := by decide +kernel
theorem dec_241_0 : decode (mC 241) 0 = .ok (.new 7, 3) := by decide +kernel
theorem dec_241_3 : decode (mC 241) 3 = .ok (.dup, 1) := by decide +kernel
theorem dec_241_4 : decode (mC 241) 4 = .ok (.aload_n 0, 1) := by decide +kernel
theorem dec_241_5 : decode (mC 241) 5 = .ok (.iconst 0, 1) := by decide +kernel
theorem dec_241_6 : decode (mC 241) 6 = .ok (.invokestatic 9, 3) := by decide +kernel
theorem dec_241_9 : decode (mC 241) 9 = .ok (.invokespecial 15, 3) := by decide +kernel
theorem dec_241_12 : decode (mC 241) 12 = .ok (.astore_n 1, 1) := by decide +kernel
theorem dec_241_13 : decode (mC 241) 13 = .ok (.new 18, 3) := by decide +kernel
theorem dec_241_16 : decode (mC 241) 16 = .ok (.dup, 1) := by decide +kernel
theorem dec_241_17 : decode (mC 241) 17 = .ok (.aload_n 0, 1) := by decide +kernel
theorem dec_241_18 : decode (mC 241) 18 = .ok (.iconst 0, 1) := by decide +kernel
theorem dec_241_19 : decode (mC 241) 19 = .ok (.invokestatic 9, 3) := by decide +kernel
theorem dec_241_22 : decode (mC 241) 22 = .ok (.invokespecial 20, 3) := by decide +kernel
theorem dec_241_25 : decode (mC 241) 25 = .ok (.astore_n 2, 1) := by decide +kernel
theorem dec_241_26 : decode (mC 241) 26 = .ok (.iconst 1, 1) := by decide +kernel
theorem dec_241_27 : decode (mC 241) 27 = .ok (.istore_n 3, 1) := by decide +kernel
theorem dec_240_0 : decode (mC 240) 0 = .ok (.iload_n 1, 1) := by decide +kernel
theorem dec_240_1 : decode (mC 240) 1 = .ok (.aload_n 0, 1) := by decide +kernel
theorem dec_240_2 : decode (mC 240) 2 = .ok (.arraylength, 1) := by decide +kernel
theorem dec_240_3 : decode (mC 240) 3 = .ok (.if_icmp .ge 9, 3) := by decide +kernel
theorem dec_240_6 : decode (mC 240) 6 = .ok (.aload_n 0, 1) := by decide +kernel
theorem dec_240_7 : decode (mC 240) 7 = .ok (.iload_n 1, 1) := by decide +kernel
theorem dec_240_8 : decode (mC 240) 8 = .ok (.iaload, 1) := by decide +kernel
theorem dec_240_9 : decode (mC 240) 9 = .ok (.goto 4, 3) := by decide +kernel
theorem dec_240_12 : decode (mC 240) 12 = .ok (.iconst 0, 1) := by decide +kernel
theorem dec_240_13 : decode (mC 240) 13 = .ok (.ireturn, 1) := by decide +kernel
set_option maxRecDepth 20000 in
theorem cl_241_7 : qm_Tb (Cond.classLink (qm_cls (mN 241)) 7 (qm_R 1)) := ⟨qm_in1 16 rfl, rfl⟩
set_option maxRecDepth 20000 in
theorem cl_241_18 : qm_Tb (Cond.classLink (qm_cls (mN 241)) 18 (qm_R 9)) := ⟨qm_in4 198 rfl, rfl⟩
set_option maxRecDepth 20000 in
theorem in_1 : qm_Tb (Cond.instantiable (qm_R 1) (qm_nf 1)) := ⟨qm_in1 17 rfl, rfl⟩
set_option maxRecDepth 20000 in
theorem ini_1 : qm_Tb (Cond.initialized (qm_R 1)) := ⟨qm_in1 1 rfl, rfl⟩
set_option maxRecDepth 20000 in
theorem in_9 : qm_Tb (Cond.instantiable (qm_R 9) (qm_nf 9)) := ⟨qm_in4 199 rfl, rfl⟩
set_option maxRecDepth 20000 in
theorem ini_9 : qm_Tb (Cond.initialized (qm_R 9)) := ⟨qm_in1 10 rfl, rfl⟩
set_option maxRecDepth 20000 in
theorem mi_0 : qm_Tb (Cond.instanceMethod (mY 0)) := ⟨qm_in1 19 rfl, rfl⟩
set_option maxRecDepth 20000 in
theorem mn_0 : qm_Tb (Cond.initialized (mY 0).cls) := ⟨qm_in1 1 rfl, rfl⟩
set_option maxRecDepth 20000 in
theorem mi_55 : qm_Tb (Cond.instanceMethod (mY 55)) := ⟨qm_in4 201 rfl, rfl⟩
set_option maxRecDepth 20000 in
theorem mn_55 : qm_Tb (Cond.initialized (mY 55).cls) := ⟨qm_in1 10 rfl, rfl⟩
set_option maxRecDepth 20000 in
theorem lk_241_15 : qm_Tb (Cond.methodLink (qm_cls (mN 241)) 15 (mY 0)) ∨ Cond.methodLinkNest (qm_cls (mN 241)) 15 (mY 0) "WoodStack" ∈ qn_nest := Or.inl ⟨qm_in1 18 rfl, rfl⟩
set_option maxRecDepth 20000 in
theorem lk_241_20 : qm_Tb (Cond.methodLink (qm_cls (mN 241)) 20 (mY 55)) ∨ Cond.methodLinkNest (qm_cls (mN 241)) 20 (mY 55) "WoodStack" ∈ qn_nest := Or.inl ⟨qm_in4 200 rfl, rfl⟩
set_option maxRecDepth 20000 in
theorem ms_240 : qm_Tb (Cond.static (mY 240)) := ⟨qm_in4 196 rfl, rfl⟩
set_option maxRecDepth 20000 in
theorem mn_240 : qm_Tb (Cond.initialized (mY 240).cls) := ⟨qm_in1 0 rfl, rfl⟩
set_option maxRecDepth 20000 in
theorem ml_240 : qm_Tb (Cond.methodLink (qm_cls (mN 241)) 9 (mY 240)) := ⟨qm_in4 195 rfl, rfl⟩
set_option maxRecDepth 20000 in
theorem wl_1 : Cond.laysStatic "java/lang/String" "COMPACT_STRINGS" "Z" ∈ lw_tbl := qm_in2 211 rfl
set_option maxRecDepth 20000 in
theorem wl_2 : Cond.laysStatic "jdk/internal/util/Preconditions" "SIOOBE_FORMATTER" "Ljava/util/function/BiFunction;" ∈ lw_tbl := qm_in2 227 rfl
set_option maxRecDepth 20000 in
theorem wi_1 : Cond.initialized "java/lang/String" ∈ lw_tbl := qm_in1 11 rfl
set_option maxRecDepth 20000 in
theorem wi_2 : Cond.initialized "jdk/internal/util/Preconditions" ∈ lw_tbl := qm_in1 13 rfl
set_option maxRecDepth 20000 in
theorem wo_t : Cond.arrayOver (.object "WoodStack$Text") ∈ lw_tbl := qm_in1 25 rfl
set_option maxRecDepth 20000 in
theorem wo_p : Cond.arrayOver (.object "WoodStack$Pile") ∈ lw_tbl := qm_in2 38 rfl
set_option maxRecDepth 20000 in
theorem ws_t : Cond.stringRef RX5 49 qm_strT ∈ lw_tbl := qm_in2 201 rfl
set_option maxRecDepth 20000 in
theorem wn_0 : Cond.methodLinkNest "WoodStack" 15 yX4_init "WoodStack" ∈ lw_tbl := qm_in1 27 rfl
set_option maxRecDepth 20000 in
theorem wn_1 : Cond.methodLinkNest "WoodStack" 31 yX2_init "WoodStack" ∈ lw_tbl := qm_in1 80 rfl
set_option maxRecDepth 20000 in
theorem wn_2 : Cond.methodLinkNest "WoodStack$Reader" 11 yX5_init "WoodStack" ∈ lw_tbl := qm_in1 86 rfl
set_option maxRecDepth 20000 in
theorem wq_0 : Cond.methodLinkNest "WoodStack" 292 yX3_tryFrom "WoodStack" ∈ lw_tbl := qm_in4 77 rfl
set_option maxRecDepth 20000 in
theorem wq_1 : Cond.methodLinkNest "WoodStack$Laws" 39 yX7_placeOf "WoodStack" ∈ lw_tbl := qm_in3 163 rfl
set_option maxRecDepth 20000 in
theorem wq_2 : Cond.methodLinkNest "WoodStack$Laws" 116 yX7_within "WoodStack" ∈ lw_tbl := qm_in3 186 rfl
set_option maxRecDepth 20000 in
theorem wq_3 : Cond.methodLinkNest "WoodStack$Pile" 58 yX7_within "WoodStack" ∈ lw_tbl := qm_in2 126 rfl
set_option maxRecDepth 20000 in
theorem wq_4 : Cond.methodLinkNest "WoodStack$Pile" 62 yX7_placeOf "WoodStack" ∈ lw_tbl := qm_in2 127 rfl
set_option maxRecDepth 20000 in
theorem wq_5 : Cond.methodLinkNest "WoodStack$Pile" 74 yX7_isDry "WoodStack" ∈ lw_tbl := qm_in4 1 rfl
set_option maxRecDepth 20000 in
theorem wq_6 : Cond.methodLinkNest "WoodStack$Reader" 72 yX7_within "WoodStack" ∈ lw_tbl := qm_in3 41 rfl
set_option maxRecDepth 20000 in
theorem wq_7 : Cond.methodLinkNest "WoodStack$Text" 38 yX7_within "WoodStack" ∈ lw_tbl := qm_in3 53 rfl
set_option maxRecDepth 20000 in
theorem wq_8 : Cond.methodLinkNest "WoodStack$Tokens" 71 yX7_within "WoodStack" ∈ lw_tbl := qm_in2 193 rfl
theorem qq_nest_in : ∀ w ∈ qm_nest, w ∈ lw_tbl := by
  unfold qm_nest
  exact List.forall_mem_cons.mpr ⟨wq_0, List.forall_mem_cons.mpr ⟨wq_1, List.forall_mem_cons.mpr ⟨wq_2, List.forall_mem_cons.mpr ⟨wq_3, List.forall_mem_cons.mpr ⟨wq_4, List.forall_mem_cons.mpr ⟨wq_5, List.forall_mem_cons.mpr ⟨wq_6, List.forall_mem_cons.mpr ⟨wq_7, List.forall_mem_cons.mpr ⟨wq_8, fun _ h => absurd h List.not_mem_nil⟩⟩⟩⟩⟩⟩⟩⟩⟩
theorem qn_nest_in : ∀ w ∈ qn_nest, w ∈ lw_tbl := by
  unfold qn_nest
  exact List.forall_mem_cons.mpr ⟨wn_0, List.forall_mem_cons.mpr ⟨wn_1, List.forall_mem_cons.mpr ⟨wn_2, fun _ h => absurd h List.not_mem_nil⟩⟩⟩
section QNR
variable {p : Program} {l : Launch} {e : Env} {R : Room} {s : State} {m : MethodId} {args : Array Value} {below : List Frame} {meth : Method} {c : Code} {cells slots : Nat} {Q : State → Prop} {H : Heap} {locs : List Loc}
variable {B0 sb sa sv L mi N : Nat} {xs : Nat → Int32} {dC : Nat → ClassId} {dI : Nat → Nat → Nat} {cs : Nat × Nat × Nat × Nat × Nat} {pc : Nat} {als : Array Slot} {h h' : qm_Hp} {rest : List Value} {g : JFrame}
theorem ad_of {k i : Nat} (hN : N < 155) (hd : qm_desc.getD N (0, 0) = (k, i)) : qm_ad k i = N := by
  have := (qm_ad_desc N hN).1
  rw [hd] at this
  exact this
theorem n_new2 (X : qn_X p s m args c mi B0 sb sa sv L xs dC dI cs) (hw : qn_W s B0 dC dI cs N h H locs) (hcn : s.heap.size + cells = B0 + N) {k i idx nf : Nat} (hnf : qm_nf k = nf) (hN : N < 155) (hd : qm_desc.getD N (0, 0) = (k, i)) (h19 : 1 ≤ k ∧ k ≤ 9) (hcl : qm_Tb (Cond.classLink (qm_cls (mN mi)) idx (qm_R k))) (hin : qm_Tb (Cond.instantiable (qm_R k) (qm_nf k))) (hit : qm_Tb (Cond.initialized (qm_R k))) (hR : cells + 1 ≤ R.cells ∧ slots + nf ≤ R.slots) (hdg : decode (mC mi) pc = .ok (.new idx, 3))
    (kk : ∀ H1, qn_W s B0 dC dI cs (N + 1) h H1 locs → W p l e R s m args below meth c H1 locs (cells + 1) (slots + nf) Q (F0 m (pc + 3) als (.ref (B0 + qm_ad k i) :: rest))) : W p l e R s m args below meth c H locs cells slots Q (F0 m pc als rest) := by
  have e1 := ad_of hN hd
  exact n_new X hw hcn hnf hN hd h19 hcl hin hit hR hdg fun H1 hw1 => by
    have z := kk H1 hw1
    rw [e1] at z
    exact z
theorem n_newi2 (X : qn_X p s m args c mi B0 sb sa sv L xs dC dI cs) (hw : qn_W s B0 dC dI cs N h H locs) (hcn : s.heap.size + cells = B0 + N) {k i n : Nat} (hN : N < 155) (hd : qm_desc.getD N (0, 0) = (k, i)) (hk : qm_ilen qm_z k = n) (hn : 0 < n ∧ n ≤ 4000) {v : Int32} (hv0 : ¬ v < 0) (hvn : v.toNatClampNeg = n) (hR : cells + 1 ≤ R.cells ∧ slots + n ≤ R.slots) (hdg : decode (mC mi) pc = .ok (.newarray .int, 2))
    (kk : ∀ H1, qn_W s B0 dC dI cs (N + 1) h H1 locs → W p l e R s m args below meth c H1 locs (cells + 1) (slots + n) Q (F0 m (pc + 2) als (.ref (B0 + qm_ad k i) :: rest))) : W p l e R s m args below meth c H locs cells slots Q (F0 m pc als (.int v :: rest)) := by
  have e1 := ad_of hN hd
  exact n_newi X hw hcn hN hd hk hn hv0 hvn hR hdg fun H1 hw1 => by
    have z := kk H1 hw1
    rw [e1] at z
    exact z
theorem n_newz2 (X : qn_X p s m args c mi B0 sb sa sv L xs dC dI cs) (hw : qn_W s B0 dC dI cs N h H locs) (hcn : s.heap.size + cells = B0 + N) {k i n : Nat} (hN : N < 155) (hd : qm_desc.getD N (0, 0) = (k, i)) (hk : (k = 67 ∧ n = 330) ∨ (k = 76 ∧ n = 48)) {v : Int32} (hv0 : ¬ v < 0) (hvn : v.toNatClampNeg = n) (hR : cells + 1 ≤ R.cells ∧ slots + n ≤ R.slots) (hdg : decode (mC mi) pc = .ok (.newarray .boolean, 2))
    (kk : ∀ H1, qn_W s B0 dC dI cs (N + 1) h H1 locs → W p l e R s m args below meth c H1 locs (cells + 1) (slots + n) Q (F0 m (pc + 2) als (.ref (B0 + qm_ad k i) :: rest))) : W p l e R s m args below meth c H locs cells slots Q (F0 m pc als (.int v :: rest)) := by
  have e1 := ad_of hN hd
  exact n_newz X hw hcn hN hd hk hv0 hvn hR hdg fun H1 hw1 => by
    have z := kk H1 hw1
    rw [e1] at z
    exact z
theorem n_newl2 (X : qn_X p s m args c mi B0 sb sa sv L xs dC dI cs) (hw : qn_W s B0 dC dI cs N h H locs) (hcn : s.heap.size + cells = B0 + N) {i : Nat} (hN : N < 155) (hd : qm_desc.getD N (0, 0) = (66, i)) {v : Int32} (hv0 : ¬ v < 0) (hvn : v.toNatClampNeg = 330) (hR : cells + 1 ≤ R.cells ∧ slots + 330 ≤ R.slots) (hdg : decode (mC mi) pc = .ok (.newarray .long, 2))
    (kk : ∀ H1, qn_W s B0 dC dI cs (N + 1) h H1 locs → W p l e R s m args below meth c H1 locs (cells + 1) (slots + 330) Q (F0 m (pc + 2) als (.ref (B0 + qm_ad 66 i) :: rest))) : W p l e R s m args below meth c H locs cells slots Q (F0 m pc als (.int v :: rest)) := by
  have e1 := ad_of hN hd
  exact n_newl X hw hcn hN hd hv0 hvn hR hdg fun H1 hw1 => by
    have z := kk H1 hw1
    rw [e1] at z
    exact z
theorem n_newt2 (X : qn_X p s m args c mi B0 sb sa sv L xs dC dI cs) (hw : qn_W s B0 dC dI cs N h H locs) (hcn : s.heap.size + cells = B0 + N) {idx : Nat} (hN : N < 155) (hd : qm_desc.getD N (0, 0) = (51, 0)) (hcl : qm_Tb (Cond.classLink (qm_cls (mN mi)) idx (qm_R 4))) {v : Int32} (hv0 : ¬ v < 0) (hvn : v.toNatClampNeg = 4) (hR : cells + 1 ≤ R.cells ∧ slots + 4 ≤ R.slots) (hdg : decode (mC mi) pc = .ok (.anewarray idx, 3))
    (kk : ∀ H1, qn_W s B0 dC dI cs (N + 1) h H1 locs → W p l e R s m args below meth c H1 locs (cells + 1) (slots + 4) Q (F0 m (pc + 3) als (.ref (B0 + qm_ad 51 0) :: rest))) : W p l e R s m args below meth c H locs cells slots Q (F0 m pc als (.int v :: rest)) := by
  have e1 := ad_of hN hd
  exact n_newt X hw hcn hN hd hcl hv0 hvn hR hdg fun H1 hw1 => by
    have z := kk H1 hw1
    rw [e1] at z
    exact z
theorem n_newp2 (X : qn_X p s m args c mi B0 sb sa sv L xs dC dI cs) (hw : qn_W s B0 dC dI cs N h H locs) (hcn : s.heap.size + cells = B0 + N) {idx : Nat} (hN : N < 155) (hd : qm_desc.getD N (0, 0) = (46, 0)) (hcl : qm_Tb (Cond.classLink (qm_cls (mN mi)) idx (qm_R 3))) {v : Int32} (hv0 : ¬ v < 0) (hvn : v.toNatClampNeg = 5) (hR : cells + 1 ≤ R.cells ∧ slots + 5 ≤ R.slots) (hdg : decode (mC mi) pc = .ok (.anewarray idx, 3))
    (kk : ∀ H1, qn_W s B0 dC dI cs (N + 1) h H1 locs → W p l e R s m args below meth c H1 locs (cells + 1) (slots + 5) Q (F0 m (pc + 3) als (.ref (B0 + qm_ad 46 0) :: rest))) : W p l e R s m args below meth c H locs cells slots Q (F0 m pc als (.int v :: rest)) := by
  have e1 := ad_of hN hd
  exact n_newp X hw hcn hN hd hcl hv0 hvn hR hdg fun H1 hw1 => by
    have z := kk H1 hw1
    rw [e1] at z
    exact z
theorem n_getR (X : qn_X p s m args c mi B0 sb sa sv L xs dC dI cs) (hw : qn_W s B0 dC dI cs N h H locs) {k i f idx a : Nat} (hm : qn_FL mi idx k f) (hi : i < qm_cnt k) (hN : qm_ad k i < N) (hk : qm_fk k f = 3) (hz : zI h k i f = 1) (ha : qm_ad (qm_ft k f).1 ((qm_ft k f).2.1 * i + (qm_ft k f).2.2) = a) (hd : decode (mC mi) pc = .ok (.getfield idx, 3)) (kk : W p l e R s m args below meth c H locs cells slots Q (F0 m (pc + 3) als (.ref (B0 + a) :: rest))) : W p l e R s m args below meth c H locs cells slots Q (F0 m pc als (.ref (B0 + qm_ad k i) :: rest)) := by
  refine n_get X hw hm hi hN hd ?_
  have e1 : qm_fv B0 h k i f = .ref (B0 + a) := by
    unfold qm_fv
    rw [hk, hz, ha]
    exact if_neg (by decide)
  rw [e1]
  exact kk
end QNR
