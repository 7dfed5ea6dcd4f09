/-! printed by wip/whole/gen/ctor.py: rows for the constructors -/
set_option maxRecDepth 20000 in
theorem cw_183 : qm_CW 183 1 := ⟨⟨qm_in1 144 rfl, rfl⟩, by decide +kernel, by decide +kernel, by decide +kernel, by decide +kernel⟩
theorem dec_183_0 : decode (mC 183) 0 = .ok (.aload_n 0, 1) := by decide +kernel
theorem dec_183_1 : decode (mC 183) 1 = .ok (.invokespecial 3, 3) := by decide +kernel
set_option maxRecDepth 20000 in
theorem ol_183 : qm_Tb (Cond.methodLink (qm_cls (mN 183)) 3 Lib.objectInit) := ⟨qm_in1 145 rfl, rfl⟩
theorem dec_183_4 : decode (mC 183) 4 = .ok (.aload_n 0, 1) := by decide +kernel
theorem dec_183_5 : decode (mC 183) 5 = .ok (.bipush 48, 2) := by decide +kernel
theorem dec_183_7 : decode (mC 183) 7 = .ok (.newarray .int, 2) := by decide +kernel
theorem dec_183_9 : decode (mC 183) 9 = .ok (.putfield 9, 3) := by decide +kernel
set_option maxRecDepth 20000 in
theorem fl_183_9 : qn_FL 183 9 3 1 := ⟨⟨qm_in1 150 rfl, rfl⟩, by decide, by decide, rfl⟩
theorem dec_183_12 : decode (mC 183) 12 = .ok (.aload_n 0, 1) := by decide +kernel
theorem dec_183_13 : decode (mC 183) 13 = .ok (.bipush 48, 2) := by decide +kernel
theorem dec_183_15 : decode (mC 183) 15 = .ok (.newarray .int, 2) := by decide +kernel
theorem dec_183_17 : decode (mC 183) 17 = .ok (.putfield 15, 3) := by decide +kernel
set_option maxRecDepth 20000 in
theorem fl_183_15 : qn_FL 183 15 3 2 := ⟨⟨qm_in1 153 rfl, rfl⟩, by decide, by decide, rfl⟩
theorem dec_183_20 : decode (mC 183) 20 = .ok (.aload_n 0, 1) := by decide +kernel
theorem dec_183_21 : decode (mC 183) 21 = .ok (.bipush 48, 2) := by decide +kernel
theorem dec_183_23 : decode (mC 183) 23 = .ok (.newarray .int, 2) := by decide +kernel
theorem dec_183_25 : decode (mC 183) 25 = .ok (.putfield 18, 3) := by decide +kernel
set_option maxRecDepth 20000 in
theorem fl_183_18 : qn_FL 183 18 3 3 := ⟨⟨qm_in1 156 rfl, rfl⟩, by decide, by decide, rfl⟩
theorem dec_183_28 : decode (mC 183) 28 = .ok (.aload_n 0, 1) := by decide +kernel
theorem dec_183_29 : decode (mC 183) 29 = .ok (.bipush 48, 2) := by decide +kernel
theorem dec_183_31 : decode (mC 183) 31 = .ok (.newarray .int, 2) := by decide +kernel
theorem dec_183_33 : decode (mC 183) 33 = .ok (.putfield 21, 3) := by decide +kernel
set_option maxRecDepth 20000 in
theorem fl_183_21 : qn_FL 183 21 3 4 := ⟨⟨qm_in1 159 rfl, rfl⟩, by decide, by decide, rfl⟩
theorem dec_183_36 : decode (mC 183) 36 = .ok (.aload_n 0, 1) := by decide +kernel
theorem dec_183_37 : decode (mC 183) 37 = .ok (.bipush 48, 2) := by decide +kernel
theorem dec_183_39 : decode (mC 183) 39 = .ok (.newarray .int, 2) := by decide +kernel
theorem dec_183_41 : decode (mC 183) 41 = .ok (.putfield 24, 3) := by decide +kernel
set_option maxRecDepth 20000 in
theorem fl_183_24 : qn_FL 183 24 3 5 := ⟨⟨qm_in1 162 rfl, rfl⟩, by decide, by decide, rfl⟩
theorem dec_183_44 : decode (mC 183) 44 = .ok (.aload_n 0, 1) := by decide +kernel
theorem dec_183_45 : decode (mC 183) 45 = .ok (.bipush 48, 2) := by decide +kernel
theorem dec_183_47 : decode (mC 183) 47 = .ok (.newarray .int, 2) := by decide +kernel
theorem dec_183_49 : decode (mC 183) 49 = .ok (.putfield 27, 3) := by decide +kernel
set_option maxRecDepth 20000 in
theorem fl_183_27 : qn_FL 183 27 3 6 := ⟨⟨qm_in1 164 rfl, rfl⟩, by decide, by decide, rfl⟩
theorem dec_183_52 : decode (mC 183) 52 = .ok (.aload_n 0, 1) := by decide +kernel
theorem dec_183_53 : decode (mC 183) 53 = .ok (.bipush 6, 2) := by decide +kernel
theorem dec_183_55 : decode (mC 183) 55 = .ok (.newarray .int, 2) := by decide +kernel
theorem dec_183_57 : decode (mC 183) 57 = .ok (.putfield 30, 3) := by decide +kernel
set_option maxRecDepth 20000 in
theorem fl_183_30 : qn_FL 183 30 3 7 := ⟨⟨qm_in1 166 rfl, rfl⟩, by decide, by decide, rfl⟩
theorem dec_183_60 : decode (mC 183) 60 = .ok (.aload_n 0, 1) := by decide +kernel
theorem dec_183_61 : decode (mC 183) 61 = .ok (.iconst 0, 1) := by decide +kernel
theorem dec_183_62 : decode (mC 183) 62 = .ok (.putfield 33, 3) := by decide +kernel
set_option maxRecDepth 20000 in
theorem fl_183_33 : qn_FL 183 33 3 8 := ⟨⟨qm_in1 170 rfl, rfl⟩, by decide, by decide, rfl⟩
theorem dec_183_65 : decode (mC 183) 65 = .ok (.aload_n 0, 1) := by decide +kernel
theorem dec_183_66 : decode (mC 183) 66 = .ok (.iconst (-1), 1) := by decide +kernel
theorem dec_183_67 : decode (mC 183) 67 = .ok (.putfield 37, 3) := by decide +kernel
set_option maxRecDepth 20000 in
theorem fl_183_37 : qn_FL 183 37 3 9 := ⟨⟨qm_in1 173 rfl, rfl⟩, by decide, by decide, rfl⟩
theorem dec_183_70 : decode (mC 183) 70 = .ok (.aload_n 0, 1) := by decide +kernel
theorem dec_183_71 : decode (mC 183) 71 = .ok (.iconst 0, 1) := by decide +kernel
theorem dec_183_72 : decode (mC 183) 72 = .ok (.putfield 40, 3) := by decide +kernel
set_option maxRecDepth 20000 in
theorem fl_183_40 : qn_FL 183 40 3 10 := ⟨⟨qm_in1 176 rfl, rfl⟩, by decide, by decide, rfl⟩
theorem dec_183_75 : decode (mC 183) 75 = .ok (.aload_n 0, 1) := by decide +kernel
theorem dec_183_76 : decode (mC 183) 76 = .ok (.iconst 0, 1) := by decide +kernel
theorem dec_183_77 : decode (mC 183) 77 = .ok (.putfield 43, 3) := by decide +kernel
set_option maxRecDepth 20000 in
theorem fl_183_43 : qn_FL 183 43 3 11 := ⟨⟨qm_in1 179 rfl, rfl⟩, by decide, by decide, rfl⟩
theorem dec_183_80 : decode (mC 183) 80 = .ok (.aload_n 0, 1) := by decide +kernel
theorem dec_183_81 : decode (mC 183) 81 = .ok (.iconst 0, 1) := by decide +kernel
theorem dec_183_82 : decode (mC 183) 82 = .ok (.putfield 46, 3) := by decide +kernel
set_option maxRecDepth 20000 in
theorem fl_183_46 : qn_FL 183 46 3 12 := ⟨⟨qm_in1 182 rfl, rfl⟩, by decide, by decide, rfl⟩
theorem dec_183_85 : decode (mC 183) 85 = .ok (.aload_n 0, 1) := by decide +kernel
theorem dec_183_86 : decode (mC 183) 86 = .ok (.iload_n 1, 1) := by decide +kernel
theorem dec_183_87 : decode (mC 183) 87 = .ok (.putfield 49, 3) := by decide +kernel
set_option maxRecDepth 20000 in
theorem fl_183_49 : qn_FL 183 49 3 0 := ⟨⟨qm_in1 146 rfl, rfl⟩, by decide, by decide, rfl⟩
theorem dec_183_90 : decode (mC 183) 90 = .ok (.return_, 1) := by decide +kernel
set_option maxRecDepth 20000 in
theorem cw_221 : qm_CW 221 0 := ⟨⟨qm_in1 29 rfl, rfl⟩, by decide +kernel, by decide +kernel, by decide +kernel, by decide +kernel⟩
theorem dec_221_0 : decode (mC 221) 0 = .ok (.aload_n 0, 1) := by decide +kernel
theorem dec_221_1 : decode (mC 221) 1 = .ok (.invokespecial 3, 3) := by decide +kernel
set_option maxRecDepth 20000 in
theorem ol_221 : qm_Tb (Cond.methodLink (qm_cls (mN 221)) 3 Lib.objectInit) := ⟨qm_in1 30 rfl, rfl⟩
theorem dec_221_4 : decode (mC 221) 4 = .ok (.aload_n 0, 1) := by decide +kernel
theorem dec_221_5 : decode (mC 221) 5 = .ok (.sipush 300, 3) := by decide +kernel
theorem dec_221_8 : decode (mC 221) 8 = .ok (.newarray .int, 2) := by decide +kernel
theorem dec_221_10 : decode (mC 221) 10 = .ok (.putfield 9, 3) := by decide +kernel
set_option maxRecDepth 20000 in
theorem fl_221_9 : qn_FL 221 9 4 0 := ⟨⟨qm_in1 31 rfl, rfl⟩, by decide, by decide, rfl⟩
theorem dec_221_13 : decode (mC 221) 13 = .ok (.aload_n 0, 1) := by decide +kernel
theorem dec_221_14 : decode (mC 221) 14 = .ok (.bipush 20, 2) := by decide +kernel
theorem dec_221_16 : decode (mC 221) 16 = .ok (.newarray .int, 2) := by decide +kernel
theorem dec_221_18 : decode (mC 221) 18 = .ok (.putfield 15, 3) := by decide +kernel
set_option maxRecDepth 20000 in
theorem fl_221_15 : qn_FL 221 15 4 1 := ⟨⟨qm_in1 33 rfl, rfl⟩, by decide, by decide, rfl⟩
theorem dec_221_21 : decode (mC 221) 21 = .ok (.aload_n 0, 1) := by decide +kernel
theorem dec_221_22 : decode (mC 221) 22 = .ok (.bipush 20, 2) := by decide +kernel
theorem dec_221_24 : decode (mC 221) 24 = .ok (.newarray .int, 2) := by decide +kernel
theorem dec_221_26 : decode (mC 221) 26 = .ok (.putfield 18, 3) := by decide +kernel
set_option maxRecDepth 20000 in
theorem fl_221_18 : qn_FL 221 18 4 2 := ⟨⟨qm_in1 36 rfl, rfl⟩, by decide, by decide, rfl⟩
theorem dec_221_29 : decode (mC 221) 29 = .ok (.aload_n 0, 1) := by decide +kernel
theorem dec_221_30 : decode (mC 221) 30 = .ok (.bipush 20, 2) := by decide +kernel
theorem dec_221_32 : decode (mC 221) 32 = .ok (.newarray .int, 2) := by decide +kernel
theorem dec_221_34 : decode (mC 221) 34 = .ok (.putfield 21, 3) := by decide +kernel
set_option maxRecDepth 20000 in
theorem fl_221_21 : qn_FL 221 21 4 3 := ⟨⟨qm_in1 38 rfl, rfl⟩, by decide, by decide, rfl⟩
theorem dec_221_37 : decode (mC 221) 37 = .ok (.aload_n 0, 1) := by decide +kernel
theorem dec_221_38 : decode (mC 221) 38 = .ok (.iconst 5, 1) := by decide +kernel
theorem dec_221_39 : decode (mC 221) 39 = .ok (.newarray .int, 2) := by decide +kernel
theorem dec_221_41 : decode (mC 221) 41 = .ok (.dup, 1) := by decide +kernel
theorem dec_221_42 : decode (mC 221) 42 = .ok (.iconst 0, 1) := by decide +kernel
theorem dec_221_43 : decode (mC 221) 43 = .ok (.iconst (-1), 1) := by decide +kernel
theorem dec_221_44 : decode (mC 221) 44 = .ok (.iastore, 1) := by decide +kernel
theorem dec_221_45 : decode (mC 221) 45 = .ok (.dup, 1) := by decide +kernel
theorem dec_221_46 : decode (mC 221) 46 = .ok (.iconst 1, 1) := by decide +kernel
theorem dec_221_47 : decode (mC 221) 47 = .ok (.iconst (-1), 1) := by decide +kernel
theorem dec_221_48 : decode (mC 221) 48 = .ok (.iastore, 1) := by decide +kernel
theorem dec_221_49 : decode (mC 221) 49 = .ok (.dup, 1) := by decide +kernel
theorem dec_221_50 : decode (mC 221) 50 = .ok (.iconst 2, 1) := by decide +kernel
theorem dec_221_51 : decode (mC 221) 51 = .ok (.iconst (-1), 1) := by decide +kernel
theorem dec_221_52 : decode (mC 221) 52 = .ok (.iastore, 1) := by decide +kernel
theorem dec_221_53 : decode (mC 221) 53 = .ok (.dup, 1) := by decide +kernel
theorem dec_221_54 : decode (mC 221) 54 = .ok (.iconst 3, 1) := by decide +kernel
theorem dec_221_55 : decode (mC 221) 55 = .ok (.iconst (-1), 1) := by decide +kernel
theorem dec_221_56 : decode (mC 221) 56 = .ok (.iastore, 1) := by decide +kernel
theorem dec_221_57 : decode (mC 221) 57 = .ok (.dup, 1) := by decide +kernel
theorem dec_221_58 : decode (mC 221) 58 = .ok (.iconst 4, 1) := by decide +kernel
theorem dec_221_59 : decode (mC 221) 59 = .ok (.iconst (-1), 1) := by decide +kernel
theorem dec_221_60 : decode (mC 221) 60 = .ok (.iastore, 1) := by decide +kernel
theorem dec_221_61 : decode (mC 221) 61 = .ok (.putfield 24, 3) := by decide +kernel
set_option maxRecDepth 20000 in
theorem fl_221_24 : qn_FL 221 24 4 4 := ⟨⟨qm_in1 40 rfl, rfl⟩, by decide, by decide, rfl⟩
theorem dec_221_64 : decode (mC 221) 64 = .ok (.aload_n 0, 1) := by decide +kernel
theorem dec_221_65 : decode (mC 221) 65 = .ok (.iconst 0, 1) := by decide +kernel
theorem dec_221_66 : decode (mC 221) 66 = .ok (.putfield 27, 3) := by decide +kernel
set_option maxRecDepth 20000 in
theorem fl_221_27 : qn_FL 221 27 4 5 := ⟨⟨qm_in1 41 rfl, rfl⟩, by decide, by decide, rfl⟩
theorem dec_221_69 : decode (mC 221) 69 = .ok (.aload_n 0, 1) := by decide +kernel
theorem dec_221_70 : decode (mC 221) 70 = .ok (.iconst 0, 1) := by decide +kernel
theorem dec_221_71 : decode (mC 221) 71 = .ok (.putfield 31, 3) := by decide +kernel
set_option maxRecDepth 20000 in
theorem fl_221_31 : qn_FL 221 31 4 6 := ⟨⟨qm_in1 42 rfl, rfl⟩, by decide, by decide, rfl⟩
theorem dec_221_74 : decode (mC 221) 74 = .ok (.return_, 1) := by decide +kernel
set_option maxRecDepth 20000 in
theorem cw_165 : qm_CW 165 1 := ⟨⟨qm_in1 65 rfl, rfl⟩, by decide +kernel, by decide +kernel, by decide +kernel, by decide +kernel⟩
theorem dec_165_0 : decode (mC 165) 0 = .ok (.aload_n 0, 1) := by decide +kernel
theorem dec_165_1 : decode (mC 165) 1 = .ok (.invokespecial 3, 3) := by decide +kernel
set_option maxRecDepth 20000 in
theorem ol_165 : qm_Tb (Cond.methodLink (qm_cls (mN 165)) 3 Lib.objectInit) := ⟨qm_in1 66 rfl, rfl⟩
theorem dec_165_4 : decode (mC 165) 4 = .ok (.aload_n 0, 1) := by decide +kernel
theorem dec_165_5 : decode (mC 165) 5 = .ok (.bipush 17, 2) := by decide +kernel
theorem dec_165_7 : decode (mC 165) 7 = .ok (.newarray .int, 2) := by decide +kernel
theorem dec_165_9 : decode (mC 165) 9 = .ok (.putfield 9, 3) := by decide +kernel
set_option maxRecDepth 20000 in
theorem fl_165_9 : qn_FL 165 9 5 1 := ⟨⟨qm_in1 69 rfl, rfl⟩, by decide, by decide, rfl⟩
theorem dec_165_12 : decode (mC 165) 12 = .ok (.aload_n 0, 1) := by decide +kernel
theorem dec_165_13 : decode (mC 165) 13 = .ok (.bipush 40, 2) := by decide +kernel
theorem dec_165_15 : decode (mC 165) 15 = .ok (.newarray .int, 2) := by decide +kernel
theorem dec_165_17 : decode (mC 165) 17 = .ok (.putfield 15, 3) := by decide +kernel
set_option maxRecDepth 20000 in
theorem fl_165_15 : qn_FL 165 15 5 2 := ⟨⟨qm_in1 70 rfl, rfl⟩, by decide, by decide, rfl⟩
theorem dec_165_20 : decode (mC 165) 20 = .ok (.aload_n 0, 1) := by decide +kernel
theorem dec_165_21 : decode (mC 165) 21 = .ok (.aload_n 1, 1) := by decide +kernel
theorem dec_165_22 : decode (mC 165) 22 = .ok (.putfield 18, 3) := by decide +kernel
set_option maxRecDepth 20000 in
theorem fl_165_18 : qn_FL 165 18 5 0 := ⟨⟨qm_in1 67 rfl, rfl⟩, by decide, by decide, rfl⟩
theorem dec_165_25 : decode (mC 165) 25 = .ok (.return_, 1) := by decide +kernel
set_option maxRecDepth 20000 in
theorem cw_228 : qm_CW 228 0 := ⟨⟨qm_in1 88 rfl, rfl⟩, by decide +kernel, by decide +kernel, by decide +kernel, by decide +kernel⟩
theorem dec_228_0 : decode (mC 228) 0 = .ok (.aload_n 0, 1) := by decide +kernel
theorem dec_228_1 : decode (mC 228) 1 = .ok (.invokespecial 3, 3) := by decide +kernel
set_option maxRecDepth 20000 in
theorem ol_228 : qm_Tb (Cond.methodLink (qm_cls (mN 228)) 3 Lib.objectInit) := ⟨qm_in1 89 rfl, rfl⟩
theorem dec_228_4 : decode (mC 228) 4 = .ok (.aload_n 0, 1) := by decide +kernel
theorem dec_228_5 : decode (mC 228) 5 = .ok (.sipush 301, 3) := by decide +kernel
theorem dec_228_8 : decode (mC 228) 8 = .ok (.newarray .int, 2) := by decide +kernel
theorem dec_228_10 : decode (mC 228) 10 = .ok (.putfield 9, 3) := by decide +kernel
set_option maxRecDepth 20000 in
theorem fl_228_9 : qn_FL 228 9 7 0 := ⟨⟨qm_in1 90 rfl, rfl⟩, by decide, by decide, rfl⟩
theorem dec_228_13 : decode (mC 228) 13 = .ok (.aload_n 0, 1) := by decide +kernel
theorem dec_228_14 : decode (mC 228) 14 = .ok (.sipush 301, 3) := by decide +kernel
theorem dec_228_17 : decode (mC 228) 17 = .ok (.newarray .int, 2) := by decide +kernel
theorem dec_228_19 : decode (mC 228) 19 = .ok (.putfield 15, 3) := by decide +kernel
set_option maxRecDepth 20000 in
theorem fl_228_15 : qn_FL 228 15 7 1 := ⟨⟨qm_in1 92 rfl, rfl⟩, by decide, by decide, rfl⟩
theorem dec_228_22 : decode (mC 228) 22 = .ok (.aload_n 0, 1) := by decide +kernel
theorem dec_228_23 : decode (mC 228) 23 = .ok (.sipush 301, 3) := by decide +kernel
theorem dec_228_26 : decode (mC 228) 26 = .ok (.newarray .int, 2) := by decide +kernel
theorem dec_228_28 : decode (mC 228) 28 = .ok (.putfield 18, 3) := by decide +kernel
set_option maxRecDepth 20000 in
theorem fl_228_18 : qn_FL 228 18 7 2 := ⟨⟨qm_in1 94 rfl, rfl⟩, by decide, by decide, rfl⟩
theorem dec_228_31 : decode (mC 228) 31 = .ok (.aload_n 0, 1) := by decide +kernel
theorem dec_228_32 : decode (mC 228) 32 = .ok (.iconst 0, 1) := by decide +kernel
theorem dec_228_33 : decode (mC 228) 33 = .ok (.putfield 21, 3) := by decide +kernel
set_option maxRecDepth 20000 in
theorem fl_228_21 : qn_FL 228 21 7 3 := ⟨⟨qm_in1 96 rfl, rfl⟩, by decide, by decide, rfl⟩
theorem dec_228_36 : decode (mC 228) 36 = .ok (.return_, 1) := by decide +kernel
set_option maxRecDepth 20000 in
theorem cw_238 : qm_CW 238 1 := ⟨⟨qm_in1 138 rfl, rfl⟩, by decide +kernel, by decide +kernel, by decide +kernel, by decide +kernel⟩
theorem dec_238_0 : decode (mC 238) 0 = .ok (.aload_n 0, 1) := by decide +kernel
theorem dec_238_1 : decode (mC 238) 1 = .ok (.invokespecial 3, 3) := by decide +kernel
set_option maxRecDepth 20000 in
theorem ol_238 : qm_Tb (Cond.methodLink (qm_cls (mN 238)) 3 Lib.objectInit) := ⟨qm_in1 139 rfl, rfl⟩
theorem dec_238_4 : decode (mC 238) 4 = .ok (.aload_n 0, 1) := by decide +kernel
theorem dec_238_5 : decode (mC 238) 5 = .ok (.bipush 12, 2) := by decide +kernel
theorem dec_238_7 : decode (mC 238) 7 = .ok (.newarray .int, 2) := by decide +kernel
theorem dec_238_9 : decode (mC 238) 9 = .ok (.putfield 9, 3) := by decide +kernel
set_option maxRecDepth 20000 in
theorem fl_238_9 : qn_FL 238 9 2 1 := ⟨⟨qm_in1 213 rfl, rfl⟩, by decide, by decide, rfl⟩
theorem dec_238_12 : decode (mC 238) 12 = .ok (.aload_n 0, 1) := by decide +kernel
theorem dec_238_13 : decode (mC 238) 13 = .ok (.bipush 12, 2) := by decide +kernel
theorem dec_238_15 : decode (mC 238) 15 = .ok (.newarray .int, 2) := by decide +kernel
theorem dec_238_17 : decode (mC 238) 17 = .ok (.putfield 15, 3) := by decide +kernel
set_option maxRecDepth 20000 in
theorem fl_238_15 : qn_FL 238 15 2 2 := ⟨⟨qm_in1 216 rfl, rfl⟩, by decide, by decide, rfl⟩
theorem dec_238_20 : decode (mC 238) 20 = .ok (.aload_n 0, 1) := by decide +kernel
theorem dec_238_21 : decode (mC 238) 21 = .ok (.bipush 12, 2) := by decide +kernel
theorem dec_238_23 : decode (mC 238) 23 = .ok (.newarray .int, 2) := by decide +kernel
theorem dec_238_25 : decode (mC 238) 25 = .ok (.putfield 18, 3) := by decide +kernel
set_option maxRecDepth 20000 in
theorem fl_238_18 : qn_FL 238 18 2 3 := ⟨⟨qm_in1 219 rfl, rfl⟩, by decide, by decide, rfl⟩
theorem dec_238_28 : decode (mC 238) 28 = .ok (.aload_n 0, 1) := by decide +kernel
theorem dec_238_29 : decode (mC 238) 29 = .ok (.bipush 12, 2) := by decide +kernel
theorem dec_238_31 : decode (mC 238) 31 = .ok (.newarray .int, 2) := by decide +kernel
theorem dec_238_33 : decode (mC 238) 33 = .ok (.putfield 21, 3) := by decide +kernel
set_option maxRecDepth 20000 in
theorem fl_238_21 : qn_FL 238 21 2 4 := ⟨⟨qm_in1 222 rfl, rfl⟩, by decide, by decide, rfl⟩
theorem dec_238_36 : decode (mC 238) 36 = .ok (.aload_n 0, 1) := by decide +kernel
theorem dec_238_37 : decode (mC 238) 37 = .ok (.iconst 0, 1) := by decide +kernel
theorem dec_238_38 : decode (mC 238) 38 = .ok (.putfield 24, 3) := by decide +kernel
set_option maxRecDepth 20000 in
theorem fl_238_24 : qn_FL 238 24 2 5 := ⟨⟨qm_in1 225 rfl, rfl⟩, by decide, by decide, rfl⟩
theorem dec_238_41 : decode (mC 238) 41 = .ok (.aload_n 0, 1) := by decide +kernel
theorem dec_238_42 : decode (mC 238) 42 = .ok (.bipush 40, 2) := by decide +kernel
theorem dec_238_44 : decode (mC 238) 44 = .ok (.newarray .int, 2) := by decide +kernel
theorem dec_238_46 : decode (mC 238) 46 = .ok (.putfield 28, 3) := by decide +kernel
set_option maxRecDepth 20000 in
theorem fl_238_28 : qn_FL 238 28 2 6 := ⟨⟨qm_in1 227 rfl, rfl⟩, by decide, by decide, rfl⟩
theorem dec_238_49 : decode (mC 238) 49 = .ok (.aload_n 0, 1) := by decide +kernel
theorem dec_238_50 : decode (mC 238) 50 = .ok (.iconst 4, 1) := by decide +kernel
theorem dec_238_51 : decode (mC 238) 51 = .ok (.newarray .int, 2) := by decide +kernel
theorem dec_238_53 : decode (mC 238) 53 = .ok (.putfield 31, 3) := by decide +kernel
set_option maxRecDepth 20000 in
theorem fl_238_31 : qn_FL 238 31 2 7 := ⟨⟨qm_in1 230 rfl, rfl⟩, by decide, by decide, rfl⟩
theorem dec_238_56 : decode (mC 238) 56 = .ok (.aload_n 0, 1) := by decide +kernel
theorem dec_238_57 : decode (mC 238) 57 = .ok (.iconst 4, 1) := by decide +kernel
theorem dec_238_58 : decode (mC 238) 58 = .ok (.newarray .int, 2) := by decide +kernel
theorem dec_238_60 : decode (mC 238) 60 = .ok (.dup, 1) := by decide +kernel
theorem dec_238_61 : decode (mC 238) 61 = .ok (.iconst 0, 1) := by decide +kernel
theorem dec_238_62 : decode (mC 238) 62 = .ok (.sipush 2000, 3) := by decide +kernel
theorem dec_238_65 : decode (mC 238) 65 = .ok (.iastore, 1) := by decide +kernel
theorem dec_238_66 : decode (mC 238) 66 = .ok (.dup, 1) := by decide +kernel
theorem dec_238_67 : decode (mC 238) 67 = .ok (.iconst 1, 1) := by decide +kernel
theorem dec_238_68 : decode (mC 238) 68 = .ok (.sipush 2000, 3) := by decide +kernel
theorem dec_238_71 : decode (mC 238) 71 = .ok (.iastore, 1) := by decide +kernel
theorem dec_238_72 : decode (mC 238) 72 = .ok (.dup, 1) := by decide +kernel
theorem dec_238_73 : decode (mC 238) 73 = .ok (.iconst 2, 1) := by decide +kernel
theorem dec_238_74 : decode (mC 238) 74 = .ok (.sipush 2000, 3) := by decide +kernel
theorem dec_238_77 : decode (mC 238) 77 = .ok (.iastore, 1) := by decide +kernel
theorem dec_238_78 : decode (mC 238) 78 = .ok (.dup, 1) := by decide +kernel
theorem dec_238_79 : decode (mC 238) 79 = .ok (.iconst 3, 1) := by decide +kernel
theorem dec_238_80 : decode (mC 238) 80 = .ok (.sipush 2000, 3) := by decide +kernel
theorem dec_238_83 : decode (mC 238) 83 = .ok (.iastore, 1) := by decide +kernel
theorem dec_238_84 : decode (mC 238) 84 = .ok (.putfield 34, 3) := by decide +kernel
set_option maxRecDepth 20000 in
theorem fl_238_34 : qn_FL 238 34 2 8 := ⟨⟨qm_in1 232 rfl, rfl⟩, by decide, by decide, rfl⟩
theorem dec_238_87 : decode (mC 238) 87 = .ok (.aload_n 0, 1) := by decide +kernel
theorem dec_238_88 : decode (mC 238) 88 = .ok (.bipush 6, 2) := by decide +kernel
theorem dec_238_90 : decode (mC 238) 90 = .ok (.newarray .int, 2) := by decide +kernel
theorem dec_238_92 : decode (mC 238) 92 = .ok (.putfield 37, 3) := by decide +kernel
set_option maxRecDepth 20000 in
theorem fl_238_37 : qn_FL 238 37 2 9 := ⟨⟨qm_in1 234 rfl, rfl⟩, by decide, by decide, rfl⟩
theorem dec_238_95 : decode (mC 238) 95 = .ok (.aload_n 0, 1) := by decide +kernel
theorem dec_238_96 : decode (mC 238) 96 = .ok (.iconst 0, 1) := by decide +kernel
theorem dec_238_97 : decode (mC 238) 97 = .ok (.putfield 40, 3) := by decide +kernel
set_option maxRecDepth 20000 in
theorem fl_238_40 : qn_FL 238 40 2 10 := ⟨⟨qm_in1 236 rfl, rfl⟩, by decide, by decide, rfl⟩
theorem dec_238_100 : decode (mC 238) 100 = .ok (.aload_n 0, 1) := by decide +kernel
theorem dec_238_101 : decode (mC 238) 101 = .ok (.iconst 0, 1) := by decide +kernel
theorem dec_238_102 : decode (mC 238) 102 = .ok (.putfield 44, 3) := by decide +kernel
set_option maxRecDepth 20000 in
theorem fl_238_44 : qn_FL 238 44 2 11 := ⟨⟨qm_in1 238 rfl, rfl⟩, by decide, by decide, rfl⟩
theorem dec_238_105 : decode (mC 238) 105 = .ok (.aload_n 0, 1) := by decide +kernel
theorem dec_238_106 : decode (mC 238) 106 = .ok (.iconst (-1), 1) := by decide +kernel
theorem dec_238_107 : decode (mC 238) 107 = .ok (.putfield 47, 3) := by decide +kernel
set_option maxRecDepth 20000 in
theorem fl_238_47 : qn_FL 238 47 2 12 := ⟨⟨qm_in2 0 rfl, rfl⟩, by decide, by decide, rfl⟩
theorem dec_238_110 : decode (mC 238) 110 = .ok (.aload_n 0, 1) := by decide +kernel
theorem dec_238_111 : decode (mC 238) 111 = .ok (.new 50, 3) := by decide +kernel
set_option maxRecDepth 20000 in
theorem cl_238_50 : qm_Tb (Cond.classLink (qm_cls (mN 238)) 50 (qm_R 3)) := ⟨qm_in1 140 rfl, rfl⟩
set_option maxRecDepth 20000 in
theorem in_3 : qm_Tb (Cond.instantiable (qm_R 3) (qm_nf 3)) := ⟨qm_in1 141 rfl, rfl⟩
set_option maxRecDepth 20000 in
theorem ini_3 : qm_Tb (Cond.initialized (qm_R 3)) := ⟨qm_in1 8 rfl, rfl⟩
theorem dec_238_114 : decode (mC 238) 114 = .ok (.dup, 1) := by decide +kernel
theorem dec_238_115 : decode (mC 238) 115 = .ok (.iload_n 1, 1) := by decide +kernel
theorem dec_238_116 : decode (mC 238) 116 = .ok (.invokespecial 52, 3) := by decide +kernel
set_option maxRecDepth 20000 in
theorem mn_183 : qm_Tb (Cond.initialized (mY 183).cls) := ⟨qm_in1 8 rfl, rfl⟩
set_option maxRecDepth 20000 in
theorem mi_183 : qm_Tb (Cond.instanceMethod (mY 183)) := ⟨qm_in1 143 rfl, rfl⟩
set_option maxRecDepth 20000 in
theorem lk_238_52 : qm_Tb (Cond.methodLink (qm_cls (mN 238)) 52 (mY 183)) ∨ Cond.methodLinkNest (qm_cls (mN 238)) 52 (mY 183) "WoodStack" ∈ qn_nest := Or.inl ⟨qm_in1 142 rfl, rfl⟩
theorem dec_238_119 : decode (mC 238) 119 = .ok (.putfield 55, 3) := by decide +kernel
set_option maxRecDepth 20000 in
theorem fl_238_55 : qn_FL 238 55 2 0 := ⟨⟨qm_in1 211 rfl, rfl⟩, by decide, by decide, rfl⟩
theorem dec_238_122 : decode (mC 238) 122 = .ok (.return_, 1) := by decide +kernel
set_option maxRecDepth 20000 in
theorem cw_198 : qm_CW 198 0 := ⟨⟨qm_in1 82 rfl, rfl⟩, by decide +kernel, by decide +kernel, by decide +kernel, by decide +kernel⟩
theorem dec_198_0 : decode (mC 198) 0 = .ok (.aload_n 0, 1) := by decide +kernel
theorem dec_198_1 : decode (mC 198) 1 = .ok (.invokespecial 3, 3) := by decide +kernel
set_option maxRecDepth 20000 in
theorem ol_198 : qm_Tb (Cond.methodLink (qm_cls (mN 198)) 3 Lib.objectInit) := ⟨qm_in1 83 rfl, rfl⟩
theorem dec_198_4 : decode (mC 198) 4 = .ok (.aload_n 0, 1) := by decide +kernel
theorem dec_198_5 : decode (mC 198) 5 = .ok (.new 9, 3) := by decide +kernel
set_option maxRecDepth 20000 in
theorem cl_198_9 : qm_Tb (Cond.classLink (qm_cls (mN 198)) 9 (qm_R 7)) := ⟨qm_in1 84 rfl, rfl⟩
set_option maxRecDepth 20000 in
theorem in_7 : qm_Tb (Cond.instantiable (qm_R 7) (qm_nf 7)) := ⟨qm_in1 85 rfl, rfl⟩
set_option maxRecDepth 20000 in
theorem ini_7 : qm_Tb (Cond.initialized (qm_R 7)) := ⟨qm_in1 5 rfl, rfl⟩
theorem dec_198_8 : decode (mC 198) 8 = .ok (.dup, 1) := by decide +kernel
theorem dec_198_9 : decode (mC 198) 9 = .ok (.invokespecial 11, 3) := by decide +kernel
set_option maxRecDepth 20000 in
theorem mn_228 : qm_Tb (Cond.initialized (mY 228).cls) := ⟨qm_in1 5 rfl, rfl⟩
set_option maxRecDepth 20000 in
theorem mi_228 : qm_Tb (Cond.instanceMethod (mY 228)) := ⟨qm_in1 87 rfl, rfl⟩
theorem lk_198_11 : qm_Tb (Cond.methodLink (qm_cls (mN 198)) 11 (mY 228)) ∨ Cond.methodLinkNest (qm_cls (mN 198)) 11 (mY 228) "WoodStack" ∈ qn_nest := Or.inr (List.mem_of_getElem? (i := 2) rfl)
theorem dec_198_12 : decode (mC 198) 12 = .ok (.putfield 12, 3) := by decide +kernel
set_option maxRecDepth 20000 in
theorem fl_198_12 : qn_FL 198 12 6 0 := ⟨⟨qm_in1 107 rfl, rfl⟩, by decide, by decide, rfl⟩
theorem dec_198_15 : decode (mC 198) 15 = .ok (.aload_n 0, 1) := by decide +kernel
theorem dec_198_16 : decode (mC 198) 16 = .ok (.aconst_null, 1) := by decide +kernel
theorem dec_198_17 : decode (mC 198) 17 = .ok (.putfield 18, 3) := by decide +kernel
set_option maxRecDepth 20000 in
theorem fl_198_18 : qn_FL 198 18 6 1 := ⟨⟨qm_in1 108 rfl, rfl⟩, by decide, by decide, rfl⟩
theorem dec_198_20 : decode (mC 198) 20 = .ok (.aload_n 0, 1) := by decide +kernel
theorem dec_198_21 : decode (mC 198) 21 = .ok (.iconst 0, 1) := by decide +kernel
theorem dec_198_22 : decode (mC 198) 22 = .ok (.putfield 22, 3) := by decide +kernel
set_option maxRecDepth 20000 in
theorem fl_198_22 : qn_FL 198 22 6 2 := ⟨⟨qm_in1 109 rfl, rfl⟩, by decide, by decide, rfl⟩
theorem dec_198_25 : decode (mC 198) 25 = .ok (.aload_n 0, 1) := by decide +kernel
theorem dec_198_26 : decode (mC 198) 26 = .ok (.iconst (-1), 1) := by decide +kernel
theorem dec_198_27 : decode (mC 198) 27 = .ok (.putfield 26, 3) := by decide +kernel
set_option maxRecDepth 20000 in
theorem fl_198_26 : qn_FL 198 26 6 3 := ⟨⟨qm_in1 110 rfl, rfl⟩, by decide, by decide, rfl⟩
theorem dec_198_30 : decode (mC 198) 30 = .ok (.aload_n 0, 1) := by decide +kernel
theorem dec_198_31 : decode (mC 198) 31 = .ok (.iconst 0, 1) := by decide +kernel
theorem dec_198_32 : decode (mC 198) 32 = .ok (.putfield 29, 3) := by decide +kernel
set_option maxRecDepth 20000 in
theorem fl_198_29 : qn_FL 198 29 6 4 := ⟨⟨qm_in1 111 rfl, rfl⟩, by decide, by decide, rfl⟩
theorem dec_198_35 : decode (mC 198) 35 = .ok (.aload_n 0, 1) := by decide +kernel
theorem dec_198_36 : decode (mC 198) 36 = .ok (.iconst (-1), 1) := by decide +kernel
theorem dec_198_37 : decode (mC 198) 37 = .ok (.putfield 32, 3) := by decide +kernel
set_option maxRecDepth 20000 in
theorem fl_198_32 : qn_FL 198 32 6 5 := ⟨⟨qm_in1 113 rfl, rfl⟩, by decide, by decide, rfl⟩
theorem dec_198_40 : decode (mC 198) 40 = .ok (.return_, 1) := by decide +kernel
set_option maxRecDepth 20000 in
theorem cw_217 : qm_CW 217 1 := ⟨⟨qm_in2 35 rfl, rfl⟩, by decide +kernel, by decide +kernel, by decide +kernel, by decide +kernel⟩
theorem dec_217_0 : decode (mC 217) 0 = .ok (.aload_n 0, 1) := by decide +kernel
theorem dec_217_1 : decode (mC 217) 1 = .ok (.invokespecial 3, 3) := by decide +kernel
set_option maxRecDepth 20000 in
theorem ol_217 : qm_Tb (Cond.methodLink (qm_cls (mN 217)) 3 Lib.objectInit) := ⟨qm_in2 36 rfl, rfl⟩
theorem dec_217_4 : decode (mC 217) 4 = .ok (.aload_n 0, 1) := by decide +kernel
theorem dec_217_5 : decode (mC 217) 5 = .ok (.iconst 5, 1) := by decide +kernel
theorem dec_217_6 : decode (mC 217) 6 = .ok (.anewarray 9, 3) := by decide +kernel
set_option maxRecDepth 20000 in
theorem cl_217_9 : qm_Tb (Cond.classLink (qm_cls (mN 217)) 9 (qm_R 3)) := ⟨qm_in2 37 rfl, rfl⟩
theorem dec_217_9 : decode (mC 217) 9 = .ok (.putfield 11, 3) := by decide +kernel
set_option maxRecDepth 20000 in
theorem fl_217_11 : qn_FL 217 11 8 0 := ⟨⟨qm_in2 40 rfl, rfl⟩, by decide, by decide, rfl⟩
theorem dec_217_12 : decode (mC 217) 12 = .ok (.aload_n 0, 1) := by decide +kernel
theorem dec_217_13 : decode (mC 217) 13 = .ok (.iconst 5, 1) := by decide +kernel
theorem dec_217_14 : decode (mC 217) 14 = .ok (.newarray .int, 2) := by decide +kernel
theorem dec_217_16 : decode (mC 217) 16 = .ok (.putfield 17, 3) := by decide +kernel
set_option maxRecDepth 20000 in
theorem fl_217_17 : qn_FL 217 17 8 1 := ⟨⟨qm_in2 41 rfl, rfl⟩, by decide, by decide, rfl⟩
theorem dec_217_19 : decode (mC 217) 19 = .ok (.aload_n 0, 1) := by decide +kernel
theorem dec_217_20 : decode (mC 217) 20 = .ok (.iconst 5, 1) := by decide +kernel
theorem dec_217_21 : decode (mC 217) 21 = .ok (.newarray .int, 2) := by decide +kernel
theorem dec_217_23 : decode (mC 217) 23 = .ok (.putfield 21, 3) := by decide +kernel
set_option maxRecDepth 20000 in
theorem fl_217_21 : qn_FL 217 21 8 2 := ⟨⟨qm_in2 42 rfl, rfl⟩, by decide, by decide, rfl⟩
theorem dec_217_26 : decode (mC 217) 26 = .ok (.aload_n 0, 1) := by decide +kernel
theorem dec_217_27 : decode (mC 217) 27 = .ok (.iconst 0, 1) := by decide +kernel
theorem dec_217_28 : decode (mC 217) 28 = .ok (.putfield 24, 3) := by decide +kernel
set_option maxRecDepth 20000 in
theorem fl_217_24 : qn_FL 217 24 8 3 := ⟨⟨qm_in2 44 rfl, rfl⟩, by decide, by decide, rfl⟩
theorem dec_217_31 : decode (mC 217) 31 = .ok (.aload_n 0, 1) := by decide +kernel
theorem dec_217_32 : decode (mC 217) 32 = .ok (.iconst 0, 1) := by decide +kernel
theorem dec_217_33 : decode (mC 217) 33 = .ok (.putfield 28, 3) := by decide +kernel
set_option maxRecDepth 20000 in
theorem fl_217_28 : qn_FL 217 28 8 4 := ⟨⟨qm_in2 46 rfl, rfl⟩, by decide, by decide, rfl⟩
theorem dec_217_36 : decode (mC 217) 36 = .ok (.iconst 0, 1) := by decide +kernel
theorem dec_217_37 : decode (mC 217) 37 = .ok (.istore_n 2, 1) := by decide +kernel
theorem dec_217_38 : decode (mC 217) 38 = .ok (.iload_n 2, 1) := by decide +kernel
theorem dec_217_39 : decode (mC 217) 39 = .ok (.iconst 5, 1) := by decide +kernel
theorem dec_217_40 : decode (mC 217) 40 = .ok (.if_icmp .ge 23, 3) := by decide +kernel
theorem dec_217_43 : decode (mC 217) 43 = .ok (.aload_n 0, 1) := by decide +kernel
theorem dec_217_44 : decode (mC 217) 44 = .ok (.getfield 11, 3) := by decide +kernel
theorem dec_217_47 : decode (mC 217) 47 = .ok (.iload_n 2, 1) := by decide +kernel
theorem dec_217_48 : decode (mC 217) 48 = .ok (.new 9, 3) := by decide +kernel
theorem dec_217_51 : decode (mC 217) 51 = .ok (.dup, 1) := by decide +kernel
theorem dec_217_52 : decode (mC 217) 52 = .ok (.iload_n 1, 1) := by decide +kernel
theorem dec_217_53 : decode (mC 217) 53 = .ok (.invokespecial 31, 3) := by decide +kernel
set_option maxRecDepth 20000 in
theorem lk_217_31 : qm_Tb (Cond.methodLink (qm_cls (mN 217)) 31 (mY 183)) ∨ Cond.methodLinkNest (qm_cls (mN 217)) 31 (mY 183) "WoodStack" ∈ qn_nest := Or.inl ⟨qm_in2 39 rfl, rfl⟩
theorem dec_217_56 : decode (mC 217) 56 = .ok (.aastore, 1) := by decide +kernel
theorem dec_217_57 : decode (mC 217) 57 = .ok (.iinc 2 1, 3) := by decide +kernel
theorem dec_217_60 : decode (mC 217) 60 = .ok (.goto (-22), 3) := by decide +kernel
theorem dec_217_63 : decode (mC 217) 63 = .ok (.return_, 1) := by decide +kernel
section QNR
variable {p : Program} {l : Launch} {e : Env} {R : Room} {s : State} {m : MethodId} {args : Array Value} {below : List Frame} {meth : Method} {c : Code} {cells slots : Nat} {Q : State → Prop} {H : Heap} {locs : List Loc}
variable {B0 sb sa sv L mi N : Nat} {xs : Nat → Int32} {dC : Nat → ClassId} {dI : Nat → Nat → Nat} {cs : Nat × Nat × Nat × Nat × Nat} {pc : Nat} {als : Array Slot} {h h' : qm_Hp} {rest : List Value} {g : JFrame}
theorem ad_of {k i : Nat} (hN : N < 155) (hd : qm_desc.getD N (0, 0) = (k, i)) : qm_ad k i = N := by
  have := (qm_ad_desc N hN).1
  rw [hd] at this
  exact this
theorem n_new2 (X : qn_X p s m args c mi B0 sb sa sv L xs dC dI cs) (hw : qn_W s B0 dC dI cs N h H locs) (hcn : s.heap.size + cells = B0 + N) {k i idx nf : Nat} (hnf : qm_nf k = nf) (hN : N < 155) (hd : qm_desc.getD N (0, 0) = (k, i)) (h19 : 1 ≤ k ∧ k ≤ 9) (hcl : qm_Tb (Cond.classLink (qm_cls (mN mi)) idx (qm_R k))) (hin : qm_Tb (Cond.instantiable (qm_R k) (qm_nf k))) (hit : qm_Tb (Cond.initialized (qm_R k))) (hR : cells + 1 ≤ R.cells ∧ slots + nf ≤ R.slots) (hdg : decode (mC mi) pc = .ok (.new idx, 3))
    (kk : ∀ H1, qn_W s B0 dC dI cs (N + 1) h H1 locs → W p l e R s m args below meth c H1 locs (cells + 1) (slots + nf) Q (F0 m (pc + 3) als (.ref (B0 + qm_ad k i) :: rest))) : W p l e R s m args below meth c H locs cells slots Q (F0 m pc als rest) := by
  have e1 := ad_of hN hd
  exact n_new X hw hcn hnf hN hd h19 hcl hin hit hR hdg fun H1 hw1 => by
    have z := kk H1 hw1
    rw [e1] at z
    exact z
theorem n_newi2 (X : qn_X p s m args c mi B0 sb sa sv L xs dC dI cs) (hw : qn_W s B0 dC dI cs N h H locs) (hcn : s.heap.size + cells = B0 + N) {k i n : Nat} (hN : N < 155) (hd : qm_desc.getD N (0, 0) = (k, i)) (hk : qm_ilen qm_z k = n) (hn : 0 < n ∧ n ≤ 4000) {v : Int32} (hv0 : ¬ v < 0) (hvn : v.toNatClampNeg = n) (hR : cells + 1 ≤ R.cells ∧ slots + n ≤ R.slots) (hdg : decode (mC mi) pc = .ok (.newarray .int, 2))
    (kk : ∀ H1, qn_W s B0 dC dI cs (N + 1) h H1 locs → W p l e R s m args below meth c H1 locs (cells + 1) (slots + n) Q (F0 m (pc + 2) als (.ref (B0 + qm_ad k i) :: rest))) : W p l e R s m args below meth c H locs cells slots Q (F0 m pc als (.int v :: rest)) := by
  have e1 := ad_of hN hd
  exact n_newi X hw hcn hN hd hk hn hv0 hvn hR hdg fun H1 hw1 => by
    have z := kk H1 hw1
    rw [e1] at z
    exact z
theorem n_newz2 (X : qn_X p s m args c mi B0 sb sa sv L xs dC dI cs) (hw : qn_W s B0 dC dI cs N h H locs) (hcn : s.heap.size + cells = B0 + N) {k i n : Nat} (hN : N < 155) (hd : qm_desc.getD N (0, 0) = (k, i)) (hk : (k = 67 ∧ n = 330) ∨ (k = 76 ∧ n = 48)) {v : Int32} (hv0 : ¬ v < 0) (hvn : v.toNatClampNeg = n) (hR : cells + 1 ≤ R.cells ∧ slots + n ≤ R.slots) (hdg : decode (mC mi) pc = .ok (.newarray .boolean, 2))
    (kk : ∀ H1, qn_W s B0 dC dI cs (N + 1) h H1 locs → W p l e R s m args below meth c H1 locs (cells + 1) (slots + n) Q (F0 m (pc + 2) als (.ref (B0 + qm_ad k i) :: rest))) : W p l e R s m args below meth c H locs cells slots Q (F0 m pc als (.int v :: rest)) := by
  have e1 := ad_of hN hd
  exact n_newz X hw hcn hN hd hk hv0 hvn hR hdg fun H1 hw1 => by
    have z := kk H1 hw1
    rw [e1] at z
    exact z
theorem n_newl2 (X : qn_X p s m args c mi B0 sb sa sv L xs dC dI cs) (hw : qn_W s B0 dC dI cs N h H locs) (hcn : s.heap.size + cells = B0 + N) {i : Nat} (hN : N < 155) (hd : qm_desc.getD N (0, 0) = (66, i)) {v : Int32} (hv0 : ¬ v < 0) (hvn : v.toNatClampNeg = 330) (hR : cells + 1 ≤ R.cells ∧ slots + 330 ≤ R.slots) (hdg : decode (mC mi) pc = .ok (.newarray .long, 2))
    (kk : ∀ H1, qn_W s B0 dC dI cs (N + 1) h H1 locs → W p l e R s m args below meth c H1 locs (cells + 1) (slots + 330) Q (F0 m (pc + 2) als (.ref (B0 + qm_ad 66 i) :: rest))) : W p l e R s m args below meth c H locs cells slots Q (F0 m pc als (.int v :: rest)) := by
  have e1 := ad_of hN hd
  exact n_newl X hw hcn hN hd hv0 hvn hR hdg fun H1 hw1 => by
    have z := kk H1 hw1
    rw [e1] at z
    exact z
theorem n_newt2 (X : qn_X p s m args c mi B0 sb sa sv L xs dC dI cs) (hw : qn_W s B0 dC dI cs N h H locs) (hcn : s.heap.size + cells = B0 + N) {idx : Nat} (hN : N < 155) (hd : qm_desc.getD N (0, 0) = (51, 0)) (hcl : qm_Tb (Cond.classLink (qm_cls (mN mi)) idx (qm_R 4))) {v : Int32} (hv0 : ¬ v < 0) (hvn : v.toNatClampNeg = 4) (hR : cells + 1 ≤ R.cells ∧ slots + 4 ≤ R.slots) (hdg : decode (mC mi) pc = .ok (.anewarray idx, 3))
    (kk : ∀ H1, qn_W s B0 dC dI cs (N + 1) h H1 locs → W p l e R s m args below meth c H1 locs (cells + 1) (slots + 4) Q (F0 m (pc + 3) als (.ref (B0 + qm_ad 51 0) :: rest))) : W p l e R s m args below meth c H locs cells slots Q (F0 m pc als (.int v :: rest)) := by
  have e1 := ad_of hN hd
  exact n_newt X hw hcn hN hd hcl hv0 hvn hR hdg fun H1 hw1 => by
    have z := kk H1 hw1
    rw [e1] at z
    exact z
theorem n_newp2 (X : qn_X p s m args c mi B0 sb sa sv L xs dC dI cs) (hw : qn_W s B0 dC dI cs N h H locs) (hcn : s.heap.size + cells = B0 + N) {idx : Nat} (hN : N < 155) (hd : qm_desc.getD N (0, 0) = (46, 0)) (hcl : qm_Tb (Cond.classLink (qm_cls (mN mi)) idx (qm_R 3))) {v : Int32} (hv0 : ¬ v < 0) (hvn : v.toNatClampNeg = 5) (hR : cells + 1 ≤ R.cells ∧ slots + 5 ≤ R.slots) (hdg : decode (mC mi) pc = .ok (.anewarray idx, 3))
    (kk : ∀ H1, qn_W s B0 dC dI cs (N + 1) h H1 locs → W p l e R s m args below meth c H1 locs (cells + 1) (slots + 5) Q (F0 m (pc + 3) als (.ref (B0 + qm_ad 46 0) :: rest))) : W p l e R s m args below meth c H locs cells slots Q (F0 m pc als (.int v :: rest)) := by
  have e1 := ad_of hN hd
  exact n_newp X hw hcn hN hd hcl hv0 hvn hR hdg fun H1 hw1 => by
    have z := kk H1 hw1
    rw [e1] at z
    exact z
theorem n_getR (X : qn_X p s m args c mi B0 sb sa sv L xs dC dI cs) (hw : qn_W s B0 dC dI cs N h H locs) {k i f idx a : Nat} (hm : qn_FL mi idx k f) (hi : i < qm_cnt k) (hN : qm_ad k i < N) (hk : qm_fk k f = 3) (hz : zI h k i f = 1) (ha : qm_ad (qm_ft k f).1 ((qm_ft k f).2.1 * i + (qm_ft k f).2.2) = a) (hd : decode (mC mi) pc = .ok (.getfield idx, 3)) (kk : W p l e R s m args below meth c H locs cells slots Q (F0 m (pc + 3) als (.ref (B0 + a) :: rest))) : W p l e R s m args below meth c H locs cells slots Q (F0 m pc als (.ref (B0 + qm_ad k i) :: rest)) := by
  refine n_get X hw hm hi hN hd ?_
  have e1 : qm_fv B0 h k i f = .ref (B0 + a) := by
    unfold qm_fv
    rw [hk, hz, ha]
    exact if_neg (by decide)
  rw [e1]
  exact kk
end QNR
