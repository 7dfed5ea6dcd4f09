/-! the words of the links stand in lw_tbl -/
def qm_R (k : Nat) : String := match k with
  | 1 => RX7 | 2 => RX6 | 3 => RX1 | 4 => RX4 | 5 => RX0 | 6 => RX2 | 7 => RX5 | 8 => RX3 | _ => RX8
def qm_T (k : Nat) : u_T := match k with
  | 1 => TX7 | 2 => TX6 | 3 => TX1 | 4 => TX4 | 5 => TX0 | 6 => TX2 | 7 => TX5 | 8 => TX3 | _ => TX8
def qm_nf (k : Nat) : Nat := match k with
  | 1 => 15 | 2 => 13 | 3 => 13 | 4 => 7 | 5 => 3 | 6 => 6 | 7 => 4 | 8 => 5 | _ => 37
def qm_ci (k : Nat) : Nat := match k with
  | 1 => 7 | 2 => 6 | 3 => 1 | 4 => 4 | 5 => 0 | 6 => 2 | 7 => 5 | 8 => 3 | _ => 8
def qm_tb : List Cond := lw_tbl.filter goodWord
def qm_Tb (w : Cond) : Prop := w ∈ lw_tbl ∧ goodWord w = true
theorem qm_Tb.tb {w : Cond} (h : qm_Tb w) : w ∈ qm_tb := List.mem_filter.mpr h
theorem qm_in0 {w : Cond} (i : Nat) (h : lw_privs[i]?.map (fun q => Cond.selects q.1.cls q.1 q.1) = some w) : w ∈ lw_tbl := by
  refine List.mem_append_left _ ?_
  cases e : lw_privs[i]? with
  | none => rw [e] at h; cases h
  | some q => rw [e] at h; exact List.mem_map.mpr ⟨q, List.mem_of_getElem? e, Option.some.inj h⟩
theorem qm_in1 {w : Cond} (i : Nat) (h : tables_1_1[i]? = some w) : w ∈ lw_tbl := List.mem_append_right _ (List.mem_append_left _ (List.mem_of_getElem? h))
theorem qm_in2 {w : Cond} (i : Nat) (h : tables_1_2[i]? = some w) : w ∈ lw_tbl := List.mem_append_right _ (List.mem_append_right _ (List.mem_append_left _ (List.mem_of_getElem? h)))
theorem qm_in3 {w : Cond} (i : Nat) (h : tables_1_3[i]? = some w) : w ∈ lw_tbl := List.mem_append_right _ (List.mem_append_right _ (List.mem_append_right _ (List.mem_append_left _ (List.mem_of_getElem? h))))
theorem qm_in4 {w : Cond} (i : Nat) (h : tables_1_4[i]? = some w) : w ∈ lw_tbl := List.mem_append_right _ (List.mem_append_right _ (List.mem_append_right _ (List.mem_append_right _ (List.mem_append_left _ (List.mem_of_getElem? h)))))
theorem qm_in5 {w : Cond} (i : Nat) (h : tables_1_5[i]? = some w) : w ∈ lw_tbl := List.mem_append_right _ (List.mem_append_right _ (List.mem_append_right _ (List.mem_append_right _ (List.mem_append_right _ (List.mem_append_left _ (List.mem_of_getElem? h))))))
theorem qm_in6 {w : Cond} (i : Nat) (h : tables_1_6[i]? = some w) : w ∈ lw_tbl := List.mem_append_right _ (List.mem_append_right _ (List.mem_append_right _ (List.mem_append_right _ (List.mem_append_right _ (List.mem_append_right _ (List.mem_append_left _ (List.mem_of_getElem? h)))))))
theorem qm_in7 {w : Cond} (i : Nat) (h : tables_1_7[i]? = some w) : w ∈ lw_tbl := List.mem_append_right _ (List.mem_append_right _ (List.mem_append_right _ (List.mem_append_right _ (List.mem_append_right _ (List.mem_append_right _ (List.mem_append_right _ (List.mem_of_getElem? h)))))))
def qm_fw (e : Nat × Nat × Nat × Nat) : Cond := Cond.fieldLink (qm_cls e.1) e.2.1 (qm_R e.2.2.1) (qm_T e.2.2.1 e.2.2.2).2.1 (qm_T e.2.2.1 e.2.2.2).2.2.1
/-- what a call's link says -/
def qm_ML (e : Nat × Nat × Nat × Nat × Nat) : Prop :=
  (match e.2.2.2.1 with
    | 0 => qm_Tb (Cond.methodLink (qm_cls e.1) e.2.1 (mY e.2.2.1)) ∧ qm_Tb (Cond.instanceMethod (mY e.2.2.1)) ∧ qm_Tb (Cond.selects (mY e.2.2.1).cls (mY e.2.2.1) (mY e.2.2.1))
    | 1 => qm_Tb (Cond.methodLink (qm_cls e.1) e.2.1 (mY e.2.2.1)) ∧ qm_Tb (Cond.static (mY e.2.2.1))
    | 2 => Cond.methodLinkNest (qm_cls e.1) e.2.1 (mY e.2.2.1) "WoodStack" ∈ qm_nest ∧ qm_Tb (Cond.instanceMethod (mY e.2.2.1)) ∧ qm_Tb (Cond.selects (mY e.2.2.1).cls (mY e.2.2.1) (mY e.2.2.1))
    | _ => Cond.methodLinkNest (qm_cls e.1) e.2.1 (mY e.2.2.1) "WoodStack" ∈ qm_nest ∧ qm_Tb (Cond.static (mY e.2.2.1)))
  ∧ qm_Tb (Cond.initialized (mY e.2.2.1).cls)
theorem qm_nest_in : ∀ w ∈ qm_nest, w ∈ lw_tbl := by
  unfold qm_nest
  refine List.forall_mem_cons.mpr ⟨qm_in4 77 rfl, ?_⟩
  refine List.forall_mem_cons.mpr ⟨qm_in3 163 rfl, ?_⟩
  refine List.forall_mem_cons.mpr ⟨qm_in3 186 rfl, ?_⟩
  refine List.forall_mem_cons.mpr ⟨qm_in2 126 rfl, ?_⟩
  refine List.forall_mem_cons.mpr ⟨qm_in2 127 rfl, ?_⟩
  refine List.forall_mem_cons.mpr ⟨qm_in4 1 rfl, ?_⟩
  refine List.forall_mem_cons.mpr ⟨qm_in3 41 rfl, ?_⟩
  refine List.forall_mem_cons.mpr ⟨qm_in3 53 rfl, ?_⟩
  refine List.forall_mem_cons.mpr ⟨qm_in2 193 rfl, ?_⟩
  exact fun _ h => absurd h List.not_mem_nil
theorem fk_0 : qm_Tb (qm_fw (7, 71, 1, 0)) := ⟨qm_in2 59 rfl, rfl⟩
theorem fk_1 : qm_Tb (qm_fw (7, 106, 2, 0)) := ⟨qm_in1 212 rfl, rfl⟩
theorem fk_2 : qm_Tb (qm_fw (7, 121, 3, 4)) := ⟨qm_in1 160 rfl, rfl⟩
theorem fk_3 : qm_Tb (qm_fw (7, 130, 3, 5)) := ⟨qm_in1 163 rfl, rfl⟩
theorem fk_4 : qm_Tb (qm_fw (7, 133, 3, 6)) := ⟨qm_in1 165 rfl, rfl⟩
theorem fk_5 : qm_Tb (qm_fw (7, 136, 2, 7)) := ⟨qm_in1 231 rfl, rfl⟩
theorem fk_6 : qm_Tb (qm_fw (7, 139, 2, 8)) := ⟨qm_in1 233 rfl, rfl⟩
theorem fk_7 : qm_Tb (qm_fw (7, 142, 2, 5)) := ⟨qm_in1 226 rfl, rfl⟩
theorem fk_8 : qm_Tb (qm_fw (7, 145, 2, 1)) := ⟨qm_in1 214 rfl, rfl⟩
theorem fk_9 : qm_Tb (qm_fw (7, 148, 2, 2)) := ⟨qm_in1 217 rfl, rfl⟩
theorem fk_10 : qm_Tb (qm_fw (7, 151, 2, 3)) := ⟨qm_in1 220 rfl, rfl⟩
theorem fk_11 : qm_Tb (qm_fw (7, 154, 2, 4)) := ⟨qm_in1 223 rfl, rfl⟩
theorem fk_12 : qm_Tb (qm_fw (7, 160, 2, 6)) := ⟨qm_in1 229 rfl, rfl⟩
theorem fk_13 : qm_Tb (qm_fw (7, 163, 3, 10)) := ⟨qm_in1 178 rfl, rfl⟩
theorem fk_14 : qm_Tb (qm_fw (7, 166, 3, 11)) := ⟨qm_in1 181 rfl, rfl⟩
theorem fk_15 : qm_Tb (qm_fw (7, 169, 3, 12)) := ⟨qm_in1 183 rfl, rfl⟩
theorem fk_16 : qm_Tb (qm_fw (7, 40, 1, 7)) := ⟨qm_in2 66 rfl, rfl⟩
theorem fk_17 : qm_Tb (qm_fw (7, 36, 1, 6)) := ⟨qm_in2 65 rfl, rfl⟩
theorem fk_18 : qm_Tb (qm_fw (7, 175, 2, 11)) := ⟨qm_in1 239 rfl, rfl⟩
theorem fk_19 : qm_Tb (qm_fw (7, 32, 1, 5)) := ⟨qm_in2 64 rfl, rfl⟩
theorem fk_20 : qm_Tb (qm_fw (7, 11, 1, 2)) := ⟨qm_in2 61 rfl, rfl⟩
theorem fk_21 : qm_Tb (qm_fw (7, 44, 1, 8)) := ⟨qm_in2 67 rfl, rfl⟩
theorem fk_22 : qm_Tb (qm_fw (7, 181, 6, 4)) := ⟨qm_in1 112 rfl, rfl⟩
theorem fk_23 : qm_Tb (qm_fw (7, 184, 6, 5)) := ⟨qm_in1 114 rfl, rfl⟩
theorem fk_24 : qm_Tb (qm_fw (7, 190, 2, 12)) := ⟨qm_in2 1 rfl, rfl⟩
theorem fk_25 : qm_Tb (qm_fw (7, 25, 1, 4)) := ⟨qm_in2 63 rfl, rfl⟩
theorem fk_26 : qm_Tb (qm_fw (7, 16, 1, 3)) := ⟨qm_in2 62 rfl, rfl⟩
theorem fk_27 : qm_Tb (qm_fw (7, 196, 5, 0)) := ⟨qm_in1 68 rfl, rfl⟩
theorem fk_28 : qm_Tb (qm_fw (7, 202, 4, 6)) := ⟨qm_in1 44 rfl, rfl⟩
theorem fk_29 : qm_Tb (qm_fw (7, 205, 4, 1)) := ⟨qm_in1 35 rfl, rfl⟩
theorem fk_30 : qm_Tb (qm_fw (7, 215, 3, 1)) := ⟨qm_in1 152 rfl, rfl⟩
theorem fk_31 : qm_Tb (qm_fw (7, 218, 3, 2)) := ⟨qm_in1 155 rfl, rfl⟩
theorem fk_32 : qm_Tb (qm_fw (7, 221, 3, 3)) := ⟨qm_in1 158 rfl, rfl⟩
theorem fk_33 : qm_Tb (qm_fw (7, 234, 3, 0)) := ⟨qm_in1 149 rfl, rfl⟩
theorem fk_34 : qm_Tb (qm_fw (7, 241, 3, 7)) := ⟨qm_in1 169 rfl, rfl⟩
theorem fk_35 : qm_Tb (qm_fw (7, 251, 3, 9)) := ⟨qm_in1 175 rfl, rfl⟩
theorem fk_36 : qm_Tb (qm_fw (7, 268, 3, 8)) := ⟨qm_in1 172 rfl, rfl⟩
theorem fk_37 : qm_Tb (qm_fw (7, 91, 1, 11)) := ⟨qm_in2 70 rfl, rfl⟩
theorem fk_38 : qm_Tb (qm_fw (7, 296, 8, 3)) := ⟨qm_in2 45 rfl, rfl⟩
theorem fk_39 : qm_Tb (qm_fw (7, 299, 8, 4)) := ⟨qm_in2 47 rfl, rfl⟩
theorem fk_40 : qm_Tb (qm_fw (7, 302, 8, 2)) := ⟨qm_in2 43 rfl, rfl⟩
theorem fk_41 : qm_Tb (qm_fw (7, 51, 1, 13)) := ⟨qm_in2 72 rfl, rfl⟩
theorem fk_42 : qm_Tb (qm_fw (7, 54, 1, 14)) := ⟨qm_in2 73 rfl, rfl⟩
theorem fk_43 : qm_Tb (qm_fw (7, 81, 1, 9)) := ⟨qm_in2 68 rfl, rfl⟩
theorem fk_44 : qm_Tb (qm_fw (7, 85, 1, 10)) := ⟨qm_in2 69 rfl, rfl⟩
theorem fk_45 : qm_Tb (qm_fw (7, 48, 1, 12)) := ⟨qm_in2 71 rfl, rfl⟩
theorem fk_46 : qm_Tb (qm_fw (7, 347, 2, 9)) := ⟨qm_in1 235 rfl, rfl⟩
theorem fk_47 : qm_Tb (qm_fw (7, 356, 2, 10)) := ⟨qm_in1 237 rfl, rfl⟩
theorem fk_48 : qm_Tb (qm_fw (7, 75, 1, 1)) := ⟨qm_in2 60 rfl, rfl⟩
theorem fk_49 : qm_Tb (qm_fw (8, 7, 9, 0)) := ⟨qm_in4 208 rfl, rfl⟩
theorem fk_50 : qm_Tb (qm_fw (8, 74, 9, 2)) := ⟨qm_in4 210 rfl, rfl⟩
theorem fk_51 : qm_Tb (qm_fw (8, 67, 9, 1)) := ⟨qm_in4 209 rfl, rfl⟩
theorem fk_52 : qm_Tb (qm_fw (8, 16, 9, 4)) := ⟨qm_in4 212 rfl, rfl⟩
theorem fk_53 : qm_Tb (qm_fw (8, 107, 9, 5)) := ⟨qm_in4 213 rfl, rfl⟩
theorem fk_54 : qm_Tb (qm_fw (8, 114, 9, 8)) := ⟨qm_in4 216 rfl, rfl⟩
theorem fk_55 : qm_Tb (qm_fw (8, 120, 9, 9)) := ⟨qm_in4 217 rfl, rfl⟩
theorem fk_56 : qm_Tb (qm_fw (8, 123, 9, 10)) := ⟨qm_in4 218 rfl, rfl⟩
theorem fk_57 : qm_Tb (qm_fw (8, 129, 9, 11)) := ⟨qm_in4 219 rfl, rfl⟩
theorem fk_58 : qm_Tb (qm_fw (8, 136, 9, 12)) := ⟨qm_in4 220 rfl, rfl⟩
theorem fk_59 : qm_Tb (qm_fw (8, 13, 9, 3)) := ⟨qm_in4 211 rfl, rfl⟩
theorem fk_60 : qm_Tb (qm_fw (8, 148, 9, 13)) := ⟨qm_in4 221 rfl, rfl⟩
theorem fk_61 : qm_Tb (qm_fw (8, 151, 9, 15)) := ⟨qm_in4 222 rfl, rfl⟩
theorem fk_62 : qm_Tb (qm_fw (8, 26, 9, 17)) := ⟨qm_in4 223 rfl, rfl⟩
theorem fk_63 : qm_Tb (qm_fw (8, 154, 9, 18)) := ⟨qm_in4 224 rfl, rfl⟩
theorem fk_64 : qm_Tb (qm_fw (8, 163, 9, 19)) := ⟨qm_in4 225 rfl, rfl⟩
theorem fk_65 : qm_Tb (qm_fw (8, 166, 9, 20)) := ⟨qm_in4 226 rfl, rfl⟩
theorem fk_66 : qm_Tb (qm_fw (8, 237, 9, 21)) := ⟨qm_in4 227 rfl, rfl⟩
theorem fk_67 : qm_Tb (qm_fw (8, 252, 9, 22)) := ⟨qm_in4 228 rfl, rfl⟩
theorem fk_68 : qm_Tb (qm_fw (8, 19, 9, 6)) := ⟨qm_in4 214 rfl, rfl⟩
theorem fk_69 : qm_Tb (qm_fw (8, 23, 9, 7)) := ⟨qm_in4 215 rfl, rfl⟩
theorem fk_70 : qm_Tb (qm_fw (8, 32, 9, 24)) := ⟨qm_in4 230 rfl, rfl⟩
theorem fk_71 : qm_Tb (qm_fw (8, 29, 9, 23)) := ⟨qm_in4 229 rfl, rfl⟩
theorem fk_72 : qm_Tb (qm_fw (8, 36, 9, 25)) := ⟨qm_in4 231 rfl, rfl⟩
theorem fk_73 : qm_Tb (qm_fw (8, 40, 9, 26)) := ⟨qm_in4 232 rfl, rfl⟩
theorem fk_74 : qm_Tb (qm_fw (8, 350, 9, 27)) := ⟨qm_in4 233 rfl, rfl⟩
theorem fk_75 : qm_Tb (qm_fw (8, 362, 9, 31)) := ⟨qm_in4 237 rfl, rfl⟩
theorem fk_76 : qm_Tb (qm_fw (8, 49, 9, 30)) := ⟨qm_in4 236 rfl, rfl⟩
theorem fk_77 : qm_Tb (qm_fw (8, 43, 9, 28)) := ⟨qm_in4 234 rfl, rfl⟩
theorem fk_78 : qm_Tb (qm_fw (8, 46, 9, 29)) := ⟨qm_in4 235 rfl, rfl⟩
theorem fk_79 : qm_Tb (qm_fw (8, 55, 9, 33)) := ⟨qm_in4 239 rfl, rfl⟩
theorem fk_80 : qm_Tb (qm_fw (8, 52, 9, 32)) := ⟨qm_in4 238 rfl, rfl⟩
theorem fk_81 : qm_Tb (qm_fw (8, 58, 9, 34)) := ⟨qm_in5 0 rfl, rfl⟩
theorem fk_82 : qm_Tb (qm_fw (8, 61, 9, 35)) := ⟨qm_in5 1 rfl, rfl⟩
theorem fk_83 : qm_Tb (qm_fw (8, 64, 9, 36)) := ⟨qm_in5 2 rfl, rfl⟩
theorem fk_84 : qm_Tb (qm_fw (0, 18, 5, 0)) := ⟨qm_in1 67 rfl, rfl⟩
theorem fk_85 : qm_Tb (qm_fw (0, 43, 3, 2)) := ⟨qm_in1 154 rfl, rfl⟩
theorem fk_86 : qm_Tb (qm_fw (0, 48, 3, 3)) := ⟨qm_in1 157 rfl, rfl⟩
theorem fk_87 : qm_Tb (qm_fw (0, 51, 3, 0)) := ⟨qm_in1 148 rfl, rfl⟩
theorem fk_88 : qm_Tb (qm_fw (0, 55, 3, 10)) := ⟨qm_in1 177 rfl, rfl⟩
theorem fk_89 : qm_Tb (qm_fw (0, 58, 3, 11)) := ⟨qm_in1 180 rfl, rfl⟩
theorem fk_90 : qm_Tb (qm_fw (0, 9, 5, 1)) := ⟨qm_in1 69 rfl, rfl⟩
theorem fk_91 : qm_Tb (qm_fw (0, 65, 3, 8)) := ⟨qm_in1 171 rfl, rfl⟩
theorem fk_92 : qm_Tb (qm_fw (0, 68, 3, 7)) := ⟨qm_in1 168 rfl, rfl⟩
theorem fk_93 : qm_Tb (qm_fw (0, 92, 4, 6)) := ⟨qm_in1 43 rfl, rfl⟩
theorem fk_94 : qm_Tb (qm_fw (0, 95, 4, 1)) := ⟨qm_in1 34 rfl, rfl⟩
theorem fk_95 : qm_Tb (qm_fw (0, 113, 3, 9)) := ⟨qm_in1 174 rfl, rfl⟩
theorem fk_96 : qm_Tb (qm_fw (0, 120, 2, 1)) := ⟨qm_in1 215 rfl, rfl⟩
theorem fk_97 : qm_Tb (qm_fw (0, 125, 2, 2)) := ⟨qm_in1 218 rfl, rfl⟩
theorem fk_98 : qm_Tb (qm_fw (0, 128, 2, 3)) := ⟨qm_in1 221 rfl, rfl⟩
theorem fk_99 : qm_Tb (qm_fw (0, 131, 2, 4)) := ⟨qm_in1 224 rfl, rfl⟩
theorem fk_100 : qm_Tb (qm_fw (0, 140, 3, 4)) := ⟨qm_in1 161 rfl, rfl⟩
theorem fk_101 : qm_Tb (qm_fw (0, 147, 3, 1)) := ⟨qm_in1 151 rfl, rfl⟩
theorem fk_102 : qm_Tb (qm_fw (0, 154, 4, 2)) := ⟨qm_in1 37 rfl, rfl⟩
theorem fk_103 : qm_Tb (qm_fw (0, 157, 4, 3)) := ⟨qm_in1 39 rfl, rfl⟩
theorem fk_104 : qm_Tb (qm_fw (0, 160, 4, 0)) := ⟨qm_in1 32 rfl, rfl⟩
theorem fk_105 : qm_Tb (qm_fw (0, 15, 5, 2)) := ⟨qm_in1 70 rfl, rfl⟩
theorem fk_106 : qm_Tb (qm_fw (1, 9, 3, 1)) := ⟨qm_in1 150 rfl, rfl⟩
theorem fk_107 : qm_Tb (qm_fw (1, 15, 3, 2)) := ⟨qm_in1 153 rfl, rfl⟩
theorem fk_108 : qm_Tb (qm_fw (1, 18, 3, 3)) := ⟨qm_in1 156 rfl, rfl⟩
theorem fk_109 : qm_Tb (qm_fw (1, 21, 3, 4)) := ⟨qm_in1 159 rfl, rfl⟩
theorem fk_110 : qm_Tb (qm_fw (1, 24, 3, 5)) := ⟨qm_in1 162 rfl, rfl⟩
theorem fk_111 : qm_Tb (qm_fw (1, 27, 3, 6)) := ⟨qm_in1 164 rfl, rfl⟩
theorem fk_112 : qm_Tb (qm_fw (1, 30, 3, 7)) := ⟨qm_in1 166 rfl, rfl⟩
theorem fk_113 : qm_Tb (qm_fw (1, 33, 3, 8)) := ⟨qm_in1 170 rfl, rfl⟩
theorem fk_114 : qm_Tb (qm_fw (1, 37, 3, 9)) := ⟨qm_in1 173 rfl, rfl⟩
theorem fk_115 : qm_Tb (qm_fw (1, 40, 3, 10)) := ⟨qm_in1 176 rfl, rfl⟩
theorem fk_116 : qm_Tb (qm_fw (1, 43, 3, 11)) := ⟨qm_in1 179 rfl, rfl⟩
theorem fk_117 : qm_Tb (qm_fw (1, 46, 3, 12)) := ⟨qm_in1 182 rfl, rfl⟩
theorem fk_118 : qm_Tb (qm_fw (1, 49, 3, 0)) := ⟨qm_in1 146 rfl, rfl⟩
theorem fk_119 : qm_Tb (qm_fw (2, 12, 6, 0)) := ⟨qm_in1 107 rfl, rfl⟩
theorem fk_120 : qm_Tb (qm_fw (2, 18, 6, 1)) := ⟨qm_in1 108 rfl, rfl⟩
theorem fk_121 : qm_Tb (qm_fw (2, 22, 6, 2)) := ⟨qm_in1 109 rfl, rfl⟩
theorem fk_122 : qm_Tb (qm_fw (2, 29, 6, 4)) := ⟨qm_in1 111 rfl, rfl⟩
theorem fk_123 : qm_Tb (qm_fw (2, 32, 6, 5)) := ⟨qm_in1 113 rfl, rfl⟩
theorem fk_124 : qm_Tb (qm_fw (2, 52, 7, 3)) := ⟨qm_in1 97 rfl, rfl⟩
theorem fk_125 : qm_Tb (qm_fw (2, 55, 7, 0)) := ⟨qm_in1 91 rfl, rfl⟩
theorem fk_126 : qm_Tb (qm_fw (2, 58, 7, 1)) := ⟨qm_in1 93 rfl, rfl⟩
theorem fk_127 : qm_Tb (qm_fw (2, 61, 7, 2)) := ⟨qm_in1 95 rfl, rfl⟩
theorem fk_128 : qm_Tb (qm_fw (2, 26, 6, 3)) := ⟨qm_in1 110 rfl, rfl⟩
theorem fk_129 : qm_Tb (qm_fw (3, 24, 8, 3)) := ⟨qm_in2 44 rfl, rfl⟩
theorem fk_130 : qm_Tb (qm_fw (3, 28, 8, 4)) := ⟨qm_in2 46 rfl, rfl⟩
theorem fk_131 : qm_Tb (qm_fw (3, 11, 8, 0)) := ⟨qm_in2 40 rfl, rfl⟩
theorem fk_132 : qm_Tb (qm_fw (3, 42, 3, 0)) := ⟨qm_in1 147 rfl, rfl⟩
theorem fk_133 : qm_Tb (qm_fw (3, 45, 3, 7)) := ⟨qm_in1 167 rfl, rfl⟩
theorem fk_134 : qm_Tb (qm_fw (3, 17, 8, 1)) := ⟨qm_in2 41 rfl, rfl⟩
theorem fk_135 : qm_Tb (qm_fw (3, 57, 2, 6)) := ⟨qm_in1 228 rfl, rfl⟩
theorem fk_136 : qm_Tb (qm_fw (3, 21, 8, 2)) := ⟨qm_in2 42 rfl, rfl⟩
theorem fk_137 : qm_Tb (qm_fw (4, 24, 4, 4)) := ⟨qm_in1 40 rfl, rfl⟩
theorem fk_138 : qm_Tb (qm_fw (4, 27, 4, 5)) := ⟨qm_in1 41 rfl, rfl⟩
theorem fk_139 : qm_Tb (qm_fw (4, 31, 4, 6)) := ⟨qm_in1 42 rfl, rfl⟩
theorem fk_140 : qm_Tb (qm_fw (4, 15, 4, 1)) := ⟨qm_in1 33 rfl, rfl⟩
theorem fk_141 : qm_Tb (qm_fw (4, 18, 4, 2)) := ⟨qm_in1 36 rfl, rfl⟩
theorem fk_142 : qm_Tb (qm_fw (4, 21, 4, 3)) := ⟨qm_in1 38 rfl, rfl⟩
theorem fk_143 : qm_Tb (qm_fw (4, 9, 4, 0)) := ⟨qm_in1 31 rfl, rfl⟩
theorem fk_144 : qm_Tb (qm_fw (5, 21, 7, 3)) := ⟨qm_in1 96 rfl, rfl⟩
theorem fk_145 : qm_Tb (qm_fw (5, 9, 7, 0)) := ⟨qm_in1 90 rfl, rfl⟩
theorem fk_146 : qm_Tb (qm_fw (5, 15, 7, 1)) := ⟨qm_in1 92 rfl, rfl⟩
theorem fk_147 : qm_Tb (qm_fw (5, 18, 7, 2)) := ⟨qm_in1 94 rfl, rfl⟩
theorem fk_148 : qm_Tb (qm_fw (6, 55, 2, 0)) := ⟨qm_in1 211 rfl, rfl⟩
theorem fk_149 : qm_Tb (qm_fw (6, 9, 2, 1)) := ⟨qm_in1 213 rfl, rfl⟩
theorem fk_150 : qm_Tb (qm_fw (6, 15, 2, 2)) := ⟨qm_in1 216 rfl, rfl⟩
theorem fk_151 : qm_Tb (qm_fw (6, 18, 2, 3)) := ⟨qm_in1 219 rfl, rfl⟩
theorem fk_152 : qm_Tb (qm_fw (6, 21, 2, 4)) := ⟨qm_in1 222 rfl, rfl⟩
theorem fk_153 : qm_Tb (qm_fw (6, 24, 2, 5)) := ⟨qm_in1 225 rfl, rfl⟩
theorem fk_154 : qm_Tb (qm_fw (6, 28, 2, 6)) := ⟨qm_in1 227 rfl, rfl⟩
theorem fk_155 : qm_Tb (qm_fw (6, 31, 2, 7)) := ⟨qm_in1 230 rfl, rfl⟩
theorem fk_156 : qm_Tb (qm_fw (6, 34, 2, 8)) := ⟨qm_in1 232 rfl, rfl⟩
theorem fk_157 : qm_Tb (qm_fw (6, 37, 2, 9)) := ⟨qm_in1 234 rfl, rfl⟩
theorem fk_158 : qm_Tb (qm_fw (6, 40, 2, 10)) := ⟨qm_in1 236 rfl, rfl⟩
theorem fk_159 : qm_Tb (qm_fw (6, 44, 2, 11)) := ⟨qm_in1 238 rfl, rfl⟩
theorem fk_160 : qm_Tb (qm_fw (6, 47, 2, 12)) := ⟨qm_in2 0 rfl, rfl⟩
set_option maxRecDepth 20000 in
theorem qm_flk_ok : ∀ e ∈ qm_flk, qm_Tb (qm_fw e) := (List.forall_mem_cons.mpr ⟨fk_0, (List.forall_mem_cons.mpr ⟨fk_1, (List.forall_mem_cons.mpr ⟨fk_2, (List.forall_mem_cons.mpr ⟨fk_3, (List.forall_mem_cons.mpr ⟨fk_4, (List.forall_mem_cons.mpr ⟨fk_5, (List.forall_mem_cons.mpr ⟨fk_6, (List.forall_mem_cons.mpr ⟨fk_7, (List.forall_mem_cons.mpr ⟨fk_8, (List.forall_mem_cons.mpr ⟨fk_9, (List.forall_mem_cons.mpr ⟨fk_10, (List.forall_mem_cons.mpr ⟨fk_11, (List.forall_mem_cons.mpr ⟨fk_12, (List.forall_mem_cons.mpr ⟨fk_13, (List.forall_mem_cons.mpr ⟨fk_14, (List.forall_mem_cons.mpr ⟨fk_15, (List.forall_mem_cons.mpr ⟨fk_16, (List.forall_mem_cons.mpr ⟨fk_17, (List.forall_mem_cons.mpr ⟨fk_18, (List.forall_mem_cons.mpr ⟨fk_19, (List.forall_mem_cons.mpr ⟨fk_20, (List.forall_mem_cons.mpr ⟨fk_21, (List.forall_mem_cons.mpr ⟨fk_22, (List.forall_mem_cons.mpr ⟨fk_23, (List.forall_mem_cons.mpr ⟨fk_24, (List.forall_mem_cons.mpr ⟨fk_25, (List.forall_mem_cons.mpr ⟨fk_26, (List.forall_mem_cons.mpr ⟨fk_27, (List.forall_mem_cons.mpr ⟨fk_28, (List.forall_mem_cons.mpr ⟨fk_29, (List.forall_mem_cons.mpr ⟨fk_30, (List.forall_mem_cons.mpr ⟨fk_31, (List.forall_mem_cons.mpr ⟨fk_32, (List.forall_mem_cons.mpr ⟨fk_33, (List.forall_mem_cons.mpr ⟨fk_34, (List.forall_mem_cons.mpr ⟨fk_35, (List.forall_mem_cons.mpr ⟨fk_36, (List.forall_mem_cons.mpr ⟨fk_37, (List.forall_mem_cons.mpr ⟨fk_38, (List.forall_mem_cons.mpr ⟨fk_39, (List.forall_mem_cons.mpr ⟨fk_40, (List.forall_mem_cons.mpr ⟨fk_41, (List.forall_mem_cons.mpr ⟨fk_42, (List.forall_mem_cons.mpr ⟨fk_43, (List.forall_mem_cons.mpr ⟨fk_44, (List.forall_mem_cons.mpr ⟨fk_45, (List.forall_mem_cons.mpr ⟨fk_46, (List.forall_mem_cons.mpr ⟨fk_47, (List.forall_mem_cons.mpr ⟨fk_48, (List.forall_mem_cons.mpr ⟨fk_49, (List.forall_mem_cons.mpr ⟨fk_50, (List.forall_mem_cons.mpr ⟨fk_51, (List.forall_mem_cons.mpr ⟨fk_52, (List.forall_mem_cons.mpr ⟨fk_53, (List.forall_mem_cons.mpr ⟨fk_54, (List.forall_mem_cons.mpr ⟨fk_55, (List.forall_mem_cons.mpr ⟨fk_56, (List.forall_mem_cons.mpr ⟨fk_57, (List.forall_mem_cons.mpr ⟨fk_58, (List.forall_mem_cons.mpr ⟨fk_59, (List.forall_mem_cons.mpr ⟨fk_60, (List.forall_mem_cons.mpr ⟨fk_61, (List.forall_mem_cons.mpr ⟨fk_62, (List.forall_mem_cons.mpr ⟨fk_63, (List.forall_mem_cons.mpr ⟨fk_64, (List.forall_mem_cons.mpr ⟨fk_65, (List.forall_mem_cons.mpr ⟨fk_66, (List.forall_mem_cons.mpr ⟨fk_67, (List.forall_mem_cons.mpr ⟨fk_68, (List.forall_mem_cons.mpr ⟨fk_69, (List.forall_mem_cons.mpr ⟨fk_70, (List.forall_mem_cons.mpr ⟨fk_71, (List.forall_mem_cons.mpr ⟨fk_72, (List.forall_mem_cons.mpr ⟨fk_73, (List.forall_mem_cons.mpr ⟨fk_74, (List.forall_mem_cons.mpr ⟨fk_75, (List.forall_mem_cons.mpr ⟨fk_76, (List.forall_mem_cons.mpr ⟨fk_77, (List.forall_mem_cons.mpr ⟨fk_78, (List.forall_mem_cons.mpr ⟨fk_79, (List.forall_mem_cons.mpr ⟨fk_80, (List.forall_mem_cons.mpr ⟨fk_81, (List.forall_mem_cons.mpr ⟨fk_82, (List.forall_mem_cons.mpr ⟨fk_83, (List.forall_mem_cons.mpr ⟨fk_84, (List.forall_mem_cons.mpr ⟨fk_85, (List.forall_mem_cons.mpr ⟨fk_86, (List.forall_mem_cons.mpr ⟨fk_87, (List.forall_mem_cons.mpr ⟨fk_88, (List.forall_mem_cons.mpr ⟨fk_89, (List.forall_mem_cons.mpr ⟨fk_90, (List.forall_mem_cons.mpr ⟨fk_91, (List.forall_mem_cons.mpr ⟨fk_92, (List.forall_mem_cons.mpr ⟨fk_93, (List.forall_mem_cons.mpr ⟨fk_94, (List.forall_mem_cons.mpr ⟨fk_95, (List.forall_mem_cons.mpr ⟨fk_96, (List.forall_mem_cons.mpr ⟨fk_97, (List.forall_mem_cons.mpr ⟨fk_98, (List.forall_mem_cons.mpr ⟨fk_99, (List.forall_mem_cons.mpr ⟨fk_100, (List.forall_mem_cons.mpr ⟨fk_101, (List.forall_mem_cons.mpr ⟨fk_102, (List.forall_mem_cons.mpr ⟨fk_103, (List.forall_mem_cons.mpr ⟨fk_104, (List.forall_mem_cons.mpr ⟨fk_105, (List.forall_mem_cons.mpr ⟨fk_106, (List.forall_mem_cons.mpr ⟨fk_107, (List.forall_mem_cons.mpr ⟨fk_108, (List.forall_mem_cons.mpr ⟨fk_109, (List.forall_mem_cons.mpr ⟨fk_110, (List.forall_mem_cons.mpr ⟨fk_111, (List.forall_mem_cons.mpr ⟨fk_112, (List.forall_mem_cons.mpr ⟨fk_113, (List.forall_mem_cons.mpr ⟨fk_114, (List.forall_mem_cons.mpr ⟨fk_115, (List.forall_mem_cons.mpr ⟨fk_116, (List.forall_mem_cons.mpr ⟨fk_117, (List.forall_mem_cons.mpr ⟨fk_118, (List.forall_mem_cons.mpr ⟨fk_119, (List.forall_mem_cons.mpr ⟨fk_120, (List.forall_mem_cons.mpr ⟨fk_121, (List.forall_mem_cons.mpr ⟨fk_122, (List.forall_mem_cons.mpr ⟨fk_123, (List.forall_mem_cons.mpr ⟨fk_124, (List.forall_mem_cons.mpr ⟨fk_125, (List.forall_mem_cons.mpr ⟨fk_126, (List.forall_mem_cons.mpr ⟨fk_127, (List.forall_mem_cons.mpr ⟨fk_128, (List.forall_mem_cons.mpr ⟨fk_129, (List.forall_mem_cons.mpr ⟨fk_130, (List.forall_mem_cons.mpr ⟨fk_131, (List.forall_mem_cons.mpr ⟨fk_132, (List.forall_mem_cons.mpr ⟨fk_133, (List.forall_mem_cons.mpr ⟨fk_134, (List.forall_mem_cons.mpr ⟨fk_135, (List.forall_mem_cons.mpr ⟨fk_136, (List.forall_mem_cons.mpr ⟨fk_137, (List.forall_mem_cons.mpr ⟨fk_138, (List.forall_mem_cons.mpr ⟨fk_139, (List.forall_mem_cons.mpr ⟨fk_140, (List.forall_mem_cons.mpr ⟨fk_141, (List.forall_mem_cons.mpr ⟨fk_142, (List.forall_mem_cons.mpr ⟨fk_143, (List.forall_mem_cons.mpr ⟨fk_144, (List.forall_mem_cons.mpr ⟨fk_145, (List.forall_mem_cons.mpr ⟨fk_146, (List.forall_mem_cons.mpr ⟨fk_147, (List.forall_mem_cons.mpr ⟨fk_148, (List.forall_mem_cons.mpr ⟨fk_149, (List.forall_mem_cons.mpr ⟨fk_150, (List.forall_mem_cons.mpr ⟨fk_151, (List.forall_mem_cons.mpr ⟨fk_152, (List.forall_mem_cons.mpr ⟨fk_153, (List.forall_mem_cons.mpr ⟨fk_154, (List.forall_mem_cons.mpr ⟨fk_155, (List.forall_mem_cons.mpr ⟨fk_156, (List.forall_mem_cons.mpr ⟨fk_157, (List.forall_mem_cons.mpr ⟨fk_158, (List.forall_mem_cons.mpr ⟨fk_159, (List.forall_mem_cons.mpr ⟨fk_160, (fun _ h => absurd h List.not_mem_nil)⟩)⟩)⟩)⟩)⟩)⟩)⟩)⟩)⟩)⟩)⟩)⟩)⟩)⟩)⟩)⟩)⟩)⟩)⟩)⟩)⟩)⟩)⟩)⟩)⟩)⟩)⟩)⟩)⟩)⟩)⟩)⟩)⟩)⟩)⟩)⟩)⟩)⟩)⟩)⟩)⟩)⟩)⟩)⟩)⟩)⟩)⟩)⟩)⟩)⟩)⟩)⟩)⟩)⟩)⟩)⟩)⟩)⟩)⟩)⟩)⟩)⟩)⟩)⟩)⟩)⟩)⟩)⟩)⟩)⟩)⟩)⟩)⟩)⟩)⟩)⟩)⟩)⟩)⟩)⟩)⟩)⟩)⟩)⟩)⟩)⟩)⟩)⟩)⟩)⟩)⟩)⟩)⟩)⟩)⟩)⟩)⟩)⟩)⟩)⟩)⟩)⟩)⟩)⟩)⟩)⟩)⟩)⟩)⟩)⟩)⟩)⟩)⟩)⟩)⟩)⟩)⟩)⟩)⟩)⟩)⟩)⟩)⟩)⟩)⟩)⟩)⟩)⟩)⟩)⟩)⟩)⟩)⟩)⟩)⟩)⟩)⟩)⟩)⟩)⟩)⟩)⟩)⟩)⟩)⟩)⟩)⟩)⟩)⟩)⟩)⟩)⟩)⟩)⟩)⟩)⟩)⟩)⟩)⟩)⟩)⟩)
theorem mk_0 : qm_ML (7, 95, 49, 1, 1) := ⟨⟨⟨qm_in2 109 rfl, rfl⟩, ⟨qm_in2 110 rfl, rfl⟩⟩, ⟨qm_in1 1 rfl, rfl⟩⟩
theorem mk_1 : qm_ML (7, 99, 53, 1, 3) := ⟨⟨⟨qm_in2 112 rfl, rfl⟩, ⟨qm_in2 113 rfl, rfl⟩⟩, ⟨qm_in1 1 rfl, rfl⟩⟩
theorem mk_2 : qm_ML (7, 103, 50, 1, 1) := ⟨⟨⟨qm_in2 115 rfl, rfl⟩, ⟨qm_in2 116 rfl, rfl⟩⟩, ⟨qm_in1 1 rfl, rfl⟩⟩
theorem mk_3 : qm_ML (7, 109, 185, 0, 0) := ⟨⟨⟨qm_in2 118 rfl, rfl⟩, ⟨qm_in2 119 rfl, rfl⟩, ⟨qm_in2 120 rfl, rfl⟩⟩, ⟨qm_in1 8 rfl, rfl⟩⟩
theorem mk_4 : qm_ML (7, 113, 188, 0, 4) := ⟨⟨⟨qm_in2 122 rfl, rfl⟩, ⟨qm_in2 123 rfl, rfl⟩, ⟨qm_in2 124 rfl, rfl⟩⟩, ⟨qm_in1 8 rfl, rfl⟩⟩
theorem mk_5 : qm_ML (7, 117, 186, 0, 2) := ⟨⟨⟨qm_in2 134 rfl, rfl⟩, ⟨qm_in2 135 rfl, rfl⟩, ⟨qm_in2 136 rfl, rfl⟩⟩, ⟨qm_in1 8 rfl, rfl⟩⟩
theorem mk_6 : qm_ML (7, 124, 54, 1, 2) := ⟨⟨⟨qm_in2 138 rfl, rfl⟩, ⟨qm_in2 128 rfl, rfl⟩⟩, ⟨qm_in1 1 rfl, rfl⟩⟩
theorem mk_7 : qm_ML (7, 127, 51, 1, 2) := ⟨⟨⟨qm_in2 143 rfl, rfl⟩, ⟨qm_in2 144 rfl, rfl⟩⟩, ⟨qm_in1 1 rfl, rfl⟩⟩
theorem mk_8 : qm_ML (7, 157, 47, 0, 1) := ⟨⟨⟨qm_in2 158 rfl, rfl⟩, ⟨qm_in2 160 rfl, rfl⟩, ⟨qm_in0 0 rfl, rfl⟩⟩, ⟨qm_in1 1 rfl, rfl⟩⟩
theorem mk_9 : qm_ML (7, 172, 9, 0, 1) := ⟨⟨⟨qm_in2 170 rfl, rfl⟩, ⟨qm_in2 172 rfl, rfl⟩, ⟨qm_in0 1 rfl, rfl⟩⟩, ⟨qm_in1 1 rfl, rfl⟩⟩
theorem mk_10 : qm_ML (7, 177, 199, 0, 3) := ⟨⟨⟨qm_in2 182 rfl, rfl⟩, ⟨qm_in2 183 rfl, rfl⟩, ⟨qm_in2 184 rfl, rfl⟩⟩, ⟨qm_in1 4 rfl, rfl⟩⟩
theorem mk_11 : qm_ML (7, 187, 48, 0, 1) := ⟨⟨⟨qm_in3 126 rfl, rfl⟩, ⟨qm_in3 128 rfl, rfl⟩, ⟨qm_in0 22 rfl, rfl⟩⟩, ⟨qm_in1 1 rfl, rfl⟩⟩
theorem mk_12 : qm_ML (7, 193, 14, 0, 0) := ⟨⟨⟨qm_in3 130 rfl, rfl⟩, ⟨qm_in3 132 rfl, rfl⟩, ⟨qm_in0 23 rfl, rfl⟩⟩, ⟨qm_in1 1 rfl, rfl⟩⟩
theorem mk_13 : qm_ML (7, 199, 187, 0, 0) := ⟨⟨⟨qm_in3 138 rfl, rfl⟩, ⟨qm_in3 139 rfl, rfl⟩, ⟨qm_in3 140 rfl, rfl⟩⟩, ⟨qm_in1 8 rfl, rfl⟩⟩
theorem mk_14 : qm_ML (7, 208, 16, 0, 2) := ⟨⟨⟨qm_in3 142 rfl, rfl⟩, ⟨qm_in3 144 rfl, rfl⟩, ⟨qm_in0 24 rfl, rfl⟩⟩, ⟨qm_in1 1 rfl, rfl⟩⟩
theorem mk_15 : qm_ML (7, 212, 226, 0, 2) := ⟨⟨⟨qm_in3 146 rfl, rfl⟩, ⟨qm_in3 147 rfl, rfl⟩, ⟨qm_in3 148 rfl, rfl⟩⟩, ⟨qm_in1 2 rfl, rfl⟩⟩
theorem mk_16 : qm_ML (7, 224, 166, 0, 3) := ⟨⟨⟨qm_in3 154 rfl, rfl⟩, ⟨qm_in3 155 rfl, rfl⟩, ⟨qm_in3 156 rfl, rfl⟩⟩, ⟨qm_in1 3 rfl, rfl⟩⟩
theorem mk_17 : qm_ML (7, 228, 167, 0, 3) := ⟨⟨⟨qm_in3 203 rfl, rfl⟩, ⟨qm_in3 204 rfl, rfl⟩, ⟨qm_in3 205 rfl, rfl⟩⟩, ⟨qm_in1 3 rfl, rfl⟩⟩
theorem mk_18 : qm_ML (7, 231, 52, 1, 1) := ⟨⟨⟨qm_in3 207 rfl, rfl⟩, ⟨qm_in3 208 rfl, rfl⟩⟩, ⟨qm_in1 1 rfl, rfl⟩⟩
theorem mk_19 : qm_ML (7, 237, 170, 0, 2) := ⟨⟨⟨qm_in3 214 rfl, rfl⟩, ⟨qm_in3 215 rfl, rfl⟩, ⟨qm_in3 216 rfl, rfl⟩⟩, ⟨qm_in1 3 rfl, rfl⟩⟩
theorem mk_20 : qm_ML (7, 244, 171, 0, 1) := ⟨⟨⟨qm_in3 219 rfl, rfl⟩, ⟨qm_in3 220 rfl, rfl⟩, ⟨qm_in3 221 rfl, rfl⟩⟩, ⟨qm_in1 3 rfl, rfl⟩⟩
theorem mk_21 : qm_ML (7, 248, 169, 0, 1) := ⟨⟨⟨qm_in3 224 rfl, rfl⟩, ⟨qm_in3 225 rfl, rfl⟩, ⟨qm_in3 226 rfl, rfl⟩⟩, ⟨qm_in1 3 rfl, rfl⟩⟩
theorem mk_22 : qm_ML (7, 254, 192, 0, 0) := ⟨⟨⟨qm_in3 233 rfl, rfl⟩, ⟨qm_in3 234 rfl, rfl⟩, ⟨qm_in3 235 rfl, rfl⟩⟩, ⟨qm_in1 8 rfl, rfl⟩⟩
theorem mk_23 : qm_ML (7, 258, 193, 0, 0) := ⟨⟨⟨qm_in3 237 rfl, rfl⟩, ⟨qm_in3 238 rfl, rfl⟩, ⟨qm_in3 239 rfl, rfl⟩⟩, ⟨qm_in1 8 rfl, rfl⟩⟩
theorem mk_24 : qm_ML (7, 261, 172, 0, 1) := ⟨⟨⟨qm_in4 2 rfl, rfl⟩, ⟨qm_in4 3 rfl, rfl⟩, ⟨qm_in4 4 rfl, rfl⟩⟩, ⟨qm_in1 3 rfl, rfl⟩⟩
theorem mk_25 : qm_ML (7, 264, 173, 0, 1) := ⟨⟨⟨qm_in4 8 rfl, rfl⟩, ⟨qm_in4 9 rfl, rfl⟩, ⟨qm_in4 10 rfl, rfl⟩⟩, ⟨qm_in1 3 rfl, rfl⟩⟩
theorem mk_26 : qm_ML (7, 271, 175, 0, 3) := ⟨⟨⟨qm_in4 21 rfl, rfl⟩, ⟨qm_in4 22 rfl, rfl⟩, ⟨qm_in4 23 rfl, rfl⟩⟩, ⟨qm_in1 3 rfl, rfl⟩⟩
theorem mk_27 : qm_ML (7, 275, 21, 0, 0) := ⟨⟨⟨qm_in4 41 rfl, rfl⟩, ⟨qm_in4 43 rfl, rfl⟩, ⟨qm_in0 30 rfl, rfl⟩⟩, ⟨qm_in1 1 rfl, rfl⟩⟩
theorem mk_28 : qm_ML (7, 278, 168, 0, 3) := ⟨⟨⟨qm_in4 45 rfl, rfl⟩, ⟨qm_in4 46 rfl, rfl⟩, ⟨qm_in4 47 rfl, rfl⟩⟩, ⟨qm_in1 3 rfl, rfl⟩⟩
theorem mk_29 : qm_ML (7, 281, 189, 0, 2) := ⟨⟨⟨qm_in4 49 rfl, rfl⟩, ⟨qm_in4 50 rfl, rfl⟩, ⟨qm_in4 51 rfl, rfl⟩⟩, ⟨qm_in1 8 rfl, rfl⟩⟩
theorem mk_30 : qm_ML (7, 285, 46, 0, 1) := ⟨⟨⟨qm_in4 62 rfl, rfl⟩, ⟨qm_in4 64 rfl, rfl⟩, ⟨qm_in0 32 rfl, rfl⟩⟩, ⟨qm_in1 1 rfl, rfl⟩⟩
theorem mk_31 : qm_ML (7, 288, 218, 0, 1) := ⟨⟨⟨qm_in4 66 rfl, rfl⟩, ⟨qm_in4 67 rfl, rfl⟩, ⟨qm_in4 68 rfl, rfl⟩⟩, ⟨qm_in1 9 rfl, rfl⟩⟩
theorem mk_32 : qm_ML (7, 292, 219, 2, 5) := ⟨⟨List.mem_of_getElem? (i := 0) rfl, ⟨qm_in4 79 rfl, rfl⟩, ⟨qm_in0 33 rfl, rfl⟩⟩, ⟨qm_in1 9 rfl, rfl⟩⟩
theorem mk_33 : qm_ML (7, 305, 24, 0, 2) := ⟨⟨⟨qm_in4 94 rfl, rfl⟩, ⟨qm_in4 96 rfl, rfl⟩, ⟨qm_in0 35 rfl, rfl⟩⟩, ⟨qm_in1 1 rfl, rfl⟩⟩
theorem mk_34 : qm_ML (7, 308, 25, 1, 1) := ⟨⟨⟨qm_in4 103 rfl, rfl⟩, ⟨qm_in4 104 rfl, rfl⟩⟩, ⟨qm_in1 1 rfl, rfl⟩⟩
theorem mk_35 : qm_ML (7, 312, 26, 0, 2) := ⟨⟨⟨qm_in4 106 rfl, rfl⟩, ⟨qm_in4 108 rfl, rfl⟩, ⟨qm_in0 36 rfl, rfl⟩⟩, ⟨qm_in1 1 rfl, rfl⟩⟩
theorem mk_36 : qm_ML (7, 315, 184, 0, 1) := ⟨⟨⟨qm_in4 98 rfl, rfl⟩, ⟨qm_in4 71 rfl, rfl⟩, ⟨qm_in4 72 rfl, rfl⟩⟩, ⟨qm_in1 8 rfl, rfl⟩⟩
theorem mk_37 : qm_ML (7, 318, 191, 0, 1) := ⟨⟨⟨qm_in4 99 rfl, rfl⟩, ⟨qm_in4 100 rfl, rfl⟩, ⟨qm_in4 101 rfl, rfl⟩⟩, ⟨qm_in1 8 rfl, rfl⟩⟩
theorem mk_38 : qm_ML (7, 321, 45, 0, 1) := ⟨⟨⟨qm_in4 114 rfl, rfl⟩, ⟨qm_in4 116 rfl, rfl⟩, ⟨qm_in0 37 rfl, rfl⟩⟩, ⟨qm_in1 1 rfl, rfl⟩⟩
theorem mk_39 : qm_ML (7, 324, 29, 0, 1) := ⟨⟨⟨qm_in4 118 rfl, rfl⟩, ⟨qm_in4 120 rfl, rfl⟩, ⟨qm_in0 38 rfl, rfl⟩⟩, ⟨qm_in1 1 rfl, rfl⟩⟩
theorem mk_40 : qm_ML (7, 327, 30, 0, 1) := ⟨⟨⟨qm_in4 122 rfl, rfl⟩, ⟨qm_in4 124 rfl, rfl⟩, ⟨qm_in0 39 rfl, rfl⟩⟩, ⟨qm_in1 1 rfl, rfl⟩⟩
theorem mk_41 : qm_ML (7, 331, 31, 0, 1) := ⟨⟨⟨qm_in4 126 rfl, rfl⟩, ⟨qm_in4 128 rfl, rfl⟩, ⟨qm_in0 40 rfl, rfl⟩⟩, ⟨qm_in1 1 rfl, rfl⟩⟩
theorem mk_42 : qm_ML (7, 334, 32, 0, 0) := ⟨⟨⟨qm_in4 134 rfl, rfl⟩, ⟨qm_in4 136 rfl, rfl⟩, ⟨qm_in0 41 rfl, rfl⟩⟩, ⟨qm_in1 1 rfl, rfl⟩⟩
theorem mk_43 : qm_ML (7, 337, 176, 0, 3) := ⟨⟨⟨qm_in4 142 rfl, rfl⟩, ⟨qm_in4 26 rfl, rfl⟩, ⟨qm_in4 27 rfl, rfl⟩⟩, ⟨qm_in1 3 rfl, rfl⟩⟩
theorem mk_44 : qm_ML (7, 341, 35, 0, 0) := ⟨⟨⟨qm_in4 148 rfl, rfl⟩, ⟨qm_in4 150 rfl, rfl⟩, ⟨qm_in0 42 rfl, rfl⟩⟩, ⟨qm_in1 1 rfl, rfl⟩⟩
theorem mk_45 : qm_ML (7, 344, 36, 0, 1) := ⟨⟨⟨qm_in4 152 rfl, rfl⟩, ⟨qm_in4 154 rfl, rfl⟩, ⟨qm_in0 43 rfl, rfl⟩⟩, ⟨qm_in1 1 rfl, rfl⟩⟩
theorem mk_46 : qm_ML (7, 359, 39, 0, 1) := ⟨⟨⟨qm_in4 165 rfl, rfl⟩, ⟨qm_in4 167 rfl, rfl⟩, ⟨qm_in0 44 rfl, rfl⟩⟩, ⟨qm_in1 1 rfl, rfl⟩⟩
theorem mk_47 : qm_ML (7, 362, 41, 0, 2) := ⟨⟨⟨qm_in4 173 rfl, rfl⟩, ⟨qm_in4 175 rfl, rfl⟩, ⟨qm_in0 45 rfl, rfl⟩⟩, ⟨qm_in1 1 rfl, rfl⟩⟩
theorem mk_48 : qm_ML (7, 365, 239, 0, 1) := ⟨⟨⟨qm_in4 181 rfl, rfl⟩, ⟨qm_in4 182 rfl, rfl⟩, ⟨qm_in4 183 rfl, rfl⟩⟩, ⟨qm_in1 7 rfl, rfl⟩⟩
theorem mk_49 : qm_ML (8, 77, 57, 1, 3) := ⟨⟨⟨qm_in5 88 rfl, rfl⟩, ⟨qm_in5 89 rfl, rfl⟩⟩, ⟨qm_in1 10 rfl, rfl⟩⟩
theorem mk_50 : qm_ML (8, 81, 61, 0, 1) := ⟨⟨⟨qm_in5 84 rfl, rfl⟩, ⟨qm_in5 86 rfl, rfl⟩, ⟨qm_in0 47 rfl, rfl⟩⟩, ⟨qm_in1 10 rfl, rfl⟩⟩
theorem mk_51 : qm_ML (8, 85, 59, 0, 1) := ⟨⟨⟨qm_in5 91 rfl, rfl⟩, ⟨qm_in5 93 rfl, rfl⟩, ⟨qm_in0 48 rfl, rfl⟩⟩, ⟨qm_in1 10 rfl, rfl⟩⟩
theorem mk_52 : qm_ML (8, 89, 65, 0, 4) := ⟨⟨⟨qm_in5 95 rfl, rfl⟩, ⟨qm_in5 97 rfl, rfl⟩, ⟨qm_in0 49 rfl, rfl⟩⟩, ⟨qm_in1 10 rfl, rfl⟩⟩
theorem mk_53 : qm_ML (8, 93, 60, 0, 2) := ⟨⟨⟨qm_in5 99 rfl, rfl⟩, ⟨qm_in5 101 rfl, rfl⟩, ⟨qm_in0 50 rfl, rfl⟩⟩, ⟨qm_in1 10 rfl, rfl⟩⟩
theorem mk_54 : qm_ML (8, 97, 62, 0, 2) := ⟨⟨⟨qm_in5 107 rfl, rfl⟩, ⟨qm_in5 109 rfl, rfl⟩, ⟨qm_in0 51 rfl, rfl⟩⟩, ⟨qm_in1 10 rfl, rfl⟩⟩
theorem mk_55 : qm_ML (8, 101, 67, 1, 2) := ⟨⟨⟨qm_in5 115 rfl, rfl⟩, ⟨qm_in5 116 rfl, rfl⟩⟩, ⟨qm_in1 10 rfl, rfl⟩⟩
theorem mk_56 : qm_ML (8, 104, 71, 0, 1) := ⟨⟨⟨qm_in5 130 rfl, rfl⟩, ⟨qm_in5 132 rfl, rfl⟩, ⟨qm_in0 52 rfl, rfl⟩⟩, ⟨qm_in1 10 rfl, rfl⟩⟩
theorem mk_57 : qm_ML (8, 110, 74, 0, 1) := ⟨⟨⟨qm_in5 142 rfl, rfl⟩, ⟨qm_in5 144 rfl, rfl⟩, ⟨qm_in0 53 rfl, rfl⟩⟩, ⟨qm_in1 10 rfl, rfl⟩⟩
theorem mk_58 : qm_ML (8, 117, 77, 0, 1) := ⟨⟨⟨qm_in5 162 rfl, rfl⟩, ⟨qm_in5 164 rfl, rfl⟩, ⟨qm_in0 56 rfl, rfl⟩⟩, ⟨qm_in1 10 rfl, rfl⟩⟩
theorem mk_59 : qm_ML (8, 126, 79, 1, 1) := ⟨⟨⟨qm_in5 166 rfl, rfl⟩, ⟨qm_in5 167 rfl, rfl⟩⟩, ⟨qm_in1 10 rfl, rfl⟩⟩
theorem mk_60 : qm_ML (8, 133, 78, 1, 1) := ⟨⟨⟨qm_in5 170 rfl, rfl⟩, ⟨qm_in5 171 rfl, rfl⟩⟩, ⟨qm_in1 10 rfl, rfl⟩⟩
theorem mk_61 : qm_ML (8, 140, 81, 1, 3) := ⟨⟨⟨qm_in5 181 rfl, rfl⟩, ⟨qm_in5 182 rfl, rfl⟩⟩, ⟨qm_in1 10 rfl, rfl⟩⟩
theorem mk_62 : qm_ML (8, 144, 82, 1, 5) := ⟨⟨⟨qm_in5 188 rfl, rfl⟩, ⟨qm_in5 189 rfl, rfl⟩⟩, ⟨qm_in1 10 rfl, rfl⟩⟩
theorem mk_63 : qm_ML (8, 157, 88, 1, 1) := ⟨⟨⟨qm_in5 230 rfl, rfl⟩, ⟨qm_in5 231 rfl, rfl⟩⟩, ⟨qm_in1 10 rfl, rfl⟩⟩
theorem mk_64 : qm_ML (8, 160, 86, 0, 2) := ⟨⟨⟨qm_in6 2 rfl, rfl⟩, ⟨qm_in6 4 rfl, rfl⟩, ⟨qm_in0 70 rfl, rfl⟩⟩, ⟨qm_in1 10 rfl, rfl⟩⟩
theorem mk_65 : qm_ML (8, 170, 89, 0, 1) := ⟨⟨⟨qm_in5 238 rfl, rfl⟩, ⟨qm_in6 0 rfl, rfl⟩, ⟨qm_in0 69 rfl, rfl⟩⟩, ⟨qm_in1 10 rfl, rfl⟩⟩
theorem mk_66 : qm_ML (8, 173, 91, 0, 0) := ⟨⟨⟨qm_in5 222 rfl, rfl⟩, ⟨qm_in5 224 rfl, rfl⟩, ⟨qm_in0 66 rfl, rfl⟩⟩, ⟨qm_in1 10 rfl, rfl⟩⟩
theorem mk_67 : qm_ML (8, 177, 80, 0, 0) := ⟨⟨⟨qm_in5 158 rfl, rfl⟩, ⟨qm_in5 160 rfl, rfl⟩, ⟨qm_in0 55 rfl, rfl⟩⟩, ⟨qm_in1 10 rfl, rfl⟩⟩
theorem mk_68 : qm_ML (8, 180, 87, 0, 1) := ⟨⟨⟨qm_in6 6 rfl, rfl⟩, ⟨qm_in6 8 rfl, rfl⟩, ⟨qm_in0 71 rfl, rfl⟩⟩, ⟨qm_in1 10 rfl, rfl⟩⟩
theorem mk_69 : qm_ML (8, 183, 101, 0, 0) := ⟨⟨⟨qm_in6 18 rfl, rfl⟩, ⟨qm_in6 20 rfl, rfl⟩, ⟨qm_in0 74 rfl, rfl⟩⟩, ⟨qm_in1 10 rfl, rfl⟩⟩
theorem mk_70 : qm_ML (8, 186, 103, 0, 1) := ⟨⟨⟨qm_in6 29 rfl, rfl⟩, ⟨qm_in6 31 rfl, rfl⟩, ⟨qm_in0 76 rfl, rfl⟩⟩, ⟨qm_in1 10 rfl, rfl⟩⟩
theorem mk_71 : qm_ML (8, 189, 90, 0, 0) := ⟨⟨⟨qm_in6 10 rfl, rfl⟩, ⟨qm_in6 12 rfl, rfl⟩, ⟨qm_in0 72 rfl, rfl⟩⟩, ⟨qm_in1 10 rfl, rfl⟩⟩
theorem mk_72 : qm_ML (8, 192, 94, 0, 1) := ⟨⟨⟨qm_in6 33 rfl, rfl⟩, ⟨qm_in6 35 rfl, rfl⟩, ⟨qm_in0 77 rfl, rfl⟩⟩, ⟨qm_in1 10 rfl, rfl⟩⟩
theorem mk_73 : qm_ML (8, 195, 85, 0, 1) := ⟨⟨⟨qm_in5 184 rfl, rfl⟩, ⟨qm_in5 186 rfl, rfl⟩, ⟨qm_in0 59 rfl, rfl⟩⟩, ⟨qm_in1 10 rfl, rfl⟩⟩
theorem mk_74 : qm_ML (8, 199, 93, 0, 1) := ⟨⟨⟨qm_in6 37 rfl, rfl⟩, ⟨qm_in6 39 rfl, rfl⟩, ⟨qm_in0 78 rfl, rfl⟩⟩, ⟨qm_in1 10 rfl, rfl⟩⟩
theorem mk_75 : qm_ML (8, 203, 92, 0, 0) := ⟨⟨⟨qm_in5 226 rfl, rfl⟩, ⟨qm_in5 228 rfl, rfl⟩, ⟨qm_in0 67 rfl, rfl⟩⟩, ⟨qm_in1 10 rfl, rfl⟩⟩
theorem mk_76 : qm_ML (8, 207, 96, 0, 0) := ⟨⟨⟨qm_in5 233 rfl, rfl⟩, ⟨qm_in5 235 rfl, rfl⟩, ⟨qm_in0 68 rfl, rfl⟩⟩, ⟨qm_in1 10 rfl, rfl⟩⟩
theorem mk_77 : qm_ML (8, 212, 97, 0, 1) := ⟨⟨⟨qm_in5 218 rfl, rfl⟩, ⟨qm_in5 220 rfl, rfl⟩, ⟨qm_in0 65 rfl, rfl⟩⟩, ⟨qm_in1 10 rfl, rfl⟩⟩
theorem mk_78 : qm_ML (8, 216, 98, 0, 1) := ⟨⟨⟨qm_in5 214 rfl, rfl⟩, ⟨qm_in5 216 rfl, rfl⟩, ⟨qm_in0 64 rfl, rfl⟩⟩, ⟨qm_in1 10 rfl, rfl⟩⟩
theorem mk_79 : qm_ML (8, 219, 95, 0, 1) := ⟨⟨⟨qm_in6 14 rfl, rfl⟩, ⟨qm_in6 16 rfl, rfl⟩, ⟨qm_in0 73 rfl, rfl⟩⟩, ⟨qm_in1 10 rfl, rfl⟩⟩
theorem mk_80 : qm_ML (8, 222, 84, 1, 6) := ⟨⟨⟨qm_in5 194 rfl, rfl⟩, ⟨qm_in5 195 rfl, rfl⟩⟩, ⟨qm_in1 10 rfl, rfl⟩⟩
theorem mk_81 : qm_ML (8, 226, 83, 1, 4) := ⟨⟨⟨qm_in5 191 rfl, rfl⟩, ⟨qm_in5 192 rfl, rfl⟩⟩, ⟨qm_in1 10 rfl, rfl⟩⟩
theorem mk_82 : qm_ML (8, 230, 102, 0, 0) := ⟨⟨⟨qm_in6 22 rfl, rfl⟩, ⟨qm_in6 24 rfl, rfl⟩, ⟨qm_in0 75 rfl, rfl⟩⟩, ⟨qm_in1 10 rfl, rfl⟩⟩
theorem mk_83 : qm_ML (8, 233, 100, 1, 7) := ⟨⟨⟨qm_in6 26 rfl, rfl⟩, ⟨qm_in6 27 rfl, rfl⟩⟩, ⟨qm_in1 10 rfl, rfl⟩⟩
theorem mk_84 : qm_ML (8, 240, 105, 0, 3) := ⟨⟨⟨qm_in5 201 rfl, rfl⟩, ⟨qm_in5 203 rfl, rfl⟩, ⟨qm_in0 61 rfl, rfl⟩⟩, ⟨qm_in1 10 rfl, rfl⟩⟩
theorem mk_85 : qm_ML (8, 244, 106, 0, 1) := ⟨⟨⟨qm_in5 205 rfl, rfl⟩, ⟨qm_in5 207 rfl, rfl⟩, ⟨qm_in0 62 rfl, rfl⟩⟩, ⟨qm_in1 10 rfl, rfl⟩⟩
theorem mk_86 : qm_ML (8, 249, 104, 0, 0) := ⟨⟨⟨qm_in5 177 rfl, rfl⟩, ⟨qm_in5 179 rfl, rfl⟩, ⟨qm_in0 58 rfl, rfl⟩⟩, ⟨qm_in1 10 rfl, rfl⟩⟩
theorem mk_87 : qm_ML (8, 255, 107, 0, 1) := ⟨⟨⟨qm_in5 197 rfl, rfl⟩, ⟨qm_in5 199 rfl, rfl⟩, ⟨qm_in0 60 rfl, rfl⟩⟩, ⟨qm_in1 10 rfl, rfl⟩⟩
theorem mk_88 : qm_ML (8, 258, 99, 0, 1) := ⟨⟨⟨qm_in5 210 rfl, rfl⟩, ⟨qm_in5 212 rfl, rfl⟩, ⟨qm_in0 63 rfl, rfl⟩⟩, ⟨qm_in1 10 rfl, rfl⟩⟩
theorem mk_89 : qm_ML (8, 261, 108, 0, 0) := ⟨⟨⟨qm_in5 173 rfl, rfl⟩, ⟨qm_in5 175 rfl, rfl⟩, ⟨qm_in0 57 rfl, rfl⟩⟩, ⟨qm_in1 10 rfl, rfl⟩⟩
theorem mk_90 : qm_ML (8, 264, 109, 0, 0) := ⟨⟨⟨qm_in5 154 rfl, rfl⟩, ⟨qm_in5 156 rfl, rfl⟩, ⟨qm_in0 54 rfl, rfl⟩⟩, ⟨qm_in1 10 rfl, rfl⟩⟩
theorem mk_91 : qm_ML (8, 267, 64, 0, 4) := ⟨⟨⟨qm_in6 53 rfl, rfl⟩, ⟨qm_in5 81 rfl, rfl⟩, ⟨qm_in5 82 rfl, rfl⟩⟩, ⟨qm_in1 10 rfl, rfl⟩⟩
theorem mk_92 : qm_ML (8, 275, 114, 1, 1) := ⟨⟨⟨qm_in6 89 rfl, rfl⟩, ⟨qm_in6 90 rfl, rfl⟩⟩, ⟨qm_in1 10 rfl, rfl⟩⟩
theorem mk_93 : qm_ML (8, 279, 115, 1, 3) := ⟨⟨⟨qm_in6 86 rfl, rfl⟩, ⟨qm_in6 87 rfl, rfl⟩⟩, ⟨qm_in1 10 rfl, rfl⟩⟩
theorem mk_94 : qm_ML (8, 283, 116, 1, 3) := ⟨⟨⟨qm_in6 94 rfl, rfl⟩, ⟨qm_in6 95 rfl, rfl⟩⟩, ⟨qm_in1 10 rfl, rfl⟩⟩
theorem mk_95 : qm_ML (8, 287, 118, 0, 0) := ⟨⟨⟨qm_in6 78 rfl, rfl⟩, ⟨qm_in6 80 rfl, rfl⟩, ⟨qm_in0 84 rfl, rfl⟩⟩, ⟨qm_in1 10 rfl, rfl⟩⟩
theorem mk_96 : qm_ML (8, 290, 119, 0, 1) := ⟨⟨⟨qm_in6 74 rfl, rfl⟩, ⟨qm_in6 76 rfl, rfl⟩, ⟨qm_in0 83 rfl, rfl⟩⟩, ⟨qm_in1 10 rfl, rfl⟩⟩
theorem mk_97 : qm_ML (8, 293, 117, 0, 1) := ⟨⟨⟨qm_in6 82 rfl, rfl⟩, ⟨qm_in6 84 rfl, rfl⟩, ⟨qm_in0 85 rfl, rfl⟩⟩, ⟨qm_in1 10 rfl, rfl⟩⟩
theorem mk_98 : qm_ML (8, 296, 58, 1, 3) := ⟨⟨⟨qm_in6 97 rfl, rfl⟩, ⟨qm_in6 98 rfl, rfl⟩⟩, ⟨qm_in1 10 rfl, rfl⟩⟩
theorem mk_99 : qm_ML (8, 300, 121, 0, 2) := ⟨⟨⟨qm_in6 66 rfl, rfl⟩, ⟨qm_in6 68 rfl, rfl⟩, ⟨qm_in0 81 rfl, rfl⟩⟩, ⟨qm_in1 10 rfl, rfl⟩⟩
theorem mk_100 : qm_ML (8, 303, 122, 0, 2) := ⟨⟨⟨qm_in6 62 rfl, rfl⟩, ⟨qm_in6 64 rfl, rfl⟩, ⟨qm_in0 80 rfl, rfl⟩⟩, ⟨qm_in1 10 rfl, rfl⟩⟩
theorem mk_101 : qm_ML (8, 306, 120, 0, 4) := ⟨⟨⟨qm_in6 70 rfl, rfl⟩, ⟨qm_in6 72 rfl, rfl⟩, ⟨qm_in0 82 rfl, rfl⟩⟩, ⟨qm_in1 10 rfl, rfl⟩⟩
theorem mk_102 : qm_ML (8, 309, 123, 0, 2) := ⟨⟨⟨qm_in6 58 rfl, rfl⟩, ⟨qm_in6 60 rfl, rfl⟩, ⟨qm_in0 79 rfl, rfl⟩⟩, ⟨qm_in1 10 rfl, rfl⟩⟩
theorem mk_103 : qm_ML (8, 312, 126, 0, 1) := ⟨⟨⟨qm_in6 112 rfl, rfl⟩, ⟨qm_in6 114 rfl, rfl⟩, ⟨qm_in0 88 rfl, rfl⟩⟩, ⟨qm_in1 10 rfl, rfl⟩⟩
theorem mk_104 : qm_ML (8, 315, 125, 0, 2) := ⟨⟨⟨qm_in6 104 rfl, rfl⟩, ⟨qm_in6 106 rfl, rfl⟩, ⟨qm_in0 87 rfl, rfl⟩⟩, ⟨qm_in1 10 rfl, rfl⟩⟩
theorem mk_105 : qm_ML (8, 318, 124, 0, 2) := ⟨⟨⟨qm_in6 100 rfl, rfl⟩, ⟨qm_in6 102 rfl, rfl⟩, ⟨qm_in0 86 rfl, rfl⟩⟩, ⟨qm_in1 10 rfl, rfl⟩⟩
theorem mk_106 : qm_ML (8, 325, 130, 0, 2) := ⟨⟨⟨qm_in6 142 rfl, rfl⟩, ⟨qm_in6 144 rfl, rfl⟩, ⟨qm_in0 95 rfl, rfl⟩⟩, ⟨qm_in1 10 rfl, rfl⟩⟩
theorem mk_107 : qm_ML (8, 328, 127, 0, 0) := ⟨⟨⟨qm_in6 116 rfl, rfl⟩, ⟨qm_in6 118 rfl, rfl⟩, ⟨qm_in0 89 rfl, rfl⟩⟩, ⟨qm_in1 10 rfl, rfl⟩⟩
theorem mk_108 : qm_ML (8, 331, 128, 0, 0) := ⟨⟨⟨qm_in6 120 rfl, rfl⟩, ⟨qm_in6 122 rfl, rfl⟩, ⟨qm_in0 90 rfl, rfl⟩⟩, ⟨qm_in1 10 rfl, rfl⟩⟩
theorem mk_109 : qm_ML (8, 334, 63, 0, 0) := ⟨⟨⟨qm_in6 124 rfl, rfl⟩, ⟨qm_in6 126 rfl, rfl⟩, ⟨qm_in0 91 rfl, rfl⟩⟩, ⟨qm_in1 10 rfl, rfl⟩⟩
theorem mk_110 : qm_ML (8, 337, 129, 0, 0) := ⟨⟨⟨qm_in6 128 rfl, rfl⟩, ⟨qm_in6 130 rfl, rfl⟩, ⟨qm_in0 92 rfl, rfl⟩⟩, ⟨qm_in1 10 rfl, rfl⟩⟩
theorem mk_111 : qm_ML (8, 340, 132, 0, 0) := ⟨⟨⟨qm_in6 132 rfl, rfl⟩, ⟨qm_in6 134 rfl, rfl⟩, ⟨qm_in0 93 rfl, rfl⟩⟩, ⟨qm_in1 10 rfl, rfl⟩⟩
theorem mk_112 : qm_ML (8, 343, 133, 0, 0) := ⟨⟨⟨qm_in6 138 rfl, rfl⟩, ⟨qm_in6 140 rfl, rfl⟩, ⟨qm_in0 94 rfl, rfl⟩⟩, ⟨qm_in1 10 rfl, rfl⟩⟩
theorem mk_113 : qm_ML (8, 347, 135, 0, 3) := ⟨⟨⟨qm_in6 155 rfl, rfl⟩, ⟨qm_in6 157 rfl, rfl⟩, ⟨qm_in0 97 rfl, rfl⟩⟩, ⟨qm_in1 10 rfl, rfl⟩⟩
theorem mk_114 : qm_ML (8, 353, 136, 0, 1) := ⟨⟨⟨qm_in6 151 rfl, rfl⟩, ⟨qm_in6 153 rfl, rfl⟩, ⟨qm_in0 96 rfl, rfl⟩⟩, ⟨qm_in1 10 rfl, rfl⟩⟩
theorem mk_115 : qm_ML (8, 356, 138, 0, 2) := ⟨⟨⟨qm_in6 167 rfl, rfl⟩, ⟨qm_in6 169 rfl, rfl⟩, ⟨qm_in0 99 rfl, rfl⟩⟩, ⟨qm_in1 10 rfl, rfl⟩⟩
theorem mk_116 : qm_ML (8, 359, 139, 0, 0) := ⟨⟨⟨qm_in6 163 rfl, rfl⟩, ⟨qm_in6 165 rfl, rfl⟩, ⟨qm_in0 98 rfl, rfl⟩⟩, ⟨qm_in1 10 rfl, rfl⟩⟩
theorem mk_117 : qm_ML (8, 365, 141, 0, 1) := ⟨⟨⟨qm_in6 187 rfl, rfl⟩, ⟨qm_in6 189 rfl, rfl⟩, ⟨qm_in0 103 rfl, rfl⟩⟩, ⟨qm_in1 10 rfl, rfl⟩⟩
theorem mk_118 : qm_ML (8, 70, 56, 0, 2) := ⟨⟨⟨qm_in4 204 rfl, rfl⟩, ⟨qm_in4 206 rfl, rfl⟩, ⟨qm_in0 46 rfl, rfl⟩⟩, ⟨qm_in1 10 rfl, rfl⟩⟩
theorem mk_119 : qm_ML (8, 368, 144, 0, 1) := ⟨⟨⟨qm_in6 183 rfl, rfl⟩, ⟨qm_in6 185 rfl, rfl⟩, ⟨qm_in0 102 rfl, rfl⟩⟩, ⟨qm_in1 10 rfl, rfl⟩⟩
theorem mk_120 : qm_ML (8, 371, 143, 0, 2) := ⟨⟨⟨qm_in6 191 rfl, rfl⟩, ⟨qm_in6 193 rfl, rfl⟩, ⟨qm_in0 104 rfl, rfl⟩⟩, ⟨qm_in1 10 rfl, rfl⟩⟩
theorem mk_121 : qm_ML (8, 374, 142, 0, 2) := ⟨⟨⟨qm_in6 175 rfl, rfl⟩, ⟨qm_in6 177 rfl, rfl⟩, ⟨qm_in0 100 rfl, rfl⟩⟩, ⟨qm_in1 10 rfl, rfl⟩⟩
theorem mk_122 : qm_ML (8, 377, 145, 0, 1) := ⟨⟨⟨qm_in6 179 rfl, rfl⟩, ⟨qm_in6 181 rfl, rfl⟩, ⟨qm_in0 101 rfl, rfl⟩⟩, ⟨qm_in1 10 rfl, rfl⟩⟩
theorem mk_123 : qm_ML (8, 380, 147, 0, 1) := ⟨⟨⟨qm_in6 203 rfl, rfl⟩, ⟨qm_in6 205 rfl, rfl⟩, ⟨qm_in0 106 rfl, rfl⟩⟩, ⟨qm_in1 10 rfl, rfl⟩⟩
theorem mk_124 : qm_ML (8, 383, 148, 0, 1) := ⟨⟨⟨qm_in6 199 rfl, rfl⟩, ⟨qm_in6 201 rfl, rfl⟩, ⟨qm_in0 105 rfl, rfl⟩⟩, ⟨qm_in1 10 rfl, rfl⟩⟩
theorem mk_125 : qm_ML (8, 386, 149, 1, 1) := ⟨⟨⟨qm_in6 207 rfl, rfl⟩, ⟨qm_in6 208 rfl, rfl⟩⟩, ⟨qm_in1 10 rfl, rfl⟩⟩
theorem mk_126 : qm_ML (8, 390, 151, 0, 3) := ⟨⟨⟨qm_in6 214 rfl, rfl⟩, ⟨qm_in6 216 rfl, rfl⟩, ⟨qm_in0 107 rfl, rfl⟩⟩, ⟨qm_in1 10 rfl, rfl⟩⟩
theorem mk_127 : qm_ML (8, 394, 152, 0, 1) := ⟨⟨⟨qm_in6 218 rfl, rfl⟩, ⟨qm_in6 220 rfl, rfl⟩, ⟨qm_in0 108 rfl, rfl⟩⟩, ⟨qm_in1 10 rfl, rfl⟩⟩
theorem mk_128 : qm_ML (8, 397, 153, 0, 1) := ⟨⟨⟨qm_in6 222 rfl, rfl⟩, ⟨qm_in6 224 rfl, rfl⟩, ⟨qm_in0 109 rfl, rfl⟩⟩, ⟨qm_in1 10 rfl, rfl⟩⟩
theorem mk_129 : qm_ML (8, 401, 159, 0, 1) := ⟨⟨⟨qm_in7 7 rfl, rfl⟩, ⟨qm_in7 9 rfl, rfl⟩, ⟨qm_in0 110 rfl, rfl⟩⟩, ⟨qm_in1 10 rfl, rfl⟩⟩
theorem mk_130 : qm_ML (0, 22, 225, 0, 1) := ⟨⟨⟨qm_in3 158 rfl, rfl⟩, ⟨qm_in3 47 rfl, rfl⟩, ⟨qm_in3 48 rfl, rfl⟩⟩, ⟨qm_in1 2 rfl, rfl⟩⟩
theorem mk_131 : qm_ML (0, 28, 178, 0, 3) := ⟨⟨⟨qm_in3 159 rfl, rfl⟩, ⟨qm_in3 161 rfl, rfl⟩, ⟨qm_in0 25 rfl, rfl⟩⟩, ⟨qm_in1 3 rfl, rfl⟩⟩
theorem mk_132 : qm_ML (0, 32, 179, 0, 1) := ⟨⟨⟨qm_in3 178 rfl, rfl⟩, ⟨qm_in3 180 rfl, rfl⟩, ⟨qm_in0 26 rfl, rfl⟩⟩, ⟨qm_in1 3 rfl, rfl⟩⟩
theorem mk_133 : qm_ML (0, 35, 182, 1, 3) := ⟨⟨⟨qm_in3 198 rfl, rfl⟩, ⟨qm_in3 199 rfl, rfl⟩⟩, ⟨qm_in1 3 rfl, rfl⟩⟩
theorem mk_134 : qm_ML (0, 39, 54, 3, 2) := ⟨⟨List.mem_of_getElem? (i := 1) rfl, ⟨qm_in2 128 rfl, rfl⟩⟩, ⟨qm_in1 1 rfl, rfl⟩⟩
theorem mk_135 : qm_ML (0, 61, 194, 0, 0) := ⟨⟨⟨qm_in3 228 rfl, rfl⟩, ⟨qm_in3 229 rfl, rfl⟩, ⟨qm_in3 230 rfl, rfl⟩⟩, ⟨qm_in1 8 rfl, rfl⟩⟩
theorem mk_136 : qm_ML (0, 71, 166, 0, 3) := ⟨⟨⟨qm_in3 218 rfl, rfl⟩, ⟨qm_in3 155 rfl, rfl⟩, ⟨qm_in3 156 rfl, rfl⟩⟩, ⟨qm_in1 3 rfl, rfl⟩⟩
theorem mk_137 : qm_ML (0, 75, 170, 0, 2) := ⟨⟨⟨qm_in3 223 rfl, rfl⟩, ⟨qm_in3 215 rfl, rfl⟩, ⟨qm_in3 216 rfl, rfl⟩⟩, ⟨qm_in1 3 rfl, rfl⟩⟩
theorem mk_138 : qm_ML (0, 88, 174, 0, 3) := ⟨⟨⟨qm_in4 12 rfl, rfl⟩, ⟨qm_in4 14 rfl, rfl⟩, ⟨qm_in0 28 rfl, rfl⟩⟩, ⟨qm_in1 3 rfl, rfl⟩⟩
theorem mk_139 : qm_ML (0, 98, 176, 0, 3) := ⟨⟨⟨qm_in4 25 rfl, rfl⟩, ⟨qm_in4 26 rfl, rfl⟩, ⟨qm_in4 27 rfl, rfl⟩⟩, ⟨qm_in1 3 rfl, rfl⟩⟩
theorem mk_140 : qm_ML (0, 102, 185, 0, 0) := ⟨⟨⟨qm_in3 164 rfl, rfl⟩, ⟨qm_in2 119 rfl, rfl⟩, ⟨qm_in2 120 rfl, rfl⟩⟩, ⟨qm_in1 8 rfl, rfl⟩⟩
theorem mk_141 : qm_ML (0, 109, 169, 0, 1) := ⟨⟨⟨qm_in4 36 rfl, rfl⟩, ⟨qm_in3 225 rfl, rfl⟩, ⟨qm_in3 226 rfl, rfl⟩⟩, ⟨qm_in1 3 rfl, rfl⟩⟩
theorem mk_142 : qm_ML (0, 116, 53, 3, 3) := ⟨⟨List.mem_of_getElem? (i := 2) rfl, ⟨qm_in2 113 rfl, rfl⟩⟩, ⟨qm_in1 1 rfl, rfl⟩⟩
theorem mk_143 : qm_ML (0, 134, 177, 0, 3) := ⟨⟨⟨qm_in4 29 rfl, rfl⟩, ⟨qm_in4 31 rfl, rfl⟩, ⟨qm_in0 29 rfl, rfl⟩⟩, ⟨qm_in1 3 rfl, rfl⟩⟩
theorem mk_144 : qm_ML (0, 137, 196, 0, 2) := ⟨⟨⟨qm_in3 170 rfl, rfl⟩, ⟨qm_in3 171 rfl, rfl⟩, ⟨qm_in3 172 rfl, rfl⟩⟩, ⟨qm_in1 8 rfl, rfl⟩⟩
theorem mk_145 : qm_ML (0, 143, 195, 0, 2) := ⟨⟨⟨qm_in3 165 rfl, rfl⟩, ⟨qm_in3 166 rfl, rfl⟩, ⟨qm_in3 167 rfl, rfl⟩⟩, ⟨qm_in1 8 rfl, rfl⟩⟩
theorem mk_146 : qm_ML (0, 150, 197, 0, 1) := ⟨⟨⟨qm_in3 174 rfl, rfl⟩, ⟨qm_in3 175 rfl, rfl⟩, ⟨qm_in3 176 rfl, rfl⟩⟩, ⟨qm_in1 8 rfl, rfl⟩⟩
theorem mk_147 : qm_ML (0, 163, 180, 0, 1) := ⟨⟨⟨qm_in3 182 rfl, rfl⟩, ⟨qm_in3 184 rfl, rfl⟩, ⟨qm_in0 27 rfl, rfl⟩⟩, ⟨qm_in1 3 rfl, rfl⟩⟩
theorem mk_148 : qm_ML (0, 166, 181, 1, 3) := ⟨⟨⟨qm_in3 187 rfl, rfl⟩, ⟨qm_in3 188 rfl, rfl⟩⟩, ⟨qm_in1 3 rfl, rfl⟩⟩
theorem mk_149 : qm_ML (1, 58, 53, 3, 3) := ⟨⟨List.mem_of_getElem? (i := 3) rfl, ⟨qm_in2 113 rfl, rfl⟩⟩, ⟨qm_in1 1 rfl, rfl⟩⟩
theorem mk_150 : qm_ML (1, 62, 54, 3, 2) := ⟨⟨List.mem_of_getElem? (i := 4) rfl, ⟨qm_in2 128 rfl, rfl⟩⟩, ⟨qm_in1 1 rfl, rfl⟩⟩
theorem mk_151 : qm_ML (1, 66, 186, 0, 2) := ⟨⟨⟨qm_in4 53 rfl, rfl⟩, ⟨qm_in2 135 rfl, rfl⟩, ⟨qm_in2 136 rfl, rfl⟩⟩, ⟨qm_in1 8 rfl, rfl⟩⟩
theorem mk_152 : qm_ML (1, 70, 190, 0, 1) := ⟨⟨⟨qm_in4 54 rfl, rfl⟩, ⟨qm_in4 56 rfl, rfl⟩, ⟨qm_in0 31 rfl, rfl⟩⟩, ⟨qm_in1 8 rfl, rfl⟩⟩
theorem mk_153 : qm_ML (1, 74, 52, 3, 1) := ⟨⟨List.mem_of_getElem? (i := 5) rfl, ⟨qm_in3 208 rfl, rfl⟩⟩, ⟨qm_in1 1 rfl, rfl⟩⟩
theorem mk_154 : qm_ML (1, 83, 185, 0, 0) := ⟨⟨⟨qm_in3 169 rfl, rfl⟩, ⟨qm_in2 119 rfl, rfl⟩, ⟨qm_in2 120 rfl, rfl⟩⟩, ⟨qm_in1 8 rfl, rfl⟩⟩
theorem mk_155 : qm_ML (2, 35, 229, 0, 2) := ⟨⟨⟨qm_in2 186 rfl, rfl⟩, ⟨qm_in2 187 rfl, rfl⟩, ⟨qm_in2 188 rfl, rfl⟩⟩, ⟨qm_in1 5 rfl, rfl⟩⟩
theorem mk_156 : qm_ML (2, 39, 222, 0, 0) := ⟨⟨⟨qm_in3 29 rfl, rfl⟩, ⟨qm_in3 30 rfl, rfl⟩, ⟨qm_in3 31 rfl, rfl⟩⟩, ⟨qm_in1 2 rfl, rfl⟩⟩
theorem mk_157 : qm_ML (2, 44, 200, 0, 0) := ⟨⟨⟨qm_in3 33 rfl, rfl⟩, ⟨qm_in3 35 rfl, rfl⟩, ⟨qm_in0 6 rfl, rfl⟩⟩, ⟨qm_in1 4 rfl, rfl⟩⟩
theorem mk_158 : qm_ML (2, 48, 206, 0, 1) := ⟨⟨⟨qm_in3 37 rfl, rfl⟩, ⟨qm_in3 39 rfl, rfl⟩, ⟨qm_in0 7 rfl, rfl⟩⟩, ⟨qm_in1 4 rfl, rfl⟩⟩
theorem mk_159 : qm_ML (2, 63, 202, 0, 0) := ⟨⟨⟨qm_in3 58 rfl, rfl⟩, ⟨qm_in3 60 rfl, rfl⟩, ⟨qm_in0 9 rfl, rfl⟩⟩, ⟨qm_in1 4 rfl, rfl⟩⟩
theorem mk_160 : qm_ML (2, 66, 203, 0, 1) := ⟨⟨⟨qm_in3 42 rfl, rfl⟩, ⟨qm_in3 44 rfl, rfl⟩, ⟨qm_in0 8 rfl, rfl⟩⟩, ⟨qm_in1 4 rfl, rfl⟩⟩
theorem mk_161 : qm_ML (2, 69, 224, 0, 1) := ⟨⟨⟨qm_in3 78 rfl, rfl⟩, ⟨qm_in3 79 rfl, rfl⟩, ⟨qm_in3 80 rfl, rfl⟩⟩, ⟨qm_in1 2 rfl, rfl⟩⟩
theorem mk_162 : qm_ML (2, 72, 53, 3, 3) := ⟨⟨List.mem_of_getElem? (i := 6) rfl, ⟨qm_in2 113 rfl, rfl⟩⟩, ⟨qm_in1 1 rfl, rfl⟩⟩
theorem mk_163 : qm_ML (2, 76, 225, 0, 1) := ⟨⟨⟨qm_in3 46 rfl, rfl⟩, ⟨qm_in3 47 rfl, rfl⟩, ⟨qm_in3 48 rfl, rfl⟩⟩, ⟨qm_in1 2 rfl, rfl⟩⟩
theorem mk_164 : qm_ML (2, 80, 223, 0, 1) := ⟨⟨⟨qm_in3 54 rfl, rfl⟩, ⟨qm_in3 55 rfl, rfl⟩, ⟨qm_in3 56 rfl, rfl⟩⟩, ⟨qm_in1 2 rfl, rfl⟩⟩
theorem mk_165 : qm_ML (2, 84, 207, 0, 0) := ⟨⟨⟨qm_in3 62 rfl, rfl⟩, ⟨qm_in3 64 rfl, rfl⟩, ⟨qm_in0 10 rfl, rfl⟩⟩, ⟨qm_in1 4 rfl, rfl⟩⟩
theorem mk_166 : qm_ML (2, 87, 209, 0, 2) := ⟨⟨⟨qm_in3 86 rfl, rfl⟩, ⟨qm_in3 88 rfl, rfl⟩, ⟨qm_in0 15 rfl, rfl⟩⟩, ⟨qm_in1 4 rfl, rfl⟩⟩
theorem mk_167 : qm_ML (2, 91, 204, 0, 1) := ⟨⟨⟨qm_in3 82 rfl, rfl⟩, ⟨qm_in3 84 rfl, rfl⟩, ⟨qm_in0 14 rfl, rfl⟩⟩, ⟨qm_in1 4 rfl, rfl⟩⟩
theorem mk_168 : qm_ML (2, 94, 208, 0, 2) := ⟨⟨⟨qm_in3 66 rfl, rfl⟩, ⟨qm_in3 68 rfl, rfl⟩, ⟨qm_in0 11 rfl, rfl⟩⟩, ⟨qm_in1 4 rfl, rfl⟩⟩
theorem mk_169 : qm_ML (2, 97, 201, 0, 0) := ⟨⟨⟨qm_in3 70 rfl, rfl⟩, ⟨qm_in3 72 rfl, rfl⟩, ⟨qm_in0 12 rfl, rfl⟩⟩, ⟨qm_in1 4 rfl, rfl⟩⟩
theorem mk_170 : qm_ML (2, 100, 205, 0, 1) := ⟨⟨⟨qm_in3 74 rfl, rfl⟩, ⟨qm_in3 76 rfl, rfl⟩, ⟨qm_in0 13 rfl, rfl⟩⟩, ⟨qm_in1 4 rfl, rfl⟩⟩
theorem mk_171 : qm_ML (2, 101, 211, 0, 1) := ⟨⟨⟨qm_in3 90 rfl, rfl⟩, ⟨qm_in3 92 rfl, rfl⟩, ⟨qm_in0 16 rfl, rfl⟩⟩, ⟨qm_in1 4 rfl, rfl⟩⟩
theorem mk_172 : qm_ML (2, 104, 213, 0, 1) := ⟨⟨⟨qm_in3 98 rfl, rfl⟩, ⟨qm_in3 100 rfl, rfl⟩, ⟨qm_in0 18 rfl, rfl⟩⟩, ⟨qm_in1 4 rfl, rfl⟩⟩
theorem mk_173 : qm_ML (2, 107, 210, 1, 1) := ⟨⟨⟨qm_in3 114 rfl, rfl⟩, ⟨qm_in3 115 rfl, rfl⟩⟩, ⟨qm_in1 4 rfl, rfl⟩⟩
theorem mk_174 : qm_ML (2, 110, 212, 0, 1) := ⟨⟨⟨qm_in3 94 rfl, rfl⟩, ⟨qm_in3 96 rfl, rfl⟩, ⟨qm_in0 17 rfl, rfl⟩⟩, ⟨qm_in1 4 rfl, rfl⟩⟩
theorem mk_175 : qm_ML (2, 113, 214, 0, 1) := ⟨⟨⟨qm_in3 102 rfl, rfl⟩, ⟨qm_in3 104 rfl, rfl⟩, ⟨qm_in0 19 rfl, rfl⟩⟩, ⟨qm_in1 4 rfl, rfl⟩⟩
theorem mk_176 : qm_ML (2, 116, 216, 0, 2) := ⟨⟨⟨qm_in3 110 rfl, rfl⟩, ⟨qm_in3 112 rfl, rfl⟩, ⟨qm_in0 21 rfl, rfl⟩⟩, ⟨qm_in1 4 rfl, rfl⟩⟩
theorem mk_177 : qm_ML (2, 119, 215, 0, 1) := ⟨⟨⟨qm_in3 106 rfl, rfl⟩, ⟨qm_in3 108 rfl, rfl⟩, ⟨qm_in0 20 rfl, rfl⟩⟩, ⟨qm_in1 4 rfl, rfl⟩⟩
theorem mk_178 : qm_ML (3, 34, 184, 0, 1) := ⟨⟨⟨qm_in4 70 rfl, rfl⟩, ⟨qm_in4 71 rfl, rfl⟩, ⟨qm_in4 72 rfl, rfl⟩⟩, ⟨qm_in1 8 rfl, rfl⟩⟩
theorem mk_179 : qm_ML (3, 38, 220, 0, 2) := ⟨⟨⟨qm_in4 81 rfl, rfl⟩, ⟨qm_in4 83 rfl, rfl⟩, ⟨qm_in0 34 rfl, rfl⟩⟩, ⟨qm_in1 9 rfl, rfl⟩⟩
theorem mk_180 : qm_ML (3, 48, 167, 0, 3) := ⟨⟨⟨qm_in4 86 rfl, rfl⟩, ⟨qm_in3 204 rfl, rfl⟩, ⟨qm_in3 205 rfl, rfl⟩⟩, ⟨qm_in1 3 rfl, rfl⟩⟩
theorem mk_181 : qm_ML (3, 54, 189, 0, 2) := ⟨⟨⟨qm_in4 87 rfl, rfl⟩, ⟨qm_in4 50 rfl, rfl⟩, ⟨qm_in4 51 rfl, rfl⟩⟩, ⟨qm_in1 8 rfl, rfl⟩⟩
theorem mk_182 : qm_ML (3, 62, 175, 0, 3) := ⟨⟨⟨qm_in4 88 rfl, rfl⟩, ⟨qm_in4 22 rfl, rfl⟩, ⟨qm_in4 23 rfl, rfl⟩⟩, ⟨qm_in1 3 rfl, rfl⟩⟩
theorem mk_183 : qm_ML (3, 66, 219, 0, 5) := ⟨⟨⟨qm_in4 89 rfl, rfl⟩, ⟨qm_in4 79 rfl, rfl⟩, ⟨qm_in0 33 rfl, rfl⟩⟩, ⟨qm_in1 9 rfl, rfl⟩⟩
theorem mk_184 : qm_ML (4, 34, 227, 1, 1) := ⟨⟨⟨qm_in3 50 rfl, rfl⟩, ⟨qm_in3 51 rfl, rfl⟩⟩, ⟨qm_in1 2 rfl, rfl⟩⟩
theorem mk_185 : qm_ML (4, 38, 53, 3, 3) := ⟨⟨List.mem_of_getElem? (i := 7) rfl, ⟨qm_in2 113 rfl, rfl⟩⟩, ⟨qm_in1 1 rfl, rfl⟩⟩
theorem mk_186 : qm_ML (5, 25, 236, 1, 1) := ⟨⟨⟨qm_in2 190 rfl, rfl⟩, ⟨qm_in2 191 rfl, rfl⟩⟩, ⟨qm_in1 5 rfl, rfl⟩⟩
theorem mk_187 : qm_ML (5, 29, 231, 0, 3) := ⟨⟨⟨qm_in2 194 rfl, rfl⟩, ⟨qm_in2 196 rfl, rfl⟩, ⟨qm_in0 2 rfl, rfl⟩⟩, ⟨qm_in1 5 rfl, rfl⟩⟩
theorem mk_188 : qm_ML (5, 33, 237, 1, 1) := ⟨⟨⟨qm_in3 14 rfl, rfl⟩, ⟨qm_in3 15 rfl, rfl⟩⟩, ⟨qm_in1 5 rfl, rfl⟩⟩
theorem mk_189 : qm_ML (5, 36, 233, 0, 3) := ⟨⟨⟨qm_in3 17 rfl, rfl⟩, ⟨qm_in3 19 rfl, rfl⟩, ⟨qm_in0 4 rfl, rfl⟩⟩, ⟨qm_in1 5 rfl, rfl⟩⟩
theorem mk_190 : qm_ML (5, 39, 234, 0, 3) := ⟨⟨⟨qm_in3 22 rfl, rfl⟩, ⟨qm_in3 24 rfl, rfl⟩, ⟨qm_in0 5 rfl, rfl⟩⟩, ⟨qm_in1 5 rfl, rfl⟩⟩
theorem mk_191 : qm_ML (5, 42, 230, 0, 3) := ⟨⟨⟨qm_in3 10 rfl, rfl⟩, ⟨qm_in3 12 rfl, rfl⟩, ⟨qm_in0 3 rfl, rfl⟩⟩, ⟨qm_in1 5 rfl, rfl⟩⟩
theorem mk_192 : qm_ML (5, 46, 232, 1, 3) := ⟨⟨⟨qm_in2 198 rfl, rfl⟩, ⟨qm_in2 199 rfl, rfl⟩⟩, ⟨qm_in1 5 rfl, rfl⟩⟩
theorem mk_193 : qm_ML (5, 67, 235, 1, 1) := ⟨⟨⟨qm_in3 26 rfl, rfl⟩, ⟨qm_in3 27 rfl, rfl⟩⟩, ⟨qm_in1 5 rfl, rfl⟩⟩
theorem mk_194 : qm_ML (5, 71, 53, 3, 3) := ⟨⟨List.mem_of_getElem? (i := 8) rfl, ⟨qm_in2 113 rfl, rfl⟩⟩, ⟨qm_in1 1 rfl, rfl⟩⟩
theorem mk_195 : qm_ML (6, 59, 184, 0, 1) := ⟨⟨⟨qm_in4 185 rfl, rfl⟩, ⟨qm_in4 71 rfl, rfl⟩, ⟨qm_in4 72 rfl, rfl⟩⟩, ⟨qm_in1 8 rfl, rfl⟩⟩
theorem mk_196 : qm_ML (9, 21, 1, 0, 4) := ⟨⟨⟨qm_in2 105 rfl, rfl⟩, ⟨qm_in2 106 rfl, rfl⟩, ⟨qm_in2 107 rfl, rfl⟩⟩, ⟨qm_in1 1 rfl, rfl⟩⟩
theorem mk_197 : qm_ML (9, 25, 64, 0, 4) := ⟨⟨⟨qm_in5 80 rfl, rfl⟩, ⟨qm_in5 81 rfl, rfl⟩, ⟨qm_in5 82 rfl, rfl⟩⟩, ⟨qm_in1 10 rfl, rfl⟩⟩
theorem mk_198 : qm_ML (9, 26, 2, 0, 3) := ⟨⟨⟨qm_in2 130 rfl, rfl⟩, ⟨qm_in2 131 rfl, rfl⟩, ⟨qm_in2 132 rfl, rfl⟩⟩, ⟨qm_in1 1 rfl, rfl⟩⟩
theorem mk_199 : qm_ML (9, 30, 66, 0, 3) := ⟨⟨⟨qm_in5 103 rfl, rfl⟩, ⟨qm_in5 104 rfl, rfl⟩, ⟨qm_in5 105 rfl, rfl⟩⟩, ⟨qm_in1 10 rfl, rfl⟩⟩
theorem mk_200 : qm_ML (9, 31, 3, 0, 4) := ⟨⟨⟨qm_in2 139 rfl, rfl⟩, ⟨qm_in2 140 rfl, rfl⟩, ⟨qm_in2 141 rfl, rfl⟩⟩, ⟨qm_in1 1 rfl, rfl⟩⟩
theorem mk_201 : qm_ML (9, 35, 68, 0, 4) := ⟨⟨⟨qm_in5 111 rfl, rfl⟩, ⟨qm_in5 112 rfl, rfl⟩, ⟨qm_in5 113 rfl, rfl⟩⟩, ⟨qm_in1 10 rfl, rfl⟩⟩
theorem mk_202 : qm_ML (9, 36, 4, 0, 3) := ⟨⟨⟨qm_in2 146 rfl, rfl⟩, ⟨qm_in2 147 rfl, rfl⟩, ⟨qm_in2 148 rfl, rfl⟩⟩, ⟨qm_in1 1 rfl, rfl⟩⟩
theorem mk_203 : qm_ML (9, 40, 69, 0, 3) := ⟨⟨⟨qm_in5 118 rfl, rfl⟩, ⟨qm_in5 119 rfl, rfl⟩, ⟨qm_in5 120 rfl, rfl⟩⟩, ⟨qm_in1 10 rfl, rfl⟩⟩
theorem mk_204 : qm_ML (9, 41, 5, 0, 4) := ⟨⟨⟨qm_in2 150 rfl, rfl⟩, ⟨qm_in2 151 rfl, rfl⟩, ⟨qm_in2 152 rfl, rfl⟩⟩, ⟨qm_in1 1 rfl, rfl⟩⟩
theorem mk_205 : qm_ML (9, 44, 70, 0, 4) := ⟨⟨⟨qm_in5 122 rfl, rfl⟩, ⟨qm_in5 123 rfl, rfl⟩, ⟨qm_in5 124 rfl, rfl⟩⟩, ⟨qm_in1 10 rfl, rfl⟩⟩
theorem mk_206 : qm_ML (9, 45, 6, 0, 2) := ⟨⟨⟨qm_in2 154 rfl, rfl⟩, ⟨qm_in2 155 rfl, rfl⟩, ⟨qm_in2 156 rfl, rfl⟩⟩, ⟨qm_in1 1 rfl, rfl⟩⟩
theorem mk_207 : qm_ML (9, 49, 72, 0, 2) := ⟨⟨⟨qm_in5 126 rfl, rfl⟩, ⟨qm_in5 127 rfl, rfl⟩, ⟨qm_in5 128 rfl, rfl⟩⟩, ⟨qm_in1 10 rfl, rfl⟩⟩
theorem mk_208 : qm_ML (9, 50, 7, 0, 3) := ⟨⟨⟨qm_in2 162 rfl, rfl⟩, ⟨qm_in2 163 rfl, rfl⟩, ⟨qm_in2 164 rfl, rfl⟩⟩, ⟨qm_in1 1 rfl, rfl⟩⟩
theorem mk_209 : qm_ML (9, 54, 73, 0, 3) := ⟨⟨⟨qm_in5 134 rfl, rfl⟩, ⟨qm_in5 135 rfl, rfl⟩, ⟨qm_in5 136 rfl, rfl⟩⟩, ⟨qm_in1 10 rfl, rfl⟩⟩
theorem mk_210 : qm_ML (9, 55, 8, 0, 5) := ⟨⟨⟨qm_in2 166 rfl, rfl⟩, ⟨qm_in2 167 rfl, rfl⟩, ⟨qm_in2 168 rfl, rfl⟩⟩, ⟨qm_in1 1 rfl, rfl⟩⟩
theorem mk_211 : qm_ML (9, 59, 75, 0, 5) := ⟨⟨⟨qm_in5 138 rfl, rfl⟩, ⟨qm_in5 139 rfl, rfl⟩, ⟨qm_in5 140 rfl, rfl⟩⟩, ⟨qm_in1 10 rfl, rfl⟩⟩
theorem mk_212 : qm_ML (9, 60, 10, 0, 1) := ⟨⟨⟨qm_in2 174 rfl, rfl⟩, ⟨qm_in2 175 rfl, rfl⟩, ⟨qm_in2 176 rfl, rfl⟩⟩, ⟨qm_in1 1 rfl, rfl⟩⟩
theorem mk_213 : qm_ML (9, 64, 76, 0, 1) := ⟨⟨⟨qm_in5 146 rfl, rfl⟩, ⟨qm_in5 147 rfl, rfl⟩, ⟨qm_in5 148 rfl, rfl⟩⟩, ⟨qm_in1 10 rfl, rfl⟩⟩
theorem mk_214 : qm_ML (9, 65, 11, 0, 0) := ⟨⟨⟨qm_in2 178 rfl, rfl⟩, ⟨qm_in2 179 rfl, rfl⟩, ⟨qm_in2 180 rfl, rfl⟩⟩, ⟨qm_in1 1 rfl, rfl⟩⟩
theorem mk_215 : qm_ML (9, 69, 110, 0, 0) := ⟨⟨⟨qm_in5 150 rfl, rfl⟩, ⟨qm_in5 151 rfl, rfl⟩, ⟨qm_in5 152 rfl, rfl⟩⟩, ⟨qm_in1 10 rfl, rfl⟩⟩
theorem mk_216 : qm_ML (9, 70, 12, 0, 1) := ⟨⟨⟨qm_in3 118 rfl, rfl⟩, ⟨qm_in3 119 rfl, rfl⟩, ⟨qm_in3 120 rfl, rfl⟩⟩, ⟨qm_in1 1 rfl, rfl⟩⟩
theorem mk_217 : qm_ML (9, 73, 111, 0, 1) := ⟨⟨⟨qm_in6 41 rfl, rfl⟩, ⟨qm_in6 42 rfl, rfl⟩, ⟨qm_in6 43 rfl, rfl⟩⟩, ⟨qm_in1 10 rfl, rfl⟩⟩
theorem mk_218 : qm_ML (9, 74, 13, 0, 1) := ⟨⟨⟨qm_in3 122 rfl, rfl⟩, ⟨qm_in3 123 rfl, rfl⟩, ⟨qm_in3 124 rfl, rfl⟩⟩, ⟨qm_in1 1 rfl, rfl⟩⟩
theorem mk_219 : qm_ML (9, 78, 112, 0, 1) := ⟨⟨⟨qm_in6 45 rfl, rfl⟩, ⟨qm_in6 46 rfl, rfl⟩, ⟨qm_in6 47 rfl, rfl⟩⟩, ⟨qm_in1 10 rfl, rfl⟩⟩
theorem mk_220 : qm_ML (9, 79, 15, 0, 1) := ⟨⟨⟨qm_in3 134 rfl, rfl⟩, ⟨qm_in3 135 rfl, rfl⟩, ⟨qm_in3 136 rfl, rfl⟩⟩, ⟨qm_in1 1 rfl, rfl⟩⟩
theorem mk_221 : qm_ML (9, 82, 113, 0, 1) := ⟨⟨⟨qm_in6 49 rfl, rfl⟩, ⟨qm_in6 50 rfl, rfl⟩, ⟨qm_in6 51 rfl, rfl⟩⟩, ⟨qm_in1 10 rfl, rfl⟩⟩
theorem mk_222 : qm_ML (9, 83, 17, 0, 3) := ⟨⟨⟨qm_in3 150 rfl, rfl⟩, ⟨qm_in3 151 rfl, rfl⟩, ⟨qm_in3 152 rfl, rfl⟩⟩, ⟨qm_in1 1 rfl, rfl⟩⟩
theorem mk_223 : qm_ML (9, 87, 131, 0, 3) := ⟨⟨⟨qm_in6 54 rfl, rfl⟩, ⟨qm_in6 55 rfl, rfl⟩, ⟨qm_in6 56 rfl, rfl⟩⟩, ⟨qm_in1 10 rfl, rfl⟩⟩
theorem mk_224 : qm_ML (9, 88, 18, 0, 1) := ⟨⟨⟨qm_in3 210 rfl, rfl⟩, ⟨qm_in3 211 rfl, rfl⟩, ⟨qm_in3 212 rfl, rfl⟩⟩, ⟨qm_in1 1 rfl, rfl⟩⟩
theorem mk_225 : qm_ML (9, 91, 134, 0, 1) := ⟨⟨⟨qm_in6 108 rfl, rfl⟩, ⟨qm_in6 109 rfl, rfl⟩, ⟨qm_in6 110 rfl, rfl⟩⟩, ⟨qm_in1 10 rfl, rfl⟩⟩
theorem mk_226 : qm_ML (9, 92, 19, 0, 1) := ⟨⟨⟨qm_in4 17 rfl, rfl⟩, ⟨qm_in4 18 rfl, rfl⟩, ⟨qm_in4 19 rfl, rfl⟩⟩, ⟨qm_in1 1 rfl, rfl⟩⟩
theorem mk_227 : qm_ML (9, 95, 137, 0, 1) := ⟨⟨⟨qm_in6 147 rfl, rfl⟩, ⟨qm_in6 148 rfl, rfl⟩, ⟨qm_in6 149 rfl, rfl⟩⟩, ⟨qm_in1 10 rfl, rfl⟩⟩
theorem mk_228 : qm_ML (9, 96, 20, 0, 1) := ⟨⟨⟨qm_in4 37 rfl, rfl⟩, ⟨qm_in4 38 rfl, rfl⟩, ⟨qm_in4 39 rfl, rfl⟩⟩, ⟨qm_in1 1 rfl, rfl⟩⟩
theorem mk_229 : qm_ML (9, 99, 140, 0, 1) := ⟨⟨⟨qm_in6 159 rfl, rfl⟩, ⟨qm_in6 160 rfl, rfl⟩, ⟨qm_in6 161 rfl, rfl⟩⟩, ⟨qm_in1 10 rfl, rfl⟩⟩
theorem mk_230 : qm_ML (9, 100, 22, 0, 2) := ⟨⟨⟨qm_in4 58 rfl, rfl⟩, ⟨qm_in4 59 rfl, rfl⟩, ⟨qm_in4 60 rfl, rfl⟩⟩, ⟨qm_in1 1 rfl, rfl⟩⟩
theorem mk_231 : qm_ML (9, 104, 146, 0, 2) := ⟨⟨⟨qm_in6 171 rfl, rfl⟩, ⟨qm_in6 172 rfl, rfl⟩, ⟨qm_in6 173 rfl, rfl⟩⟩, ⟨qm_in1 10 rfl, rfl⟩⟩
theorem mk_232 : qm_ML (9, 105, 23, 0, 3) := ⟨⟨⟨qm_in4 90 rfl, rfl⟩, ⟨qm_in4 91 rfl, rfl⟩, ⟨qm_in4 92 rfl, rfl⟩⟩, ⟨qm_in1 1 rfl, rfl⟩⟩
theorem mk_233 : qm_ML (9, 108, 150, 0, 3) := ⟨⟨⟨qm_in6 195 rfl, rfl⟩, ⟨qm_in6 196 rfl, rfl⟩, ⟨qm_in6 197 rfl, rfl⟩⟩, ⟨qm_in1 10 rfl, rfl⟩⟩
theorem mk_234 : qm_ML (9, 109, 27, 0, 4) := ⟨⟨⟨qm_in4 110 rfl, rfl⟩, ⟨qm_in4 111 rfl, rfl⟩, ⟨qm_in4 112 rfl, rfl⟩⟩, ⟨qm_in1 1 rfl, rfl⟩⟩
theorem mk_235 : qm_ML (9, 112, 154, 0, 4) := ⟨⟨⟨qm_in6 210 rfl, rfl⟩, ⟨qm_in6 211 rfl, rfl⟩, ⟨qm_in6 212 rfl, rfl⟩⟩, ⟨qm_in1 10 rfl, rfl⟩⟩
theorem mk_236 : qm_ML (9, 113, 28, 0, 2) := ⟨⟨⟨qm_in4 130 rfl, rfl⟩, ⟨qm_in4 131 rfl, rfl⟩, ⟨qm_in4 132 rfl, rfl⟩⟩, ⟨qm_in1 1 rfl, rfl⟩⟩
theorem mk_237 : qm_ML (9, 116, 155, 0, 2) := ⟨⟨⟨qm_in6 226 rfl, rfl⟩, ⟨qm_in6 227 rfl, rfl⟩, ⟨qm_in6 228 rfl, rfl⟩⟩, ⟨qm_in1 10 rfl, rfl⟩⟩
theorem mk_238 : qm_ML (9, 117, 33, 0, 3) := ⟨⟨⟨qm_in4 138 rfl, rfl⟩, ⟨qm_in4 139 rfl, rfl⟩, ⟨qm_in4 140 rfl, rfl⟩⟩, ⟨qm_in1 1 rfl, rfl⟩⟩
theorem mk_239 : qm_ML (9, 120, 156, 0, 3) := ⟨⟨⟨qm_in6 230 rfl, rfl⟩, ⟨qm_in6 231 rfl, rfl⟩, ⟨qm_in6 232 rfl, rfl⟩⟩, ⟨qm_in1 10 rfl, rfl⟩⟩
theorem mk_240 : qm_ML (9, 121, 34, 0, 1) := ⟨⟨⟨qm_in4 143 rfl, rfl⟩, ⟨qm_in4 144 rfl, rfl⟩, ⟨qm_in4 145 rfl, rfl⟩⟩, ⟨qm_in1 1 rfl, rfl⟩⟩
theorem mk_241 : qm_ML (9, 124, 157, 0, 1) := ⟨⟨⟨qm_in6 234 rfl, rfl⟩, ⟨qm_in6 235 rfl, rfl⟩, ⟨qm_in6 236 rfl, rfl⟩⟩, ⟨qm_in1 10 rfl, rfl⟩⟩
theorem mk_242 : qm_ML (9, 125, 37, 0, 0) := ⟨⟨⟨qm_in4 156 rfl, rfl⟩, ⟨qm_in4 157 rfl, rfl⟩, ⟨qm_in4 158 rfl, rfl⟩⟩, ⟨qm_in1 1 rfl, rfl⟩⟩
theorem mk_243 : qm_ML (9, 128, 158, 0, 0) := ⟨⟨⟨qm_in6 239 rfl, rfl⟩, ⟨qm_in7 0 rfl, rfl⟩, ⟨qm_in7 1 rfl, rfl⟩⟩, ⟨qm_in1 10 rfl, rfl⟩⟩
theorem mk_244 : qm_ML (9, 129, 38, 0, 2) := ⟨⟨⟨qm_in4 161 rfl, rfl⟩, ⟨qm_in4 162 rfl, rfl⟩, ⟨qm_in4 163 rfl, rfl⟩⟩, ⟨qm_in1 1 rfl, rfl⟩⟩
theorem mk_245 : qm_ML (9, 132, 160, 0, 2) := ⟨⟨⟨qm_in7 3 rfl, rfl⟩, ⟨qm_in7 4 rfl, rfl⟩, ⟨qm_in7 5 rfl, rfl⟩⟩, ⟨qm_in1 10 rfl, rfl⟩⟩
theorem mk_246 : qm_ML (9, 133, 40, 0, 3) := ⟨⟨⟨qm_in4 169 rfl, rfl⟩, ⟨qm_in4 170 rfl, rfl⟩, ⟨qm_in4 171 rfl, rfl⟩⟩, ⟨qm_in1 1 rfl, rfl⟩⟩
theorem mk_247 : qm_ML (9, 136, 161, 0, 3) := ⟨⟨⟨qm_in7 11 rfl, rfl⟩, ⟨qm_in7 12 rfl, rfl⟩, ⟨qm_in7 13 rfl, rfl⟩⟩, ⟨qm_in1 10 rfl, rfl⟩⟩
theorem mk_248 : qm_ML (9, 137, 42, 0, 0) := ⟨⟨⟨qm_in4 177 rfl, rfl⟩, ⟨qm_in4 178 rfl, rfl⟩, ⟨qm_in4 179 rfl, rfl⟩⟩, ⟨qm_in1 1 rfl, rfl⟩⟩
theorem mk_249 : qm_ML (9, 140, 162, 0, 0) := ⟨⟨⟨qm_in7 15 rfl, rfl⟩, ⟨qm_in7 16 rfl, rfl⟩, ⟨qm_in7 17 rfl, rfl⟩⟩, ⟨qm_in1 10 rfl, rfl⟩⟩
theorem mk_250 : qm_ML (9, 141, 43, 0, 0) := ⟨⟨⟨qm_in4 187 rfl, rfl⟩, ⟨qm_in4 188 rfl, rfl⟩, ⟨qm_in4 189 rfl, rfl⟩⟩, ⟨qm_in1 1 rfl, rfl⟩⟩
theorem mk_251 : qm_ML (9, 144, 163, 0, 0) := ⟨⟨⟨qm_in7 19 rfl, rfl⟩, ⟨qm_in7 20 rfl, rfl⟩, ⟨qm_in7 21 rfl, rfl⟩⟩, ⟨qm_in1 10 rfl, rfl⟩⟩
theorem mk_252 : qm_ML (9, 145, 44, 0, 1) := ⟨⟨⟨qm_in4 191 rfl, rfl⟩, ⟨qm_in4 192 rfl, rfl⟩, ⟨qm_in4 193 rfl, rfl⟩⟩, ⟨qm_in1 1 rfl, rfl⟩⟩
theorem mk_253 : qm_ML (9, 148, 164, 0, 1) := ⟨⟨⟨qm_in7 23 rfl, rfl⟩, ⟨qm_in7 24 rfl, rfl⟩, ⟨qm_in7 25 rfl, rfl⟩⟩, ⟨qm_in1 10 rfl, rfl⟩⟩
theorem qm_mlk_ok_0 : ∀ e ∈ qm_mlk_0, qm_ML e := (List.forall_mem_cons.mpr ⟨mk_0, (List.forall_mem_cons.mpr ⟨mk_1, (List.forall_mem_cons.mpr ⟨mk_2, (List.forall_mem_cons.mpr ⟨mk_3, (List.forall_mem_cons.mpr ⟨mk_4, (List.forall_mem_cons.mpr ⟨mk_5, (List.forall_mem_cons.mpr ⟨mk_6, (List.forall_mem_cons.mpr ⟨mk_7, (List.forall_mem_cons.mpr ⟨mk_8, (List.forall_mem_cons.mpr ⟨mk_9, (List.forall_mem_cons.mpr ⟨mk_10, (List.forall_mem_cons.mpr ⟨mk_11, (List.forall_mem_cons.mpr ⟨mk_12, (List.forall_mem_cons.mpr ⟨mk_13, (List.forall_mem_cons.mpr ⟨mk_14, (List.forall_mem_cons.mpr ⟨mk_15, (List.forall_mem_cons.mpr ⟨mk_16, (List.forall_mem_cons.mpr ⟨mk_17, (List.forall_mem_cons.mpr ⟨mk_18, (List.forall_mem_cons.mpr ⟨mk_19, (List.forall_mem_cons.mpr ⟨mk_20, (List.forall_mem_cons.mpr ⟨mk_21, (List.forall_mem_cons.mpr ⟨mk_22, (List.forall_mem_cons.mpr ⟨mk_23, (fun _ h => absurd h List.not_mem_nil)⟩)⟩)⟩)⟩)⟩)⟩)⟩)⟩)⟩)⟩)⟩)⟩)⟩)⟩)⟩)⟩)⟩)⟩)⟩)⟩)⟩)⟩)⟩)⟩)
theorem qm_mlk_ok_1 : ∀ e ∈ qm_mlk_1, qm_ML e := (List.forall_mem_cons.mpr ⟨mk_24, (List.forall_mem_cons.mpr ⟨mk_25, (List.forall_mem_cons.mpr ⟨mk_26, (List.forall_mem_cons.mpr ⟨mk_27, (List.forall_mem_cons.mpr ⟨mk_28, (List.forall_mem_cons.mpr ⟨mk_29, (List.forall_mem_cons.mpr ⟨mk_30, (List.forall_mem_cons.mpr ⟨mk_31, (List.forall_mem_cons.mpr ⟨mk_32, (List.forall_mem_cons.mpr ⟨mk_33, (List.forall_mem_cons.mpr ⟨mk_34, (List.forall_mem_cons.mpr ⟨mk_35, (List.forall_mem_cons.mpr ⟨mk_36, (List.forall_mem_cons.mpr ⟨mk_37, (List.forall_mem_cons.mpr ⟨mk_38, (List.forall_mem_cons.mpr ⟨mk_39, (List.forall_mem_cons.mpr ⟨mk_40, (List.forall_mem_cons.mpr ⟨mk_41, (List.forall_mem_cons.mpr ⟨mk_42, (List.forall_mem_cons.mpr ⟨mk_43, (List.forall_mem_cons.mpr ⟨mk_44, (List.forall_mem_cons.mpr ⟨mk_45, (List.forall_mem_cons.mpr ⟨mk_46, (List.forall_mem_cons.mpr ⟨mk_47, (fun _ h => absurd h List.not_mem_nil)⟩)⟩)⟩)⟩)⟩)⟩)⟩)⟩)⟩)⟩)⟩)⟩)⟩)⟩)⟩)⟩)⟩)⟩)⟩)⟩)⟩)⟩)⟩)⟩)
theorem qm_mlk_ok_2 : ∀ e ∈ qm_mlk_2, qm_ML e := (List.forall_mem_cons.mpr ⟨mk_48, (List.forall_mem_cons.mpr ⟨mk_49, (List.forall_mem_cons.mpr ⟨mk_50, (List.forall_mem_cons.mpr ⟨mk_51, (List.forall_mem_cons.mpr ⟨mk_52, (List.forall_mem_cons.mpr ⟨mk_53, (List.forall_mem_cons.mpr ⟨mk_54, (List.forall_mem_cons.mpr ⟨mk_55, (List.forall_mem_cons.mpr ⟨mk_56, (List.forall_mem_cons.mpr ⟨mk_57, (List.forall_mem_cons.mpr ⟨mk_58, (List.forall_mem_cons.mpr ⟨mk_59, (List.forall_mem_cons.mpr ⟨mk_60, (List.forall_mem_cons.mpr ⟨mk_61, (List.forall_mem_cons.mpr ⟨mk_62, (List.forall_mem_cons.mpr ⟨mk_63, (List.forall_mem_cons.mpr ⟨mk_64, (List.forall_mem_cons.mpr ⟨mk_65, (List.forall_mem_cons.mpr ⟨mk_66, (List.forall_mem_cons.mpr ⟨mk_67, (List.forall_mem_cons.mpr ⟨mk_68, (List.forall_mem_cons.mpr ⟨mk_69, (List.forall_mem_cons.mpr ⟨mk_70, (List.forall_mem_cons.mpr ⟨mk_71, (fun _ h => absurd h List.not_mem_nil)⟩)⟩)⟩)⟩)⟩)⟩)⟩)⟩)⟩)⟩)⟩)⟩)⟩)⟩)⟩)⟩)⟩)⟩)⟩)⟩)⟩)⟩)⟩)⟩)
theorem qm_mlk_ok_3 : ∀ e ∈ qm_mlk_3, qm_ML e := (List.forall_mem_cons.mpr ⟨mk_72, (List.forall_mem_cons.mpr ⟨mk_73, (List.forall_mem_cons.mpr ⟨mk_74, (List.forall_mem_cons.mpr ⟨mk_75, (List.forall_mem_cons.mpr ⟨mk_76, (List.forall_mem_cons.mpr ⟨mk_77, (List.forall_mem_cons.mpr ⟨mk_78, (List.forall_mem_cons.mpr ⟨mk_79, (List.forall_mem_cons.mpr ⟨mk_80, (List.forall_mem_cons.mpr ⟨mk_81, (List.forall_mem_cons.mpr ⟨mk_82, (List.forall_mem_cons.mpr ⟨mk_83, (List.forall_mem_cons.mpr ⟨mk_84, (List.forall_mem_cons.mpr ⟨mk_85, (List.forall_mem_cons.mpr ⟨mk_86, (List.forall_mem_cons.mpr ⟨mk_87, (List.forall_mem_cons.mpr ⟨mk_88, (List.forall_mem_cons.mpr ⟨mk_89, (List.forall_mem_cons.mpr ⟨mk_90, (List.forall_mem_cons.mpr ⟨mk_91, (List.forall_mem_cons.mpr ⟨mk_92, (List.forall_mem_cons.mpr ⟨mk_93, (List.forall_mem_cons.mpr ⟨mk_94, (List.forall_mem_cons.mpr ⟨mk_95, (fun _ h => absurd h List.not_mem_nil)⟩)⟩)⟩)⟩)⟩)⟩)⟩)⟩)⟩)⟩)⟩)⟩)⟩)⟩)⟩)⟩)⟩)⟩)⟩)⟩)⟩)⟩)⟩)⟩)
theorem qm_mlk_ok_4 : ∀ e ∈ qm_mlk_4, qm_ML e := (List.forall_mem_cons.mpr ⟨mk_96, (List.forall_mem_cons.mpr ⟨mk_97, (List.forall_mem_cons.mpr ⟨mk_98, (List.forall_mem_cons.mpr ⟨mk_99, (List.forall_mem_cons.mpr ⟨mk_100, (List.forall_mem_cons.mpr ⟨mk_101, (List.forall_mem_cons.mpr ⟨mk_102, (List.forall_mem_cons.mpr ⟨mk_103, (List.forall_mem_cons.mpr ⟨mk_104, (List.forall_mem_cons.mpr ⟨mk_105, (List.forall_mem_cons.mpr ⟨mk_106, (List.forall_mem_cons.mpr ⟨mk_107, (List.forall_mem_cons.mpr ⟨mk_108, (List.forall_mem_cons.mpr ⟨mk_109, (List.forall_mem_cons.mpr ⟨mk_110, (List.forall_mem_cons.mpr ⟨mk_111, (List.forall_mem_cons.mpr ⟨mk_112, (List.forall_mem_cons.mpr ⟨mk_113, (List.forall_mem_cons.mpr ⟨mk_114, (List.forall_mem_cons.mpr ⟨mk_115, (List.forall_mem_cons.mpr ⟨mk_116, (List.forall_mem_cons.mpr ⟨mk_117, (List.forall_mem_cons.mpr ⟨mk_118, (List.forall_mem_cons.mpr ⟨mk_119, (fun _ h => absurd h List.not_mem_nil)⟩)⟩)⟩)⟩)⟩)⟩)⟩)⟩)⟩)⟩)⟩)⟩)⟩)⟩)⟩)⟩)⟩)⟩)⟩)⟩)⟩)⟩)⟩)⟩)
theorem qm_mlk_ok_5 : ∀ e ∈ qm_mlk_5, qm_ML e := (List.forall_mem_cons.mpr ⟨mk_120, (List.forall_mem_cons.mpr ⟨mk_121, (List.forall_mem_cons.mpr ⟨mk_122, (List.forall_mem_cons.mpr ⟨mk_123, (List.forall_mem_cons.mpr ⟨mk_124, (List.forall_mem_cons.mpr ⟨mk_125, (List.forall_mem_cons.mpr ⟨mk_126, (List.forall_mem_cons.mpr ⟨mk_127, (List.forall_mem_cons.mpr ⟨mk_128, (List.forall_mem_cons.mpr ⟨mk_129, (List.forall_mem_cons.mpr ⟨mk_130, (List.forall_mem_cons.mpr ⟨mk_131, (List.forall_mem_cons.mpr ⟨mk_132, (List.forall_mem_cons.mpr ⟨mk_133, (List.forall_mem_cons.mpr ⟨mk_134, (List.forall_mem_cons.mpr ⟨mk_135, (List.forall_mem_cons.mpr ⟨mk_136, (List.forall_mem_cons.mpr ⟨mk_137, (List.forall_mem_cons.mpr ⟨mk_138, (List.forall_mem_cons.mpr ⟨mk_139, (List.forall_mem_cons.mpr ⟨mk_140, (List.forall_mem_cons.mpr ⟨mk_141, (List.forall_mem_cons.mpr ⟨mk_142, (List.forall_mem_cons.mpr ⟨mk_143, (fun _ h => absurd h List.not_mem_nil)⟩)⟩)⟩)⟩)⟩)⟩)⟩)⟩)⟩)⟩)⟩)⟩)⟩)⟩)⟩)⟩)⟩)⟩)⟩)⟩)⟩)⟩)⟩)⟩)
theorem qm_mlk_ok_6 : ∀ e ∈ qm_mlk_6, qm_ML e := (List.forall_mem_cons.mpr ⟨mk_144, (List.forall_mem_cons.mpr ⟨mk_145, (List.forall_mem_cons.mpr ⟨mk_146, (List.forall_mem_cons.mpr ⟨mk_147, (List.forall_mem_cons.mpr ⟨mk_148, (List.forall_mem_cons.mpr ⟨mk_149, (List.forall_mem_cons.mpr ⟨mk_150, (List.forall_mem_cons.mpr ⟨mk_151, (List.forall_mem_cons.mpr ⟨mk_152, (List.forall_mem_cons.mpr ⟨mk_153, (List.forall_mem_cons.mpr ⟨mk_154, (List.forall_mem_cons.mpr ⟨mk_155, (List.forall_mem_cons.mpr ⟨mk_156, (List.forall_mem_cons.mpr ⟨mk_157, (List.forall_mem_cons.mpr ⟨mk_158, (List.forall_mem_cons.mpr ⟨mk_159, (List.forall_mem_cons.mpr ⟨mk_160, (List.forall_mem_cons.mpr ⟨mk_161, (List.forall_mem_cons.mpr ⟨mk_162, (List.forall_mem_cons.mpr ⟨mk_163, (List.forall_mem_cons.mpr ⟨mk_164, (List.forall_mem_cons.mpr ⟨mk_165, (List.forall_mem_cons.mpr ⟨mk_166, (List.forall_mem_cons.mpr ⟨mk_167, (fun _ h => absurd h List.not_mem_nil)⟩)⟩)⟩)⟩)⟩)⟩)⟩)⟩)⟩)⟩)⟩)⟩)⟩)⟩)⟩)⟩)⟩)⟩)⟩)⟩)⟩)⟩)⟩)⟩)
theorem qm_mlk_ok_7 : ∀ e ∈ qm_mlk_7, qm_ML e := (List.forall_mem_cons.mpr ⟨mk_168, (List.forall_mem_cons.mpr ⟨mk_169, (List.forall_mem_cons.mpr ⟨mk_170, (List.forall_mem_cons.mpr ⟨mk_171, (List.forall_mem_cons.mpr ⟨mk_172, (List.forall_mem_cons.mpr ⟨mk_173, (List.forall_mem_cons.mpr ⟨mk_174, (List.forall_mem_cons.mpr ⟨mk_175, (List.forall_mem_cons.mpr ⟨mk_176, (List.forall_mem_cons.mpr ⟨mk_177, (List.forall_mem_cons.mpr ⟨mk_178, (List.forall_mem_cons.mpr ⟨mk_179, (List.forall_mem_cons.mpr ⟨mk_180, (List.forall_mem_cons.mpr ⟨mk_181, (List.forall_mem_cons.mpr ⟨mk_182, (List.forall_mem_cons.mpr ⟨mk_183, (List.forall_mem_cons.mpr ⟨mk_184, (List.forall_mem_cons.mpr ⟨mk_185, (List.forall_mem_cons.mpr ⟨mk_186, (List.forall_mem_cons.mpr ⟨mk_187, (List.forall_mem_cons.mpr ⟨mk_188, (List.forall_mem_cons.mpr ⟨mk_189, (List.forall_mem_cons.mpr ⟨mk_190, (List.forall_mem_cons.mpr ⟨mk_191, (fun _ h => absurd h List.not_mem_nil)⟩)⟩)⟩)⟩)⟩)⟩)⟩)⟩)⟩)⟩)⟩)⟩)⟩)⟩)⟩)⟩)⟩)⟩)⟩)⟩)⟩)⟩)⟩)⟩)
theorem qm_mlk_ok_8 : ∀ e ∈ qm_mlk_8, qm_ML e := (List.forall_mem_cons.mpr ⟨mk_192, (List.forall_mem_cons.mpr ⟨mk_193, (List.forall_mem_cons.mpr ⟨mk_194, (List.forall_mem_cons.mpr ⟨mk_195, (List.forall_mem_cons.mpr ⟨mk_196, (List.forall_mem_cons.mpr ⟨mk_197, (List.forall_mem_cons.mpr ⟨mk_198, (List.forall_mem_cons.mpr ⟨mk_199, (List.forall_mem_cons.mpr ⟨mk_200, (List.forall_mem_cons.mpr ⟨mk_201, (List.forall_mem_cons.mpr ⟨mk_202, (List.forall_mem_cons.mpr ⟨mk_203, (List.forall_mem_cons.mpr ⟨mk_204, (List.forall_mem_cons.mpr ⟨mk_205, (List.forall_mem_cons.mpr ⟨mk_206, (List.forall_mem_cons.mpr ⟨mk_207, (List.forall_mem_cons.mpr ⟨mk_208, (List.forall_mem_cons.mpr ⟨mk_209, (List.forall_mem_cons.mpr ⟨mk_210, (List.forall_mem_cons.mpr ⟨mk_211, (List.forall_mem_cons.mpr ⟨mk_212, (List.forall_mem_cons.mpr ⟨mk_213, (List.forall_mem_cons.mpr ⟨mk_214, (List.forall_mem_cons.mpr ⟨mk_215, (fun _ h => absurd h List.not_mem_nil)⟩)⟩)⟩)⟩)⟩)⟩)⟩)⟩)⟩)⟩)⟩)⟩)⟩)⟩)⟩)⟩)⟩)⟩)⟩)⟩)⟩)⟩)⟩)⟩)
theorem qm_mlk_ok_9 : ∀ e ∈ qm_mlk_9, qm_ML e := (List.forall_mem_cons.mpr ⟨mk_216, (List.forall_mem_cons.mpr ⟨mk_217, (List.forall_mem_cons.mpr ⟨mk_218, (List.forall_mem_cons.mpr ⟨mk_219, (List.forall_mem_cons.mpr ⟨mk_220, (List.forall_mem_cons.mpr ⟨mk_221, (List.forall_mem_cons.mpr ⟨mk_222, (List.forall_mem_cons.mpr ⟨mk_223, (List.forall_mem_cons.mpr ⟨mk_224, (List.forall_mem_cons.mpr ⟨mk_225, (List.forall_mem_cons.mpr ⟨mk_226, (List.forall_mem_cons.mpr ⟨mk_227, (List.forall_mem_cons.mpr ⟨mk_228, (List.forall_mem_cons.mpr ⟨mk_229, (List.forall_mem_cons.mpr ⟨mk_230, (List.forall_mem_cons.mpr ⟨mk_231, (List.forall_mem_cons.mpr ⟨mk_232, (List.forall_mem_cons.mpr ⟨mk_233, (List.forall_mem_cons.mpr ⟨mk_234, (List.forall_mem_cons.mpr ⟨mk_235, (List.forall_mem_cons.mpr ⟨mk_236, (List.forall_mem_cons.mpr ⟨mk_237, (List.forall_mem_cons.mpr ⟨mk_238, (List.forall_mem_cons.mpr ⟨mk_239, (fun _ h => absurd h List.not_mem_nil)⟩)⟩)⟩)⟩)⟩)⟩)⟩)⟩)⟩)⟩)⟩)⟩)⟩)⟩)⟩)⟩)⟩)⟩)⟩)⟩)⟩)⟩)⟩)⟩)
theorem qm_mlk_ok_10 : ∀ e ∈ qm_mlk_10, qm_ML e := (List.forall_mem_cons.mpr ⟨mk_240, (List.forall_mem_cons.mpr ⟨mk_241, (List.forall_mem_cons.mpr ⟨mk_242, (List.forall_mem_cons.mpr ⟨mk_243, (List.forall_mem_cons.mpr ⟨mk_244, (List.forall_mem_cons.mpr ⟨mk_245, (List.forall_mem_cons.mpr ⟨mk_246, (List.forall_mem_cons.mpr ⟨mk_247, (List.forall_mem_cons.mpr ⟨mk_248, (List.forall_mem_cons.mpr ⟨mk_249, (List.forall_mem_cons.mpr ⟨mk_250, (List.forall_mem_cons.mpr ⟨mk_251, (List.forall_mem_cons.mpr ⟨mk_252, (List.forall_mem_cons.mpr ⟨mk_253, (fun _ h => absurd h List.not_mem_nil)⟩)⟩)⟩)⟩)⟩)⟩)⟩)⟩)⟩)⟩)⟩)⟩)⟩)⟩)
theorem qm_mlk_ok : ∀ e ∈ qm_mlk, qm_ML e := List.forall_mem_append.mpr ⟨qm_mlk_ok_0, List.forall_mem_append.mpr ⟨qm_mlk_ok_1, List.forall_mem_append.mpr ⟨qm_mlk_ok_2, List.forall_mem_append.mpr ⟨qm_mlk_ok_3, List.forall_mem_append.mpr ⟨qm_mlk_ok_4, List.forall_mem_append.mpr ⟨qm_mlk_ok_5, List.forall_mem_append.mpr ⟨qm_mlk_ok_6, List.forall_mem_append.mpr ⟨qm_mlk_ok_7, List.forall_mem_append.mpr ⟨qm_mlk_ok_8, List.forall_mem_append.mpr ⟨qm_mlk_ok_9, qm_mlk_ok_10⟩⟩⟩⟩⟩⟩⟩⟩⟩⟩
