def ys_length : MethodName := ⟨"java/lang/String", "length", "()I"⟩
def ws_length : List Cond := Cond.code ys_length prog_12_method_54_code 1 (some .int) :: qm_tb
def ys_charAt : MethodName := ⟨"java/lang/String", "charAt", "(I)C"⟩
def ws_charAt : List Cond := Cond.code ys_charAt prog_12_method_56_code 2 (some .char) :: qm_tb
def ys_coder : MethodName := ⟨"java/lang/String", "coder", "()B"⟩
def ws_coder : List Cond := Cond.code ys_coder prog_12_method_152_code 1 (some .byte) :: qm_tb
def ys_isLatin1 : MethodName := ⟨"java/lang/String", "isLatin1", "()Z"⟩
def ws_isLatin1 : List Cond := Cond.code ys_isLatin1 prog_12_method_154_code 1 (some .boolean) :: qm_tb
def ys_check : MethodName := ⟨"java/lang/String", "checkIndex", "(II)V"⟩
def ws_check : List Cond := Cond.code ys_check prog_12_method_155_code 2 (none) :: qm_tb
def ys_latin : MethodName := ⟨"java/lang/StringLatin1", "charAt", "([BI)C"⟩
def ws_latin : List Cond := Cond.code ys_latin prog_13_method_2_code 2 (some .char) :: qm_tb
def ys_pre : MethodName := ⟨"jdk/internal/util/Preconditions", "checkIndex", "(IILjava/util/function/BiFunction;)I"⟩
def ws_pre : List Cond := Cond.code ys_pre prog_16_method_11_code 3 (some .int) :: qm_tb
theorem fs_compact : qm_Tb (Cond.fieldLink "java/lang/String" 38 "java/lang/String" "COMPACT_STRINGS" "Z") := ⟨qm_in2 210 rfl, rfl⟩
theorem fs_coder : qm_Tb (Cond.fieldLink "java/lang/String" 15 "java/lang/String" "coder" "B") := ⟨qm_in7 28 rfl, rfl⟩
theorem fs_value : qm_Tb (Cond.fieldLink "java/lang/String" 9 "java/lang/String" "value" "[B") := ⟨qm_in7 27 rfl, rfl⟩
theorem fs_fmt : qm_Tb (Cond.fieldLink "java/lang/String" 1053 "jdk/internal/util/Preconditions" "SIOOBE_FORMATTER" "Ljava/util/function/BiFunction;") := ⟨qm_in2 226 rfl, rfl⟩
theorem ml_coder : qm_Tb (Cond.methodLink "java/lang/String" 335 ys_coder) := ⟨qm_in2 206 rfl, rfl⟩
theorem ml_isLatin1 : qm_Tb (Cond.methodLink "java/lang/String" 492 ys_isLatin1) := ⟨qm_in2 216 rfl, rfl⟩
theorem ml_latin : qm_Tb (Cond.methodLink "java/lang/String" 495 ys_latin) := ⟨qm_in2 220 rfl, rfl⟩
theorem ml_check : qm_Tb (Cond.methodLink "java/lang/StringLatin1" 9 ys_check) := ⟨qm_in2 223 rfl, rfl⟩
theorem ml_pre : qm_Tb (Cond.methodLink "java/lang/String" 1059 ys_pre) := ⟨qm_in2 228 rfl, rfl⟩
theorem ml_length : qm_Tb (Cond.methodLink "WoodStack$Tokens" 51 ys_length) := ⟨qm_in2 202 rfl, rfl⟩
theorem ml_charAt : qm_Tb (Cond.methodLink "WoodStack$Tokens" 57 ys_charAt) := ⟨qm_in2 212 rfl, rfl⟩
theorem im_length : qm_Tb (Cond.instanceMethod ys_length) := ⟨qm_in2 203 rfl, rfl⟩
theorem se_length : qm_Tb (Cond.selects "java/lang/String" ys_length ys_length) := ⟨qm_in2 204 rfl, rfl⟩
theorem im_charAt : qm_Tb (Cond.instanceMethod ys_charAt) := ⟨qm_in2 213 rfl, rfl⟩
theorem se_charAt : qm_Tb (Cond.selects "java/lang/String" ys_charAt ys_charAt) := ⟨qm_in2 214 rfl, rfl⟩
theorem im_coder : qm_Tb (Cond.instanceMethod ys_coder) := ⟨qm_in2 207 rfl, rfl⟩
theorem se_coder : qm_Tb (Cond.selects "java/lang/String" ys_coder ys_coder) := ⟨qm_in2 208 rfl, rfl⟩
theorem im_isLatin1 : qm_Tb (Cond.instanceMethod ys_isLatin1) := ⟨qm_in2 217 rfl, rfl⟩
theorem se_isLatin1 : qm_Tb (Cond.selects "java/lang/String" ys_isLatin1 ys_isLatin1) := ⟨qm_in2 218 rfl, rfl⟩
theorem st_check : qm_Tb (Cond.static ys_check) := ⟨qm_in2 224 rfl, rfl⟩
theorem st_latin : qm_Tb (Cond.static ys_latin) := ⟨qm_in2 221 rfl, rfl⟩
theorem st_pre : qm_Tb (Cond.static ys_pre) := ⟨qm_in2 229 rfl, rfl⟩
theorem in_str : qm_Tb (Cond.initialized "java/lang/String") := ⟨qm_in1 11 rfl, rfl⟩
theorem in_lat : qm_Tb (Cond.initialized "java/lang/StringLatin1") := ⟨qm_in1 12 rfl, rfl⟩
theorem in_pre : qm_Tb (Cond.initialized "jdk/internal/util/Preconditions") := ⟨qm_in1 13 rfl, rfl⟩
theorem co_length : qm_Tb (Cond.code ys_length prog_12_method_54_code 1 (some .int)) := ⟨qm_in2 205 rfl, rfl⟩
theorem gd_length : GoodIn qm_tb ws_length := by
  intro w hw
  rcases List.mem_cons.mp hw with rfl | hw
  · exact ⟨co_length.tb, good_of_word co_length.2⟩
  · exact ⟨hw, good_of_word (List.mem_filter.mp hw).2⟩
theorem pd_length : ys_length.cls ≠ "java/lang/invoke/MethodHandle" ∧ ys_length.cls ≠ "java/lang/invoke/VarHandle" ∧ (parseMethodDescriptor ys_length.desc).map (fun d => d.parameters.length) = some 0 := by decide +kernel
theorem co_charAt : qm_Tb (Cond.code ys_charAt prog_12_method_56_code 2 (some .char)) := ⟨qm_in2 215 rfl, rfl⟩
theorem gd_charAt : GoodIn qm_tb ws_charAt := by
  intro w hw
  rcases List.mem_cons.mp hw with rfl | hw
  · exact ⟨co_charAt.tb, good_of_word co_charAt.2⟩
  · exact ⟨hw, good_of_word (List.mem_filter.mp hw).2⟩
theorem pd_charAt : ys_charAt.cls ≠ "java/lang/invoke/MethodHandle" ∧ ys_charAt.cls ≠ "java/lang/invoke/VarHandle" ∧ (parseMethodDescriptor ys_charAt.desc).map (fun d => d.parameters.length) = some 1 := by decide +kernel
theorem co_coder : qm_Tb (Cond.code ys_coder prog_12_method_152_code 1 (some .byte)) := ⟨qm_in2 209 rfl, rfl⟩
theorem gd_coder : GoodIn qm_tb ws_coder := by
  intro w hw
  rcases List.mem_cons.mp hw with rfl | hw
  · exact ⟨co_coder.tb, good_of_word co_coder.2⟩
  · exact ⟨hw, good_of_word (List.mem_filter.mp hw).2⟩
theorem pd_coder : ys_coder.cls ≠ "java/lang/invoke/MethodHandle" ∧ ys_coder.cls ≠ "java/lang/invoke/VarHandle" ∧ (parseMethodDescriptor ys_coder.desc).map (fun d => d.parameters.length) = some 0 := by decide +kernel
theorem co_isLatin1 : qm_Tb (Cond.code ys_isLatin1 prog_12_method_154_code 1 (some .boolean)) := ⟨qm_in2 219 rfl, rfl⟩
theorem gd_isLatin1 : GoodIn qm_tb ws_isLatin1 := by
  intro w hw
  rcases List.mem_cons.mp hw with rfl | hw
  · exact ⟨co_isLatin1.tb, good_of_word co_isLatin1.2⟩
  · exact ⟨hw, good_of_word (List.mem_filter.mp hw).2⟩
theorem pd_isLatin1 : ys_isLatin1.cls ≠ "java/lang/invoke/MethodHandle" ∧ ys_isLatin1.cls ≠ "java/lang/invoke/VarHandle" ∧ (parseMethodDescriptor ys_isLatin1.desc).map (fun d => d.parameters.length) = some 0 := by decide +kernel
theorem co_check : qm_Tb (Cond.code ys_check prog_12_method_155_code 2 (none)) := ⟨qm_in2 225 rfl, rfl⟩
theorem gd_check : GoodIn qm_tb ws_check := by
  intro w hw
  rcases List.mem_cons.mp hw with rfl | hw
  · exact ⟨co_check.tb, good_of_word co_check.2⟩
  · exact ⟨hw, good_of_word (List.mem_filter.mp hw).2⟩
theorem pd_check : ys_check.cls ≠ "java/lang/invoke/MethodHandle" ∧ ys_check.cls ≠ "java/lang/invoke/VarHandle" ∧ (parseMethodDescriptor ys_check.desc).map (fun d => d.parameters.length) = some 2 := by decide +kernel
theorem co_latin : qm_Tb (Cond.code ys_latin prog_13_method_2_code 2 (some .char)) := ⟨qm_in2 222 rfl, rfl⟩
theorem gd_latin : GoodIn qm_tb ws_latin := by
  intro w hw
  rcases List.mem_cons.mp hw with rfl | hw
  · exact ⟨co_latin.tb, good_of_word co_latin.2⟩
  · exact ⟨hw, good_of_word (List.mem_filter.mp hw).2⟩
theorem pd_latin : ys_latin.cls ≠ "java/lang/invoke/MethodHandle" ∧ ys_latin.cls ≠ "java/lang/invoke/VarHandle" ∧ (parseMethodDescriptor ys_latin.desc).map (fun d => d.parameters.length) = some 2 := by decide +kernel
theorem co_pre : qm_Tb (Cond.code ys_pre prog_16_method_11_code 3 (some .int)) := ⟨qm_in2 230 rfl, rfl⟩
theorem gd_pre : GoodIn qm_tb ws_pre := by
  intro w hw
  rcases List.mem_cons.mp hw with rfl | hw
  · exact ⟨co_pre.tb, good_of_word co_pre.2⟩
  · exact ⟨hw, good_of_word (List.mem_filter.mp hw).2⟩
theorem pd_pre : ys_pre.cls ≠ "java/lang/invoke/MethodHandle" ∧ ys_pre.cls ≠ "java/lang/invoke/VarHandle" ∧ (parseMethodDescriptor ys_pre.desc).map (fun d => d.parameters.length) = some 3 := by decide +kernel
theorem qs_wk {B0 : Nat} {H0 H : Heap} {locs : List Loc} (h : va_S (fun _ => False) H0 H locs) : va_S (fun q => B0 ≤ q) H0 H locs := ⟨h.1, fun q h1 _ => h.2.1 q h1 (fun z => z), fun l hl => absurd (h.2.2 l hl) (fun z => z)⟩
theorem qm_strB : ∀ j, j < 149 → (qm_str.map Int32.ofNat).getD j 0 = Int32.ofNat (qm_str.getD j 0) ∧ qm_str.getD j 0 < 128 := by decide +kernel
theorem qm_strL : qm_str.length = 149 := by decide +kernel
theorem js_coder {B0 sb sa sv L : Nat} {xs : Nat → Int32} {dC : Nat → ClassId} {dI : Nat → Nat → Nat} {cs : Nat × Nat × Nat × Nat × Nat} (l : Launch)  : Met l ys_coder ws_coder ({ frames := 0, cells := 0, slots := 0, locals := 0 } : Room) (va_Pc [.ref sa] (fun U => qm_Env B0 sb sa sv L xs dC dI cs U)) (va_Qi (fun r (_ : Unit) => r = 0) (fun _ _ => True) (fun _ => False)) 0 0 (fun _ => False) := by
  refine Met.ofW (cc := prog_12_method_152_code) (maxL := 1) (ret := some .byte) (by decide +kernel) rfl ?_
  intro p e s m args below meth c s₁ B hml hv
  obtain ⟨rfl, hE⟩ := hv
  have hx := B.exec
  have hb := B.bytes
  have hr := B.returns
  have hlocks := B.notSynchronized
  have hts0 := atoms_spec (ws := ws_coder) B.pre
  have hts : ∀ w ∈ qm_tb, w.before _ s = true := fun w hw => hts0 w (List.mem_cons_of_mem _ hw)
  have hown : s.vm.findClass "java/lang/String" = some m.cls := findClass_of_methodNamed B.named
  have hS0 : va_S (fun _ => False) s.heap s.heap [] := va_S.rf
  have hS : va_S (fun q => B0 ≤ q) s.heap s.heap [] := va_S.rf
  have hl := lv_entry ([.ref sa]) (n := 1) (Nat.le_of_ble_eq_true rfl)
  rw [lg_entry_eq]
  generalize (lg_sl ([.ref sa]) ++ List.replicate (1 - (lg_sl ([.ref sa])).length) Slot.unset).toArray = ls at hl ⊢
  have hl : lv_has ls 1 ([(0, .ref sa)]) := hl
  refine va_gets hx hb hE.2.2.2.2.2.2.2.2.1 hS hown (hts _ fs_compact.tb) (fun _ h => h) (show decode prog_12_method_152_code 0 = .ok (.getstatic 38, 3) by decide +kernel) ?_
  refine lv_if_eq (tgt := 13) hx hb (show decode prog_12_method_152_code 3 = .ok (.ifCond .eq 10, 3) by decide +kernel) (by decide) (fun c => absurd c (by decide)) (fun _ => ?_)
  refine lv_aload_n hx hb (show decode prog_12_method_152_code 6 = .ok (.aload_n 0, 1) by decide +kernel) rfl (lv_at hl 0 rfl) ?_
  refine vk_getf hx hb (hE.2.2.2.2.2.2.2.1.1 0 (by decide)).2.1 hS hown (hts _ fs_coder.tb) (fun _ h => h) (show decode prog_12_method_152_code 7 = .ok (.getfield 15, 3) by decide +kernel) ?_
  refine lv_goto (tgt := 14) hx hb (show decode prog_12_method_152_code 10 = .ok (.goto 4, 3) by decide +kernel) (by decide) ?_
  exact W.zret hx hb hr rfl (fun t ht _ => ⟨⟨0, (), rfl, rfl, trivial⟩, hS0.F ht⟩) (fun q hq => by cases hq) (show decode prog_12_method_152_code 14 = .ok (.ireturn, 1) by decide +kernel)
theorem js_isLatin1 {B0 sb sa sv L : Nat} {xs : Nat → Int32} {dC : Nat → ClassId} {dI : Nat → Nat → Nat} {cs : Nat × Nat × Nat × Nat × Nat} (l : Launch)  : Met l ys_isLatin1 ws_isLatin1 ({ frames := 0, cells := 0, slots := 0, locals := 0 } : Room) (va_Pc [.ref sa] (fun U => qm_Env B0 sb sa sv L xs dC dI cs U)) (va_Qi (fun r (_ : Unit) => r = 1) (fun _ _ => True) (fun _ => False)) 0 0 (fun _ => False) := by
  refine Met.ofW (cc := prog_12_method_154_code) (maxL := 1) (ret := some .boolean) (by decide +kernel) rfl ?_
  intro p e s m args below meth c s₁ B hml hv
  obtain ⟨rfl, hE⟩ := hv
  have hx := B.exec
  have hb := B.bytes
  have hr := B.returns
  have hlocks := B.notSynchronized
  have hts0 := atoms_spec (ws := ws_isLatin1) B.pre
  have hts : ∀ w ∈ qm_tb, w.before _ s = true := fun w hw => hts0 w (List.mem_cons_of_mem _ hw)
  have hown : s.vm.findClass "java/lang/String" = some m.cls := findClass_of_methodNamed B.named
  have hS0 : va_S (fun _ => False) s.heap s.heap [] := va_S.rf
  have hS : va_S (fun q => B0 ≤ q) s.heap s.heap [] := va_S.rf
  have hl := lv_entry ([.ref sa]) (n := 1) (Nat.le_of_ble_eq_true rfl)
  rw [lg_entry_eq]
  generalize (lg_sl ([.ref sa]) ++ List.replicate (1 - (lg_sl ([.ref sa])).length) Slot.unset).toArray = ls at hl ⊢
  have hl : lv_has ls 1 ([(0, .ref sa)]) := hl
  refine va_gets hx hb hE.2.2.2.2.2.2.2.2.1 hS hown (hts _ fs_compact.tb) (fun _ h => h) (show decode prog_12_method_154_code 0 = .ok (.getstatic 38, 3) by decide +kernel) ?_
  refine lv_if_eq (tgt := 17) hx hb (show decode prog_12_method_154_code 3 = .ok (.ifCond .eq 14, 3) by decide +kernel) (by decide) (fun c => absurd c (by decide)) (fun _ => ?_)
  refine lv_aload_n hx hb (show decode prog_12_method_154_code 6 = .ok (.aload_n 0, 1) by decide +kernel) rfl (lv_at hl 0 rfl) ?_
  refine vk_getf hx hb (hE.2.2.2.2.2.2.2.1.1 0 (by decide)).2.1 hS hown (hts _ fs_coder.tb) (fun _ h => h) (show decode prog_12_method_154_code 7 = .ok (.getfield 15, 3) by decide +kernel) ?_
  refine lv_if_ne (tgt := 17) hx hb (show decode prog_12_method_154_code 10 = .ok (.ifCond .ne 7, 3) by decide +kernel) (by decide) (fun c => absurd rfl c) (fun _ => ?_)
  refine lv_iconst (v := 1) hx hb (show decode prog_12_method_154_code 13 = .ok (.iconst 1, 1) by decide +kernel) (by decide) ?_
  refine lv_goto (tgt := 18) hx hb (show decode prog_12_method_154_code 14 = .ok (.goto 4, 3) by decide +kernel) (by decide) ?_
  exact W.zret hx hb hr rfl (fun t ht _ => ⟨⟨1, (), rfl, rfl, trivial⟩, hS0.F ht⟩) (fun q hq => by cases hq) (show decode prog_12_method_154_code 18 = .ok (.ireturn, 1) by decide +kernel)
theorem js_pre {B0 sb sa sv L : Nat} {xs : Nat → Int32} {dC : Nat → ClassId} {dI : Nat → Nat → Nat} {cs : Nat × Nat × Nat × Nat × Nat} (l : Launch) {i n : Int32} {v : Value} (hv : v = .null ∨ ∃ a, v = .ref a) (h0 : ¬ i < 0) (h1 : i < n) : Met l ys_pre ws_pre ({ frames := 0, cells := 0, slots := 0, locals := 0 } : Room) (va_Pc [.int i, .int n, v] (fun U => qm_Env B0 sb sa sv L xs dC dI cs U)) (va_Qi (fun r (_ : Unit) => r = i) (fun _ _ => True) (fun _ => False)) 0 0 (fun _ => False) := by
  refine Met.ofW (cc := prog_16_method_11_code) (maxL := 3) (ret := some .int) (by decide +kernel) rfl ?_
  intro p e s m args below meth c s₁ B hml hv
  obtain ⟨rfl, hE⟩ := hv
  have hx := B.exec
  have hb := B.bytes
  have hr := B.returns
  have hlocks := B.notSynchronized
  have hts0 := atoms_spec (ws := ws_pre) B.pre
  have hts : ∀ w ∈ qm_tb, w.before _ s = true := fun w hw => hts0 w (List.mem_cons_of_mem _ hw)
  have hown : s.vm.findClass "jdk/internal/util/Preconditions" = some m.cls := findClass_of_methodNamed B.named
  have hS0 : va_S (fun _ => False) s.heap s.heap [] := va_S.rf
  have hS : va_S (fun q => B0 ≤ q) s.heap s.heap [] := va_S.rf
  have hl := lv_entry ([.int i, .int n, v]) (n := 3) (by rcases hv with rfl | ⟨a, rfl⟩ <;> exact Nat.le_of_ble_eq_true rfl)
  rw [lg_entry_eq]
  generalize (lg_sl ([.int i, .int n, v]) ++ List.replicate (3 - (lg_sl ([.int i, .int n, v])).length) Slot.unset).toArray = ls at hl ⊢
  have hl : lv_has ls 3 ([(0, .int i), (1, .int n), (2, v)]) := hl
  refine lv_iload_n hx hb (show decode prog_16_method_11_code 0 = .ok (.iload_n 0, 1) by decide +kernel) rfl (lv_at hl 0 rfl) ?_
  refine lv_if_lt (tgt := 9) hx hb (show decode prog_16_method_11_code 1 = .ok (.ifCond .lt 8, 3) by decide +kernel) (by decide) (fun c => absurd c h0) (fun _ => ?_)
  refine lv_iload_n hx hb (show decode prog_16_method_11_code 4 = .ok (.iload_n 0, 1) by decide +kernel) rfl (lv_at hl 0 rfl) ?_
  refine lv_iload_n hx hb (show decode prog_16_method_11_code 5 = .ok (.iload_n 1, 1) by decide +kernel) rfl (lv_at hl 1 rfl) ?_
  refine lv_icmp_lt (tgt := 16) hx hb (show decode prog_16_method_11_code 6 = .ok (.if_icmp .lt 10, 3) by decide +kernel) (by decide) (fun _ => ?_) (fun c => absurd h1 c)
  refine lv_iload_n hx hb (show decode prog_16_method_11_code 16 = .ok (.iload_n 0, 1) by decide +kernel) rfl (lv_at hl 0 rfl) ?_
  exact W.iret hx hb hr (fun t ht _ => ⟨⟨i, (), rfl, rfl, trivial⟩, hS0.F ht⟩) (fun q hq => by cases hq) (show decode prog_16_method_11_code 17 = .ok (.ireturn, 1) by decide +kernel)
theorem js_check {B0 sb sa sv L : Nat} {xs : Nat → Int32} {dC : Nat → ClassId} {dI : Nat → Nat → Nat} {cs : Nat × Nat × Nat × Nat × Nat} (l : Launch) {i n : Int32} (h0 : ¬ i < 0) (h1 : i < n) : Met l ys_check ws_check ({ frames := 1, cells := 0, slots := 0, locals := 22 } : Room) (va_Pc [.int i, .int n] (fun U => qm_Env B0 sb sa sv L xs dC dI cs U)) (va_Qv (fun (_ : Unit) => True) (fun _ _ => True) (fun _ => False)) 0 0 (fun _ => False) := by
  refine Met.ofW (cc := prog_12_method_155_code) (maxL := 2) (ret := none) (by decide +kernel) rfl ?_
  intro p e s m args below meth c s₁ B hml hv
  obtain ⟨rfl, hE⟩ := hv
  have hx := B.exec
  have hb := B.bytes
  have hr := B.returns
  have hlocks := B.notSynchronized
  have hts0 := atoms_spec (ws := ws_check) B.pre
  have hts : ∀ w ∈ qm_tb, w.before _ s = true := fun w hw => hts0 w (List.mem_cons_of_mem _ hw)
  have hown : s.vm.findClass "java/lang/String" = some m.cls := findClass_of_methodNamed B.named
  have hS0 : va_S (fun _ => False) s.heap s.heap [] := va_S.rf
  have hS : va_S (fun q => B0 ≤ q) s.heap s.heap [] := va_S.rf
  have hl := lv_entry ([.int i, .int n]) (n := 2) (Nat.le_of_ble_eq_true rfl)
  rw [lg_entry_eq]
  generalize (lg_sl ([.int i, .int n]) ++ List.replicate (2 - (lg_sl ([.int i, .int n])).length) Slot.unset).toArray = ls at hl ⊢
  have hl : lv_has ls 2 ([(0, .int i), (1, .int n)]) := hl
  obtain ⟨v, hv, hz⟩ := hE.2.2.2.2.2.2.2.2.2
  refine lv_iload_n hx hb (show decode prog_12_method_155_code 0 = .ok (.iload_n 0, 1) by decide +kernel) rfl (lv_at hl 0 rfl) ?_
  refine lv_iload_n hx hb (show decode prog_12_method_155_code 1 = .ok (.iload_n 1, 1) by decide +kernel) rfl (lv_at hl 1 rfl) ?_
  refine va_gets hx hb hz hS hown (hts _ fs_fmt.tb) (fun _ h => h) (show decode prog_12_method_155_code 2 = .ok (.getstatic 1053, 3) by decide +kernel) ?_
  refine va_calli (va_runS (As := [.int i, .int n, v]) (rest := []) ⟨hx, hb, hml, hown, hts⟩ (js_pre (sb := sb) (sa := sa) (sv := sv) (L := L) (xs := xs) (dC := dC) (dI := dI) (cs := cs) l hv h0 h1) ⟨callB_of 3 hts gd_pre rfl rfl rfl (hts _ in_pre.tb) (hts _ ml_pre.tb) pd_pre ⟨Nat.le_of_ble_eq_true rfl, Nat.le_of_ble_eq_true rfl⟩, hts _ st_pre.tb⟩ ⟨fun a U g mk q => ⟨q.1, qm_Env.to (U := U) rfl rfl q.2⟩, fun U hU hW => ⟨rfl, qm_Env.warm hW (by rw [hU]; exact Nat.le_refl _) (fun q _ _ => by rw [hU]) hE⟩⟩ rfl rfl hl.1 rfl (Nat.le_of_ble_eq_true rfl) (show decode prog_12_method_155_code 5 = .ok (.invokestatic 1059, 3) by decide +kernel) ⟨Nat.le_of_ble_eq_true rfl, Nat.le_of_ble_eq_true rfl⟩) hS0 (fun q _ z => z) (fun q z => z) (fun r u t H1 locs1 ht al hp hB hsz hk hS0 => ?_)
  have hS := qs_wk (B0 := B0) hS0
  refine lv_pop hx hb (show decode prog_12_method_155_code 8 = .ok (.pop, 1) by decide +kernel) rfl ?_
  exact W.vret hx hb hr (fun t ht _ => ⟨⟨(), rfl, trivial, trivial⟩, hS0.F ht⟩) hS0.2.2 (show decode prog_12_method_155_code 9 = .ok (.return_, 1) by decide +kernel)
theorem js_latin {B0 sb sa sv L : Nat} {xs : Nat → Int32} {dC : Nat → ClassId} {dI : Nat → Nat → Nat} {cs : Nat × Nat × Nat × Nat × Nat} (l : Launch) {j : Nat} (hj : j < 149) : Met l ys_latin ws_latin ({ frames := 2, cells := 0, slots := 0, locals := 43 } : Room) (va_Pc [.ref sv, .int (nI j)] (fun U => qm_Env B0 sb sa sv L xs dC dI cs U)) (va_Qi (fun r (_ : Unit) => r = Int32.ofNat (qm_str.getD j 0)) (fun _ _ => True) (fun _ => False)) 0 0 (fun _ => False) := by
  refine Met.ofW (cc := prog_13_method_2_code) (maxL := 2) (ret := some .char) (by decide +kernel) rfl ?_
  intro p e s m args below meth c s₁ B hml hv
  obtain ⟨rfl, hE⟩ := hv
  have hx := B.exec
  have hb := B.bytes
  have hr := B.returns
  have hlocks := B.notSynchronized
  have hts0 := atoms_spec (ws := ws_latin) B.pre
  have hts : ∀ w ∈ qm_tb, w.before _ s = true := fun w hw => hts0 w (List.mem_cons_of_mem _ hw)
  have hown : s.vm.findClass "java/lang/StringLatin1" = some m.cls := findClass_of_methodNamed B.named
  have hS0 : va_S (fun _ => False) s.heap s.heap [] := va_S.rf
  have hS : va_S (fun q => B0 ≤ q) s.heap s.heap [] := va_S.rf
  have hl := lv_entry ([.ref sv, .int (nI j)]) (n := 2) (Nat.le_of_ble_eq_true rfl)
  rw [lg_entry_eq]
  generalize (lg_sl ([.ref sv, .int (nI j)]) ++ List.replicate (2 - (lg_sl ([.ref sv, .int (nI j)])).length) Slot.unset).toArray = ls at hl ⊢
  have hl : lv_has ls 2 ([(0, .ref sv), (1, .int (nI j))]) := hl
  have hT := (hE.2.2.2.2.2.2.2.1.1 0 (by decide)).2.2.2
  have hT : va_T .byte sv 149 (fun a => .int ((qm_str.map Int32.ofNat).getD a 0)) (fun q => B0 ≤ q) s s.heap := by
    have h9 := hT
    simp only [List.getD_cons_zero, qm_strL] at h9
    exact h9
  refine lv_iload_n hx hb (show decode prog_13_method_2_code 0 = .ok (.iload_n 1, 1) by decide +kernel) rfl (lv_at hl 1 rfl) ?_
  refine lv_aload_n hx hb (show decode prog_13_method_2_code 1 = .ok (.aload_n 0, 1) by decide +kernel) rfl (lv_at hl 0 rfl) ?_
  refine va_tlen hx hb hT hS (v := 149) rfl (show decode prog_13_method_2_code 2 = .ok (.arraylength, 1) by decide +kernel) ?_
  refine va_callv (va_runS (As := [.int (nI j), .int 149]) (rest := []) ⟨hx, hb, hml, hown, hts⟩ (js_check (sb := sb) (sa := sa) (sv := sv) (L := L) (xs := xs) (dC := dC) (dI := dI) (cs := cs) l (nI_pos (by omega)) (nI_lt hj (by decide))) ⟨callB_of 2 hts gd_check rfl rfl rfl (hts _ in_str.tb) (hts _ ml_check.tb) pd_check ⟨Nat.le_of_ble_eq_true rfl, Nat.le_of_ble_eq_true rfl⟩, hts _ st_check.tb⟩ ⟨fun a U g mk q => ⟨q.1, qm_Env.to (U := U) rfl rfl q.2⟩, fun U hU hW => ⟨rfl, qm_Env.warm hW (by rw [hU]; exact Nat.le_refl _) (fun q _ _ => by rw [hU]) hE⟩⟩ rfl rfl hl.1 rfl (Nat.le_of_ble_eq_true rfl) (show decode prog_13_method_2_code 3 = .ok (.invokestatic 9, 3) by decide +kernel) ⟨Nat.le_of_ble_eq_true rfl, Nat.le_of_ble_eq_true rfl⟩) hS0 (fun q _ z => z) (fun q z => z) (fun u t H1 locs1 ht al hp hB hsz hk hS0 => ?_)
  have hS := qs_wk (B0 := B0) hS0
  refine lv_aload_n hx hb (show decode prog_13_method_2_code 6 = .ok (.aload_n 0, 1) by decide +kernel) rfl (lv_at hl 0 rfl) ?_
  refine lv_iload_n hx hb (show decode prog_13_method_2_code 7 = .ok (.iload_n 1, 1) by decide +kernel) rfl (lv_at hl 1 rfl) ?_
  refine va_tb hx hb hT hS (i := nI j) (vp_in_nI hj (by decide)) rfl (show decode prog_13_method_2_code 8 = .ok (.baload, 1) by decide +kernel) ?_
  refine lv_sipush (v := 255) hx hb (show decode prog_13_method_2_code 9 = .ok (.sipush 255, 3) by decide +kernel) (by decide) ?_
  refine lv_iand hx hb (show decode prog_13_method_2_code 12 = .ok (.iand, 1) by decide +kernel) ?_
  refine lv_i2c hx hb (show decode prog_13_method_2_code 13 = .ok (.i2c, 1) by decide +kernel) rfl ?_
  rw [nI_clamp (by omega), (qm_strB j hj).1]
  have hlt := (qm_strB j hj).2
  generalize qm_str.getD j 0 = w at hlt ⊢
  have hv : ((Int32.ofNat w &&& 255).toUInt32 % 65536).toInt32 = Int32.ofNat w := by
    have : ∀ a, a < 128 → ((Int32.ofNat a &&& 255).toUInt32 % 65536).toInt32 = Int32.ofNat a := by decide +kernel
    exact this w hlt
  rw [hv]
  have hn : narrow .char (.int (Int32.ofNat w)) = .int (Int32.ofNat w) := (pk_charN (q := w) (by omega)).1
  exact W.zret hx hb hr hn (fun t ht _ => ⟨⟨_, (), rfl, rfl, trivial⟩, hS0.F ht⟩) hS0.2.2 (show decode prog_13_method_2_code 14 = .ok (.ireturn, 1) by decide +kernel)
theorem js_charAt {B0 sb sa sv L : Nat} {xs : Nat → Int32} {dC : Nat → ClassId} {dI : Nat → Nat → Nat} {cs : Nat × Nat × Nat × Nat × Nat} (l : Launch) {j : Nat} (hj : j < 149) : Met l ys_charAt ws_charAt ({ frames := 3, cells := 0, slots := 0, locals := 64 } : Room) (va_Pc [.ref sa, .int (nI j)] (fun U => qm_Env B0 sb sa sv L xs dC dI cs U)) (va_Qi (fun r (_ : Unit) => r = Int32.ofNat (qm_str.getD j 0)) (fun _ _ => True) (fun _ => False)) 0 0 (fun _ => False) := by
  refine Met.ofW (cc := prog_12_method_56_code) (maxL := 2) (ret := some .char) (by decide +kernel) rfl ?_
  intro p e s m args below meth c s₁ B hml hv
  obtain ⟨rfl, hE⟩ := hv
  have hx := B.exec
  have hb := B.bytes
  have hr := B.returns
  have hlocks := B.notSynchronized
  have hts0 := atoms_spec (ws := ws_charAt) B.pre
  have hts : ∀ w ∈ qm_tb, w.before _ s = true := fun w hw => hts0 w (List.mem_cons_of_mem _ hw)
  have hown : s.vm.findClass "java/lang/String" = some m.cls := findClass_of_methodNamed B.named
  have hS0 : va_S (fun _ => False) s.heap s.heap [] := va_S.rf
  have hS : va_S (fun q => B0 ≤ q) s.heap s.heap [] := va_S.rf
  have hl := lv_entry ([.ref sa, .int (nI j)]) (n := 2) (Nat.le_of_ble_eq_true rfl)
  rw [lg_entry_eq]
  generalize (lg_sl ([.ref sa, .int (nI j)]) ++ List.replicate (2 - (lg_sl ([.ref sa, .int (nI j)])).length) Slot.unset).toArray = ls at hl ⊢
  have hl : lv_has ls 2 ([(0, .ref sa), (1, .int (nI j))]) := hl
  refine lv_aload_n hx hb (show decode prog_12_method_56_code 0 = .ok (.aload_n 0, 1) by decide +kernel) rfl (lv_at hl 0 rfl) ?_
  refine va_calli (va_runV (As := []) (rest := []) ⟨hx, hb, hml, hown, hts⟩ (js_isLatin1 (sb := sb) (sa := sa) (sv := sv) (L := L) (xs := xs) (dC := dC) (dI := dI) (cs := cs) l) ⟨callB_of 0 hts gd_isLatin1 rfl rfl rfl (hts _ in_str.tb) (hts _ ml_isLatin1.tb) pd_isLatin1 ⟨Nat.le_of_ble_eq_true rfl, Nat.le_of_ble_eq_true rfl⟩, hts _ im_isLatin1.tb, hts _ se_isLatin1.tb⟩ ⟨fun a U g mk q => ⟨q.1, qm_Env.to (U := U) rfl rfl q.2⟩, vk_recv (i := 0) hE.2.2.2.2.2.2.2.1 (by decide) hS, fun U hU hW => ⟨rfl, qm_Env.warm hW (by rw [hU]; exact Nat.le_refl _) (fun q _ _ => by rw [hU]) hE⟩⟩ rfl rfl hl.1 rfl (Nat.le_of_ble_eq_true rfl) (show decode prog_12_method_56_code 1 = .ok (.invokevirtual 492, 3) by decide +kernel) ⟨Nat.le_of_ble_eq_true rfl, Nat.le_of_ble_eq_true rfl⟩) hS0 (fun q _ z => z) (fun q z => z) (fun r u t H1 locs1 ht al hp hB hsz hk hS0 => ?_)
  have hS1 := qs_wk (B0 := B0) hS0
  have hp : r = 1 := hp
  subst hp
  refine lv_if_eq (tgt := 16) hx hb (show decode prog_12_method_56_code 4 = .ok (.ifCond .eq 12, 3) by decide +kernel) (by decide) (fun c => absurd c (by decide)) (fun _ => ?_)
  refine lv_aload_n hx hb (show decode prog_12_method_56_code 7 = .ok (.aload_n 0, 1) by decide +kernel) rfl (lv_at hl 0 rfl) ?_
  refine vk_getf hx hb (hE.2.2.2.2.2.2.2.1.1 0 (by decide)).2.2.1 hS1 hown (hts _ fs_value.tb) (fun _ h => h) (show decode prog_12_method_56_code 8 = .ok (.getfield 9, 3) by decide +kernel) ?_
  refine lv_iload_n hx hb (show decode prog_12_method_56_code 11 = .ok (.iload_n 1, 1) by decide +kernel) rfl (lv_at hl 1 rfl) ?_
  refine va_calli (va_runS (As := [.ref sv, .int (nI j)]) (rest := []) ⟨hx, hb, hml, hown, hts⟩ (js_latin (sb := sb) (sa := sa) (sv := sv) (L := L) (xs := xs) (dC := dC) (dI := dI) (cs := cs) l hj) ⟨callB_of 2 hts gd_latin rfl rfl rfl (hts _ in_lat.tb) (hts _ ml_latin.tb) pd_latin ⟨Nat.le_of_ble_eq_true rfl, Nat.le_of_ble_eq_true rfl⟩, hts _ st_latin.tb⟩ ⟨fun a U g mk q => ⟨q.1, qm_Env.to (U := U) rfl rfl q.2⟩, fun U hU hW => ⟨rfl, qm_Env.warm hW (by rw [hU]; exact hS1.1) (fun q h1 h2 => by rw [hU]; exact hS1.2.1 q h1 h2) hE⟩⟩ rfl rfl hl.1 rfl (Nat.le_of_ble_eq_true rfl) (show decode prog_12_method_56_code 12 = .ok (.invokestatic 495, 3) by decide +kernel) ⟨Nat.le_of_ble_eq_true rfl, Nat.le_of_ble_eq_true rfl⟩) hS0 (fun q _ z => z) (fun q z => z) (fun r u t H2 locs2 ht al hp hB hsz hk hS0 => ?_)
  have hS := qs_wk (B0 := B0) hS0
  have hp : r = Int32.ofNat (qm_str.getD j 0) := hp
  subst hp
  have hn : narrow .char (.int (Int32.ofNat (qm_str.getD j 0))) = .int (Int32.ofNat (qm_str.getD j 0)) := (pk_charN (q := qm_str.getD j 0) (by have := (qm_strB j hj).2; omega)).1
  exact W.zret hx hb hr hn (fun t ht _ => ⟨⟨_, (), rfl, rfl, trivial⟩, hS0.F ht⟩) hS0.2.2 (show decode prog_12_method_56_code 15 = .ok (.ireturn, 1) by decide +kernel)
theorem js_length {B0 sb sa sv L : Nat} {xs : Nat → Int32} {dC : Nat → ClassId} {dI : Nat → Nat → Nat} {cs : Nat × Nat × Nat × Nat × Nat} (l : Launch)  : Met l ys_length ws_length ({ frames := 1, cells := 0, slots := 0, locals := 20 } : Room) (va_Pc [.ref sa] (fun U => qm_Env B0 sb sa sv L xs dC dI cs U)) (va_Qi (fun r (_ : Unit) => r = 149) (fun _ _ => True) (fun _ => False)) 0 0 (fun _ => False) := by
  refine Met.ofW (cc := prog_12_method_54_code) (maxL := 1) (ret := some .int) (by decide +kernel) rfl ?_
  intro p e s m args below meth c s₁ B hml hv
  obtain ⟨rfl, hE⟩ := hv
  have hx := B.exec
  have hb := B.bytes
  have hr := B.returns
  have hlocks := B.notSynchronized
  have hts0 := atoms_spec (ws := ws_length) B.pre
  have hts : ∀ w ∈ qm_tb, w.before _ s = true := fun w hw => hts0 w (List.mem_cons_of_mem _ hw)
  have hown : s.vm.findClass "java/lang/String" = some m.cls := findClass_of_methodNamed B.named
  have hS0 : va_S (fun _ => False) s.heap s.heap [] := va_S.rf
  have hS : va_S (fun q => B0 ≤ q) s.heap s.heap [] := va_S.rf
  have hl := lv_entry ([.ref sa]) (n := 1) (Nat.le_of_ble_eq_true rfl)
  rw [lg_entry_eq]
  generalize (lg_sl ([.ref sa]) ++ List.replicate (1 - (lg_sl ([.ref sa])).length) Slot.unset).toArray = ls at hl ⊢
  have hl : lv_has ls 1 ([(0, .ref sa)]) := hl
  have hT := (hE.2.2.2.2.2.2.2.1.1 0 (by decide)).2.2.2
  have hT : va_T .byte sv 149 (fun a => .int ((qm_str.map Int32.ofNat).getD a 0)) (fun q => B0 ≤ q) s s.heap := by
    have h9 := hT
    simp only [List.getD_cons_zero, qm_strL] at h9
    exact h9
  refine lv_aload_n hx hb (show decode prog_12_method_54_code 0 = .ok (.aload_n 0, 1) by decide +kernel) rfl (lv_at hl 0 rfl) ?_
  refine vk_getf hx hb (hE.2.2.2.2.2.2.2.1.1 0 (by decide)).2.2.1 hS hown (hts _ fs_value.tb) (fun _ h => h) (show decode prog_12_method_54_code 1 = .ok (.getfield 9, 3) by decide +kernel) ?_
  refine va_tlen hx hb hT hS (v := 149) rfl (show decode prog_12_method_54_code 4 = .ok (.arraylength, 1) by decide +kernel) ?_
  refine lv_aload_n hx hb (show decode prog_12_method_54_code 5 = .ok (.aload_n 0, 1) by decide +kernel) rfl (lv_at hl 0 rfl) ?_
  refine va_calli (va_runV (As := []) (rest := [.int 149]) ⟨hx, hb, hml, hown, hts⟩ (js_coder (sb := sb) (sa := sa) (sv := sv) (L := L) (xs := xs) (dC := dC) (dI := dI) (cs := cs) l) ⟨callB_of 0 hts gd_coder rfl rfl rfl (hts _ in_str.tb) (hts _ ml_coder.tb) pd_coder ⟨Nat.le_of_ble_eq_true rfl, Nat.le_of_ble_eq_true rfl⟩, hts _ im_coder.tb, hts _ se_coder.tb⟩ ⟨fun a U g mk q => ⟨q.1, qm_Env.to (U := U) rfl rfl q.2⟩, vk_recv (i := 0) hE.2.2.2.2.2.2.2.1 (by decide) hS, fun U hU hW => ⟨rfl, qm_Env.warm hW (by rw [hU]; exact Nat.le_refl _) (fun q _ _ => by rw [hU]) hE⟩⟩ rfl rfl hl.1 rfl (by simp [JFrame.monitorRoom, Value.category]) (show decode prog_12_method_54_code 6 = .ok (.invokevirtual 335, 3) by decide +kernel) ⟨Nat.le_of_ble_eq_true rfl, Nat.le_of_ble_eq_true rfl⟩) hS0 (fun q _ z => z) (fun q z => z) (fun r u t H1 locs1 ht al hp hB hsz hk hS0 => ?_)
  have hS := qs_wk (B0 := B0) hS0
  have hp : r = 0 := hp
  subst hp
  refine lv_ishr hx hb (show decode prog_12_method_54_code 9 = .ok (.ishr, 1) by decide +kernel) ?_
  exact W.iret hx hb hr (fun t ht _ => ⟨⟨_, (), rfl, by decide +kernel, trivial⟩, hS0.F ht⟩) hS0.2.2 (show decode prog_12_method_54_code 10 = .ok (.ireturn, 1) by decide +kernel)
theorem qs_fr1 {d F : Nat} (h : d + 4 ≤ F) : 3 + 1 ≤ F := by omega
theorem qs_lo1 {d F : Nat} (h : 64 * d + 256 ≤ F) : 8 + (2 + 11) + 64 ≤ F := by omega
theorem qs_fr0 {d F : Nat} (h : d + 4 ≤ F) : 1 + 1 ≤ F := by omega
theorem qs_lo0 {d F : Nat} (h : 64 * d + 256 ≤ F) : 8 + (1 + 11) + 20 ≤ F := by omega
section QST2
variable {p : Program} {l : Launch} {e : Env} {R : Room} {s : State} {m : MethodId} {args : Array Value} {below : List Frame} {meth : Method} {c : Code} {cells slots : Nat} {Q : State → Prop} {H : Heap} {locs : List Loc}
variable {d B0 sb sa sv L mi : Nat} {xs : Nat → Int32} {dC : Nat → ClassId} {dI : Nat → Nat → Nat} {cs : Nat × Nat × Nat × Nat × Nat} {pc n : Nat} {als : Array Slot} {ls st ls' st' : List qm_AV} {h h' : qm_Hp} {x : Instr}
theorem so_slen (X : qm_Cx p R s m args c cells slots d mi B0 sb sa sv L xs dC dI cs) (hw : qm_Wd s B0 L xs dC dI cs h H locs) (hl : qm_Lo mi B0 sb sa als ls) (ho : qm_So st) {idx : Nat} (hm : (mN mi, idx, 87) ∈ qm_ilk) (hd : decode (mC mi) pc = .ok (.invokevirtual idx, 3)) (ha : qa_slen ls st h = some (.inl (ls', st', h'))) (kk : ∀ (H1 : Heap) (locs1 : List Loc) (als1 : Array Slot), qm_Wd s B0 L xs dC dI cs h' H1 locs1 → qm_Lo mi B0 sb sa als1 ls' → qm_So st' → W p l e R s m args below meth c H1 locs1 cells slots Q (F0 m (pc + 3) als1 (st'.map (qm_cv B0 sb sa)))) : W p l e R s m args below meth c H locs cells slots Q (F0 m pc als (st.map (qm_cv B0 sb sa))) := by
  unfold qa_slen at ha
  rcases st with _ | ⟨v, r⟩
  · cases ha
  · rcases v with v | v | ⟨q, i⟩
    · cases ha
    · cases ha
    · replace ha : (if q = 81 ∧ qm_wid r ≤ 8 then some (.inl (ls, qI (Int32.ofNat qm_str.length) :: r, h)) else none : Option qm_Act) = some (.inl (ls', st', h')) := ha
      by_cases hg : q = 81 ∧ qm_wid r ≤ 8
      rotate_left
      · rw [if_neg hg] at ha; cases ha
      rw [if_pos hg] at ha
      obtain ⟨hq, hwid⟩ := hg
      subst hq
      cases ha
      have hio : ∀ e ∈ qm_ilk, e.2.2 = 87 → e.1 = 5 ∧ e.2.1 = 51 := by decide
      obtain ⟨h5, hix⟩ := hio _ hm rfl
      have h5 : mN mi = 5 := h5
      have hix : idx = 51 := hix
      subst hix
      have hown := X.2.2.2.1
      rw [show mN mi = 5 from h5] at hown
      have hE := X.2.2.2.2.2.1
      have hts := X.2.2.2.2.1
      have g9 := X.2.2.2.2.2.2.2.2.1
      have g10 := X.2.2.2.2.2.2.2.2.2
      have hWd : 2 * (F0 m pc als (.ref sa :: r.map (qm_cv B0 sb sa))).monitorRoom + ((r.map (qm_cv B0 sb sa)).map fun v => v.category).sum ≤ 8 := by
        rw [qm_wid_cat]
        exact (Nat.zero_add _).symm ▸ hwid
      exact va_calli (va_runV (As := []) (rest := r.map (qm_cv B0 sb sa)) ⟨X.1, X.2.1, X.2.2.1, hown, hts⟩ (js_length (B0 := B0) (sb := sb) (sa := sa) (sv := sv) (L := L) (xs := xs) (dC := dC) (dI := dI) (cs := cs) l) ⟨callB_of 0 hts gd_length rfl rfl rfl (hts _ in_str.tb) (hts _ ml_length.tb) pd_length ⟨qs_fr0 g9, qs_lo0 g10⟩, hts _ im_length.tb, hts _ se_length.tb⟩ ⟨fun a U g mk q => ⟨q.1, qm_Env.to (U := U) rfl rfl q.2⟩, vk_recv (i := 0) hE.2.2.2.2.2.2.2.1 (by decide) hw.2.2.1, fun U hU hW => ⟨rfl, qm_Env.warm hW (by rw [hU]; exact hw.2.2.1.1) (fun q h1 h2 => by rw [hU]; exact hw.2.2.1.2.1 q h1 h2) hE⟩⟩ rfl rfl hl.1.1 rfl hWd hd ⟨X.2.2.2.2.2.2.1, X.2.2.2.2.2.2.2.1⟩) hw.2.2.1 (fun q _ z => absurd z (fun z => z)) (fun q z => absurd z (fun z => z)) (fun r0 u t H1 locs1 ht al hp hB hsz hk hS => by
        have hp : r0 = 149 := hp
        subst hp
        have k9 := kk H1 locs1 als ⟨hw.1.kept (fun a q hq => hk q.1 (hw.1 a q hq).lt (fun z => z)), hw.2.1, hS, hw.2.2.2⟩ hl (ho.t.cons trivial)
        rw [qm_strL] at k9; exact k9)
theorem so_char (X : qm_Cx p R s m args c cells slots d mi B0 sb sa sv L xs dC dI cs) (hw : qm_Wd s B0 L xs dC dI cs h H locs) (hl : qm_Lo mi B0 sb sa als ls) (ho : qm_So st) {idx : Nat} (hm : (mN mi, idx, 88) ∈ qm_ilk) (hd : decode (mC mi) pc = .ok (.invokevirtual idx, 3)) (ha : qa_char ls st h = some (.inl (ls', st', h'))) (kk : ∀ (H1 : Heap) (locs1 : List Loc) (als1 : Array Slot), qm_Wd s B0 L xs dC dI cs h' H1 locs1 → qm_Lo mi B0 sb sa als1 ls' → qm_So st' → W p l e R s m args below meth c H1 locs1 cells slots Q (F0 m (pc + 3) als1 (st'.map (qm_cv B0 sb sa)))) : W p l e R s m args below meth c H locs cells slots Q (F0 m pc als (st.map (qm_cv B0 sb sa))) := by
  unfold qa_char at ha
  rcases st with _ | ⟨v, _ | ⟨v2, r⟩⟩
  · cases ha
  · rcases v with v | v | ⟨q', i'⟩ <;> cases ha
  · rcases v with j | v | ⟨q', i'⟩
    rotate_left
    · cases ha
    · cases ha
    rcases v2 with v2 | v2 | ⟨q, i⟩
    · cases ha
    · cases ha
    · replace ha : (if q = 81 ∧ qm_wid r ≤ 8 ∧ ¬ (j < 0 ∨ qm_str.length ≤ j.toNatClampNeg) then some (.inl (ls, qI (Int32.ofNat (qm_str.getD j.toNatClampNeg 0)) :: r, h)) else none : Option qm_Act) = some (.inl (ls', st', h')) := ha
      by_cases hg : q = 81 ∧ qm_wid r ≤ 8 ∧ ¬ (j < 0 ∨ qm_str.length ≤ j.toNatClampNeg)
      rotate_left
      · rw [if_neg hg] at ha; cases ha
      rw [if_pos hg] at ha
      obtain ⟨hq, hwid, hj⟩ := hg
      rw [qm_strL] at hj
      obtain ⟨jn, hjn, hjE⟩ := vp_in_of (x := j) (n := 149) hj (by decide)
      subst hjE
      rw [nI_clamp (by omega)] at ha
      subst hq
      cases ha
      have hio : ∀ e ∈ qm_ilk, e.2.2 = 88 → e.1 = 5 ∧ e.2.1 = 57 := by decide
      obtain ⟨h5, hix⟩ := hio _ hm rfl
      have h5 : mN mi = 5 := h5
      have hix : idx = 57 := hix
      subst hix
      have hown := X.2.2.2.1
      rw [show mN mi = 5 from h5] at hown
      have hE := X.2.2.2.2.2.1
      have hts := X.2.2.2.2.1
      have g9 := X.2.2.2.2.2.2.2.2.1
      have g10 := X.2.2.2.2.2.2.2.2.2
      have hWd : 2 * (F0 m pc als (.int (nI jn) :: .ref sa :: r.map (qm_cv B0 sb sa))).monitorRoom + ((r.map (qm_cv B0 sb sa)).map fun v => v.category).sum ≤ 8 := by
        rw [qm_wid_cat]
        exact (Nat.zero_add _).symm ▸ hwid
      exact va_calli (va_runV (As := [.int (nI jn)]) (rest := r.map (qm_cv B0 sb sa)) ⟨X.1, X.2.1, X.2.2.1, hown, hts⟩ (js_charAt (B0 := B0) (sb := sb) (sa := sa) (sv := sv) (L := L) (xs := xs) (dC := dC) (dI := dI) (cs := cs) l hjn) ⟨callB_of 1 hts gd_charAt rfl rfl rfl (hts _ in_str.tb) (hts _ ml_charAt.tb) pd_charAt ⟨qs_fr1 g9, qs_lo1 g10⟩, hts _ im_charAt.tb, hts _ se_charAt.tb⟩ ⟨fun a U g mk q => ⟨q.1, qm_Env.to (U := U) rfl rfl q.2⟩, vk_recv (i := 0) hE.2.2.2.2.2.2.2.1 (by decide) hw.2.2.1, fun U hU hW => ⟨rfl, qm_Env.warm hW (by rw [hU]; exact hw.2.2.1.1) (fun q h1 h2 => by rw [hU]; exact hw.2.2.1.2.1 q h1 h2) hE⟩⟩ rfl rfl hl.1.1 rfl hWd hd ⟨X.2.2.2.2.2.2.1, X.2.2.2.2.2.2.2.1⟩) hw.2.2.1 (fun q _ z => absurd z (fun z => z)) (fun q z => absurd z (fun z => z)) (fun r0 u t H1 locs1 ht al hp hB hsz hk hS => by
        have hp : r0 = Int32.ofNat (qm_str.getD jn 0) := hp
        subst hp
        have k9 := kk H1 locs1 als ⟨hw.1.kept (fun a q hq => hk q.1 (hw.1 a q hq).lt (fun z => z)), hw.2.1, hS, hw.2.2.2⟩ hl (ho.t.t.cons trivial)
        exact k9)
end QST2
