/-! the step equations in one bundle for simp, and what it needs beside them -/
theorem qb_some (a : Option qm_AV × qm_Hp) (f : Option qm_AV × qm_Hp → Option (Option qm_AV × qm_Hp)) : (some a).bind f = f a := rfl
theorem qm_push_s (v : qm_AV) (st : List qm_AV) : qm_push (some v) st = v :: st := rfl
theorem qm_push_n (st : List qm_AV) : qm_push none st = st := rfl
theorem qm_lg_0 (v : qm_AV) (l : List qm_AV) : qm_lg (v :: l) 0 = v := rfl
theorem qm_lg_s (v : qm_AV) (l : List qm_AV) (n : Nat) : qm_lg (v :: l) (n + 1) = qm_lg l n := rfl
theorem qm_ls_0 (v x : qm_AV) (l : List qm_AV) : qm_ls (v :: l) 0 x = x :: l := rfl
theorem qm_ls_s (v x : qm_AV) (l : List qm_AV) (n : Nat) : qm_ls (v :: l) (n + 1) x = v :: qm_ls l n x := rfl
theorem qm_s1_0 (x : qm_AV) (l : List qm_AV) : qm_s1 l 0 x = qm_ls l 0 x := rfl
theorem qm_s1_s (x : qm_AV) (l : List qm_AV) (n : Nat) : qm_s1 l (n + 1) x = if qm_isL (qm_lg l n) = true then qm_ls (qm_ls l n qU) (n + 1) x else qm_ls l (n + 1) x := rfl
theorem qm_s2_e (x : qm_AV) (l : List qm_AV) (n : Nat) : qm_s2 l n x = qm_ls (qm_s1 l n x) (n + 1) qU := rfl
theorem qm_isL_I (x : Int32) : qm_isL (qI x) = false := rfl
theorem qm_isL_L (x : Int64) : qm_isL (qL x) = true := rfl
theorem qm_isL_P (k i : Nat) : qm_isL (qP k i) = false := rfl
theorem qm_wid_n : qm_wid [] = 0 := rfl
theorem qm_wid_I (x : Int32) (l : List qm_AV) : qm_wid (qI x :: l) = qm_wid l + 1 := by simp [qm_wid, qm_isL]; omega
theorem qm_wid_L (x : Int64) (l : List qm_AV) : qm_wid (qL x :: l) = qm_wid l + 2 := by simp [qm_wid, qm_isL]; omega
theorem qm_wid_P (k i : Nat) (l : List qm_AV) : qm_wid (qP k i :: l) = qm_wid l + 1 := by simp [qm_wid, qm_isL]; omega
def qx := And.intro x_icst <| And.intro x_lcst <| And.intro x_iload <| And.intro x_lload <| And.intro x_aload <| And.intro x_istore <| And.intro x_lstore <| And.intro x_astore <| And.intro x_iinc <| And.intro x_iadd <| And.intro x_isub <| And.intro x_imul <| And.intro x_iand <| And.intro x_ior <| And.intro x_ishl <| And.intro x_ishr <| And.intro x_iushr <| And.intro x_idiv <| And.intro x_irem <| And.intro x_ineg <| And.intro x_ladd <| And.intro x_lsub <| And.intro x_lmul <| And.intro x_land <| And.intro x_lor <| And.intro x_ldiv <| And.intro x_lneg <| And.intro x_lshl <| And.intro x_lcmp <| And.intro x_i2l <| And.intro x_l2i <| And.intro x_dupI <| And.intro x_dupP <| And.intro x_dup2 <| And.intro x_popI <| And.intro x_getI <| And.intro x_getL <| And.intro x_getP0 <| And.intro x_getP1 <| And.intro x_getM <| And.intro x_putI <| And.intro x_putL <| And.intro x_putM <| And.intro x_putZ <| And.intro x_iald <| And.intro x_iast <| And.intro x_lald <| And.intro x_last <| And.intro x_bald <| And.intro x_bast <| And.intro x_aald <| And.intro x_alen <| And.intro x_ldstr <| And.intro x_iceq <| And.intro x_ifeq <| And.intro x_icne <| And.intro x_ifne <| And.intro x_iclt <| And.intro x_iflt <| And.intro x_icge <| And.intro x_ifge <| And.intro x_icgt <| And.intro x_ifgt <| And.intro x_icle <| And.intro x_ifle <| And.intro x_null <| And.intro x_goto <| And.intro x_fall <| And.intro x_tsw <| And.intro x_lsw <| And.intro x_iret <| And.intro x_lret <| And.intro x_vret <| And.intro x_zret <| And.intro x_calls0 <| And.intro x_calls1 <| And.intro x_calls2 <| And.intro x_calls3 <| And.intro x_calls4 <| And.intro x_calls5 <| And.intro x_calls6 <| And.intro x_calls7 <| And.intro x_callv1 <| And.intro x_callv2 <| And.intro x_callv3 <| And.intro x_callv4 <| And.intro x_callv5 <| And.intro x_callv6 <| And.intro x_callv7 <| And.intro x_maxi <| And.intro x_mini <| And.intro x_absi <| And.intro x_maxl <| And.intro x_minl <| And.intro x_copy <| And.intro x_slen x_char
def qe := And.intro qm_ldI_e <| And.intro qm_ldL_e <| And.intro qm_ldP_e <| And.intro qb_some <| And.intro qm_push_s <| And.intro qm_push_n <| And.intro qm_lg_0 <| And.intro qm_lg_s <| And.intro qm_s1_0 <| And.intro qm_s1_s <| And.intro qm_s2_e <| And.intro qm_ls_0 <| And.intro qm_ls_s <| And.intro qm_isL_I <| And.intro qm_isL_L <| And.intro qm_isL_P <| And.intro qm_wid_n <| And.intro qm_wid_I <| And.intro qm_wid_L qm_wid_P
theorem il_11 (s : qm_Hp) : qm_ilen s 11 = 48 := rfl
theorem il_12 (s : qm_Hp) : qm_ilen s 12 = 48 := rfl
theorem il_13 (s : qm_Hp) : qm_ilen s 13 = 48 := rfl
theorem il_14 (s : qm_Hp) : qm_ilen s 14 = 48 := rfl
theorem il_15 (s : qm_Hp) : qm_ilen s 15 = 48 := rfl
theorem il_16 (s : qm_Hp) : qm_ilen s 16 = 48 := rfl
theorem il_17 (s : qm_Hp) : qm_ilen s 17 = 6 := rfl
theorem il_21 (s : qm_Hp) : qm_ilen s 21 = 12 := rfl
theorem il_22 (s : qm_Hp) : qm_ilen s 22 = 12 := rfl
theorem il_23 (s : qm_Hp) : qm_ilen s 23 = 12 := rfl
theorem il_24 (s : qm_Hp) : qm_ilen s 24 = 12 := rfl
theorem il_25 (s : qm_Hp) : qm_ilen s 25 = 40 := rfl
theorem il_26 (s : qm_Hp) : qm_ilen s 26 = 4 := rfl
theorem il_27 (s : qm_Hp) : qm_ilen s 27 = 4 := rfl
theorem il_28 (s : qm_Hp) : qm_ilen s 28 = 6 := rfl
theorem il_31 (s : qm_Hp) : qm_ilen s 31 = 300 := rfl
theorem il_32 (s : qm_Hp) : qm_ilen s 32 = 20 := rfl
theorem il_33 (s : qm_Hp) : qm_ilen s 33 = 20 := rfl
theorem il_34 (s : qm_Hp) : qm_ilen s 34 = 20 := rfl
theorem il_35 (s : qm_Hp) : qm_ilen s 35 = 5 := rfl
theorem il_41 (s : qm_Hp) : qm_ilen s 41 = 17 := rfl
theorem il_42 (s : qm_Hp) : qm_ilen s 42 = 40 := rfl
theorem il_43 (s : qm_Hp) : qm_ilen s 43 = 301 := rfl
theorem il_44 (s : qm_Hp) : qm_ilen s 44 = 301 := rfl
theorem il_45 (s : qm_Hp) : qm_ilen s 45 = 301 := rfl
theorem il_47 (s : qm_Hp) : qm_ilen s 47 = 5 := rfl
theorem il_48 (s : qm_Hp) : qm_ilen s 48 = 5 := rfl
theorem il_52 (s : qm_Hp) : qm_ilen s 52 = 300 := rfl
theorem il_53 (s : qm_Hp) : qm_ilen s 53 = 48 := rfl
theorem il_54 (s : qm_Hp) : qm_ilen s 54 = 8 := rfl
theorem il_55 (s : qm_Hp) : qm_ilen s 55 = 8 := rfl
theorem il_61 (s : qm_Hp) : qm_ilen s 61 = 3360 := rfl
theorem il_62 (s : qm_Hp) : qm_ilen s 62 = 2880 := rfl
theorem il_63 (s : qm_Hp) : qm_ilen s 63 = 300 := rfl
theorem il_64 (s : qm_Hp) : qm_ilen s 64 = 160 := rfl
theorem il_65 (s : qm_Hp) : qm_ilen s 65 = 17 := rfl
theorem il_68 (s : qm_Hp) : qm_ilen s 68 = 48 := rfl
theorem il_69 (s : qm_Hp) : qm_ilen s 69 = 5 := rfl
theorem il_70 (s : qm_Hp) : qm_ilen s 70 = 6 := rfl
theorem il_71 (s : qm_Hp) : qm_ilen s 71 = 5 := rfl
theorem il_72 (s : qm_Hp) : qm_ilen s 72 = 8 := rfl
theorem il_73 (s : qm_Hp) : qm_ilen s 73 = 8 := rfl
theorem il_74 (s : qm_Hp) : qm_ilen s 74 = 48 := rfl
theorem il_75 (s : qm_Hp) : qm_ilen s 75 = 48 := rfl
def qil := And.intro il_11 <| And.intro il_12 <| And.intro il_13 <| And.intro il_14 <| And.intro il_15 <| And.intro il_16 <| And.intro il_17 <| And.intro il_21 <| And.intro il_22 <| And.intro il_23 <| And.intro il_24 <| And.intro il_25 <| And.intro il_26 <| And.intro il_27 <| And.intro il_28 <| And.intro il_31 <| And.intro il_32 <| And.intro il_33 <| And.intro il_34 <| And.intro il_35 <| And.intro il_41 <| And.intro il_42 <| And.intro il_43 <| And.intro il_44 <| And.intro il_45 <| And.intro il_47 <| And.intro il_48 <| And.intro il_52 <| And.intro il_53 <| And.intro il_54 <| And.intro il_55 <| And.intro il_61 <| And.intro il_62 <| And.intro il_63 <| And.intro il_64 <| And.intro il_65 <| And.intro il_68 <| And.intro il_69 <| And.intro il_70 <| And.intro il_71 <| And.intro il_72 <| And.intro il_73 <| And.intro il_74 il_75
