theorem e_C_within (d : Nat) (s : qm_Hp) (a0 : Int32) (a1 : Int32) (a2 : Int32) : qm_evM d jC_within [qI a0, qI a1, qI a2] s = qm_evB d jC_within 0 [qI a0, qI a1, qI a2] [] s := rfl
theorem b_C_within_0 (d : Nat) (ls st : List qm_AV) (s : qm_Hp) : qm_evB d jC_within 0 ls st s = qm_ev d jC_within [(2, [0], 0), (2, [1], 0), (60, [2, 1], 0), (2, [0], 0), (2, [2], 0), (60, [4, 1], 0), (0, [], 1), (63, [2], 0)] ls st s := rfl
theorem b_C_within_1 (d : Nat) (ls st : List qm_AV) (s : qm_Hp) : qm_evB d jC_within 1 ls st s = qm_ev d jC_within [(0, [], 0), (64, [2], 0)] ls st s := rfl
theorem b_C_within_2 (d : Nat) (ls st : List qm_AV) (s : qm_Hp) : qm_evB d jC_within 2 ls st s = qm_ev d jC_within [(73, [], 0)] ls st s := rfl
theorem e_M_isIn (d : Nat) (s : qm_Hp) (a0 : Int32) (a1 : Int32) (a2 : Int32) : qm_evM d jM_isIn [qI a0, qI a1, qI a2] s = qm_evB d jM_isIn 0 [qI a0, qI a1, qI a2] [] s := rfl
theorem b_M_isIn_0 (d : Nat) (ls st : List qm_AV) (s : qm_Hp) : qm_evB d jM_isIn 0 ls st s = qm_ev d jM_isIn [(2, [0], 0), (2, [1], 0), (60, [2, 1], 0), (2, [0], 0), (2, [2], 0), (60, [4, 1], 0), (0, [], 1), (63, [2], 0)] ls st s := rfl
theorem b_M_isIn_1 (d : Nat) (ls st : List qm_AV) (s : qm_Hp) : qm_evB d jM_isIn 1 ls st s = qm_ev d jM_isIn [(0, [], 0), (64, [2], 0)] ls st s := rfl
theorem b_M_isIn_2 (d : Nat) (ls st : List qm_AV) (s : qm_Hp) : qm_evB d jM_isIn 2 ls st s = qm_ev d jM_isIn [(73, [], 0)] ls st s := rfl
theorem e_C_placeOf (d : Nat) (s : qm_Hp) (a0 : Int32) (a1 : Int32) : qm_evM d jC_placeOf [qI a0, qI a1] s = qm_evB d jC_placeOf 0 [qI a0, qI a1] [] s := rfl
theorem b_C_placeOf_0 (d : Nat) (ls st : List qm_AV) (s : qm_Hp) : qm_evB d jC_placeOf 0 ls st s = qm_ev d jC_placeOf [(2, [0], 0), (0, [], 8), (12, [], 0), (2, [1], 0), (10, [], 0), (70, [], 0)] ls st s := rfl
theorem e_P_splits (d : Nat) (s : qm_Hp) (a0 : Nat) : qm_evM d jP_splits [qP 3 a0] s = qm_evB d jP_splits 0 [qP 3 a0, qU, qU] [] s := rfl
theorem b_P_splits_0 (d : Nat) (ls st : List qm_AV) (s : qm_Hp) : qm_evB d jP_splits 0 ls st s = qm_ev d jP_splits [(0, [], 0), (5, [1], 0), (0, [], 0), (5, [2], 0), (64, [1], 0)] ls st s := rfl
theorem b_P_splits_1 (d : Nat) (ls st : List qm_AV) (s : qm_Hp) : qm_evB d jP_splits 1 ls st s = qm_ev d jP_splits [(2, [2], 0), (4, [0], 0), (40, [3, 0], 0), (60, [3, 2], 0), (2, [1], 0), (4, [0], 0), (42, [3, 7, 17, 1, 0], 0), (2, [2], 0), (50, [], 0), (10, [], 0), (5, [1], 0), (8, [2], 1), (63, [1], 0)] ls st s := rfl
theorem b_P_splits_2 (d : Nat) (ls st : List qm_AV) (s : qm_Hp) : qm_evB d jP_splits 2 ls st s = qm_ev d jP_splits [(2, [1], 0), (70, [], 0)] ls st s := rfl
