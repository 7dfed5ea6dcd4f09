theorem e_W_cell (d : Nat) (s : qm_Hp) (k0 a0 : Nat) (a1 : Int32) : qm_evM d jW_cell [qP k0 a0, qI a1] s = qm_evB d jW_cell 0 [qP k0 a0, qI a1] [] s := rfl
theorem b_W_cell_0 (d : Nat) (ls st : List qm_AV) (s : qm_Hp) : qm_evB d jW_cell 0 ls st s = qm_ev d jW_cell [(2, [1], 0), (4, [0], 0), (57, [], 0), (60, [3, 1], 0), (4, [0], 0), (2, [1], 0), (50, [], 0), (63, [2], 0)] ls st s := rfl
theorem b_W_cell_1 (d : Nat) (ls st : List qm_AV) (s : qm_Hp) : qm_evB d jW_cell 1 ls st s = qm_ev d jW_cell [(0, [], 0), (64, [2], 0)] ls st s := rfl
theorem b_W_cell_2 (d : Nat) (ls st : List qm_AV) (s : qm_Hp) : qm_evB d jW_cell 2 ls st s = qm_ev d jW_cell [(70, [], 0)] ls st s := rfl
