theorem s_within (d : Nat) (s : qm_Hp) (a b c : Int32) : qm_evM d jC_within [qI a, qI b, qI c] s = some (some (qI (if b ≤ a ∧ a ≤ c then 1 else 0)), s) := by
  simp only [e_C_within, b_C_within_0, b_C_within_1, b_C_within_2, qx, qe, List.length_cons, List.length_nil]
  done
theorem s_holds (d : Nat) (s : qm_Hp) (i : Nat) (a b : Int32) : qm_evM d jP_holds [qP 3 i, qI a, qI b] s = none := by
  simp only [e_P_holds, b_P_holds_0, b_P_holds_1, b_P_holds_2, qx, qe, List.length_cons, List.length_nil]
  done
theorem s_add (d : Nat) (s : qm_Hp) (i : Nat) (a b c e : Int32) : qm_evM (d + 1) jP_add [qP 3 i, qI a, qI b, qI c, qI e] s = none := by
  simp only [e_P_add, b_P_add_0, b_P_add_1, b_P_add_2, qx, qe, List.length_cons, List.length_nil, s_within]
  done
