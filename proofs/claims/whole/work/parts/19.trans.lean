theorem qm_nest_form : ∀ w ∈ qm_nest, ∃ a i y z, w = Cond.methodLinkNest a i y z := by
  unfold qm_nest
  repeat' first | exact fun _ h => absurd h List.not_mem_nil | refine List.forall_mem_cons.mpr ⟨⟨_, _, _, _, rfl⟩, ?_⟩
section QEN
variable {B0 sb sa sv L : Nat} {xs : Nat → Int32} {dC : Nat → ClassId} {dI : Nat → Nat → Nat} {cs : Nat × Nat × Nat × Nat × Nat} {U V s : State}
theorem qm_Env.to (hvm : U.vm = V.vm) (hh : V.heap = U.heap) (E : qm_Env B0 sb sa sv L xs dC dI cs U) : qm_Env B0 sb sa sv L xs dC dI cs V := by
  have al : U.vm.Alike V.vm := by rw [hvm]; exact Vm.Alike.refl _
  obtain ⟨k, nw, x, h1, h2, h3, r, sS, z, v, hv, z2⟩ := E
  refine ⟨k.moved al, fun w hw => ?_, ?_, h1, h2, by rw [hh]; exact h3, vk_R.same hvm.symm r, ?_, ?_, v, hv, ?_⟩
  · obtain ⟨a, i, y, b, rfl⟩ := qm_nest_form w hw
    exact va_Nw.same rfl hvm (nw _ hw)
  · rw [hh]; exact x.moved al
  · rw [hh]; exact sS.moved al
  · rw [hh]; exact z.moved al
  · rw [hh]; exact z2.moved al
theorem qm_Env.warm (hW : s.WarmedH V.vm) (hsz : s.heap.size ≤ V.heap.size) (hk : ∀ q : Nat, q < s.heap.size → ¬ B0 ≤ q → V.heap[q]? = s.heap[q]?) (E : qm_Env B0 sb sa sv L xs dC dI cs s) : qm_Env B0 sb sa sv L xs dC dI cs V := by
  have al : s.vm.Alike V.vm := hW.alike
  obtain ⟨k, nw, x, h1, h2, h3, r, sS, z, v, hv, z2⟩ := E
  refine ⟨k.moved al, fun w hw => ?_, ?_, h1, h2, Nat.le_trans h3 hsz, vk_R.warm hW r, ?_, ?_, v, hv, ?_⟩
  · obtain ⟨a, i, y, b, rfl⟩ := qm_nest_form w hw
    exact va_Nw.warmM hW (nw _ hw)
  · exact (x.kept (hk sb (Nat.lt_of_lt_of_le h1 h3) (Nat.not_le.mpr h1))).moved al
  · exact (sS.kept hk).moved al
  · exact (z.kept hk).moved al
  · exact (z2.kept hk).moved al
end QEN
