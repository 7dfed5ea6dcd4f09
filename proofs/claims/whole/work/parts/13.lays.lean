/-! the words of the fields -/
theorem lay_X0 : ∀ k, k < 3 → qm_Tb (u_lay RX0 TX0 k) := by
  intro k hk
  match k, hk with
  | 0, _ => exact ⟨qm_in1 71 rfl, rfl⟩
  | 1, _ => exact ⟨qm_in1 73 rfl, rfl⟩
  | 2, _ => exact ⟨qm_in1 75 rfl, rfl⟩
  | k + 3, hk => omega
theorem lay_X1 : ∀ k, k < 13 → qm_Tb (u_lay RX1 TX1 k) := by
  intro k hk
  match k, hk with
  | 0, _ => exact ⟨qm_in1 184 rfl, rfl⟩
  | 1, _ => exact ⟨qm_in1 186 rfl, rfl⟩
  | 2, _ => exact ⟨qm_in1 188 rfl, rfl⟩
  | 3, _ => exact ⟨qm_in1 190 rfl, rfl⟩
  | 4, _ => exact ⟨qm_in1 192 rfl, rfl⟩
  | 5, _ => exact ⟨qm_in1 194 rfl, rfl⟩
  | 6, _ => exact ⟨qm_in1 196 rfl, rfl⟩
  | 7, _ => exact ⟨qm_in1 198 rfl, rfl⟩
  | 8, _ => exact ⟨qm_in1 200 rfl, rfl⟩
  | 9, _ => exact ⟨qm_in1 202 rfl, rfl⟩
  | 10, _ => exact ⟨qm_in1 204 rfl, rfl⟩
  | 11, _ => exact ⟨qm_in1 206 rfl, rfl⟩
  | 12, _ => exact ⟨qm_in1 208 rfl, rfl⟩
  | k + 13, hk => omega
theorem lay_X2 : ∀ k, k < 6 → qm_Tb (u_lay RX2 TX2 k) := by
  intro k hk
  match k, hk with
  | 0, _ => exact ⟨qm_in1 115 rfl, rfl⟩
  | 1, _ => exact ⟨qm_in1 117 rfl, rfl⟩
  | 2, _ => exact ⟨qm_in1 119 rfl, rfl⟩
  | 3, _ => exact ⟨qm_in1 121 rfl, rfl⟩
  | 4, _ => exact ⟨qm_in1 123 rfl, rfl⟩
  | 5, _ => exact ⟨qm_in1 125 rfl, rfl⟩
  | k + 6, hk => omega
theorem lay_X3 : ∀ k, k < 5 → qm_Tb (u_lay RX3 TX3 k) := by
  intro k hk
  match k, hk with
  | 0, _ => exact ⟨qm_in2 48 rfl, rfl⟩
  | 1, _ => exact ⟨qm_in2 50 rfl, rfl⟩
  | 2, _ => exact ⟨qm_in2 52 rfl, rfl⟩
  | 3, _ => exact ⟨qm_in2 54 rfl, rfl⟩
  | 4, _ => exact ⟨qm_in2 56 rfl, rfl⟩
  | k + 5, hk => omega
theorem lay_X4 : ∀ k, k < 7 → qm_Tb (u_lay RX4 TX4 k) := by
  intro k hk
  match k, hk with
  | 0, _ => exact ⟨qm_in1 45 rfl, rfl⟩
  | 1, _ => exact ⟨qm_in1 47 rfl, rfl⟩
  | 2, _ => exact ⟨qm_in1 49 rfl, rfl⟩
  | 3, _ => exact ⟨qm_in1 51 rfl, rfl⟩
  | 4, _ => exact ⟨qm_in1 53 rfl, rfl⟩
  | 5, _ => exact ⟨qm_in1 55 rfl, rfl⟩
  | 6, _ => exact ⟨qm_in1 57 rfl, rfl⟩
  | k + 7, hk => omega
theorem lay_X5 : ∀ k, k < 4 → qm_Tb (u_lay RX5 TX5 k) := by
  intro k hk
  match k, hk with
  | 0, _ => exact ⟨qm_in1 98 rfl, rfl⟩
  | 1, _ => exact ⟨qm_in1 100 rfl, rfl⟩
  | 2, _ => exact ⟨qm_in1 102 rfl, rfl⟩
  | 3, _ => exact ⟨qm_in1 104 rfl, rfl⟩
  | k + 4, hk => omega
theorem lay_X6 : ∀ k, k < 13 → qm_Tb (u_lay RX6 TX6 k) := by
  intro k hk
  match k, hk with
  | 0, _ => exact ⟨qm_in2 2 rfl, rfl⟩
  | 1, _ => exact ⟨qm_in2 4 rfl, rfl⟩
  | 2, _ => exact ⟨qm_in2 6 rfl, rfl⟩
  | 3, _ => exact ⟨qm_in2 8 rfl, rfl⟩
  | 4, _ => exact ⟨qm_in2 10 rfl, rfl⟩
  | 5, _ => exact ⟨qm_in2 12 rfl, rfl⟩
  | 6, _ => exact ⟨qm_in2 14 rfl, rfl⟩
  | 7, _ => exact ⟨qm_in2 16 rfl, rfl⟩
  | 8, _ => exact ⟨qm_in2 18 rfl, rfl⟩
  | 9, _ => exact ⟨qm_in2 20 rfl, rfl⟩
  | 10, _ => exact ⟨qm_in2 22 rfl, rfl⟩
  | 11, _ => exact ⟨qm_in2 24 rfl, rfl⟩
  | 12, _ => exact ⟨qm_in2 26 rfl, rfl⟩
  | k + 13, hk => omega
theorem lay_X7 : ∀ k, k < 15 → qm_Tb (u_lay RX7 TX7 k) := by
  intro k hk
  match k, hk with
  | 0, _ => exact ⟨qm_in2 74 rfl, rfl⟩
  | 1, _ => exact ⟨qm_in2 76 rfl, rfl⟩
  | 2, _ => exact ⟨qm_in2 78 rfl, rfl⟩
  | 3, _ => exact ⟨qm_in2 80 rfl, rfl⟩
  | 4, _ => exact ⟨qm_in2 82 rfl, rfl⟩
  | 5, _ => exact ⟨qm_in2 84 rfl, rfl⟩
  | 6, _ => exact ⟨qm_in2 86 rfl, rfl⟩
  | 7, _ => exact ⟨qm_in2 88 rfl, rfl⟩
  | 8, _ => exact ⟨qm_in2 90 rfl, rfl⟩
  | 9, _ => exact ⟨qm_in2 92 rfl, rfl⟩
  | 10, _ => exact ⟨qm_in2 94 rfl, rfl⟩
  | 11, _ => exact ⟨qm_in2 96 rfl, rfl⟩
  | 12, _ => exact ⟨qm_in2 98 rfl, rfl⟩
  | 13, _ => exact ⟨qm_in2 100 rfl, rfl⟩
  | 14, _ => exact ⟨qm_in2 102 rfl, rfl⟩
  | k + 15, hk => omega
theorem lay_X8 : ∀ k, k < 37 → qm_Tb (u_lay RX8 TX8 k) := by
  intro k hk
  match k, hk with
  | 0, _ => exact ⟨qm_in5 3 rfl, rfl⟩
  | 1, _ => exact ⟨qm_in5 5 rfl, rfl⟩
  | 2, _ => exact ⟨qm_in5 7 rfl, rfl⟩
  | 3, _ => exact ⟨qm_in5 9 rfl, rfl⟩
  | 4, _ => exact ⟨qm_in5 11 rfl, rfl⟩
  | 5, _ => exact ⟨qm_in5 13 rfl, rfl⟩
  | 6, _ => exact ⟨qm_in5 15 rfl, rfl⟩
  | 7, _ => exact ⟨qm_in5 17 rfl, rfl⟩
  | 8, _ => exact ⟨qm_in5 19 rfl, rfl⟩
  | 9, _ => exact ⟨qm_in5 21 rfl, rfl⟩
  | 10, _ => exact ⟨qm_in5 23 rfl, rfl⟩
  | 11, _ => exact ⟨qm_in5 25 rfl, rfl⟩
  | 12, _ => exact ⟨qm_in5 27 rfl, rfl⟩
  | 13, _ => exact ⟨qm_in5 29 rfl, rfl⟩
  | 14, _ => exact ⟨qm_in5 31 rfl, rfl⟩
  | 15, _ => exact ⟨qm_in5 33 rfl, rfl⟩
  | 16, _ => exact ⟨qm_in5 35 rfl, rfl⟩
  | 17, _ => exact ⟨qm_in5 37 rfl, rfl⟩
  | 18, _ => exact ⟨qm_in5 39 rfl, rfl⟩
  | 19, _ => exact ⟨qm_in5 41 rfl, rfl⟩
  | 20, _ => exact ⟨qm_in5 43 rfl, rfl⟩
  | 21, _ => exact ⟨qm_in5 45 rfl, rfl⟩
  | 22, _ => exact ⟨qm_in5 47 rfl, rfl⟩
  | 23, _ => exact ⟨qm_in5 49 rfl, rfl⟩
  | 24, _ => exact ⟨qm_in5 51 rfl, rfl⟩
  | 25, _ => exact ⟨qm_in5 53 rfl, rfl⟩
  | 26, _ => exact ⟨qm_in5 55 rfl, rfl⟩
  | 27, _ => exact ⟨qm_in5 57 rfl, rfl⟩
  | 28, _ => exact ⟨qm_in5 59 rfl, rfl⟩
  | 29, _ => exact ⟨qm_in5 61 rfl, rfl⟩
  | 30, _ => exact ⟨qm_in5 63 rfl, rfl⟩
  | 31, _ => exact ⟨qm_in5 65 rfl, rfl⟩
  | 32, _ => exact ⟨qm_in5 67 rfl, rfl⟩
  | 33, _ => exact ⟨qm_in5 69 rfl, rfl⟩
  | 34, _ => exact ⟨qm_in5 71 rfl, rfl⟩
  | 35, _ => exact ⟨qm_in5 73 rfl, rfl⟩
  | 36, _ => exact ⟨qm_in5 75 rfl, rfl⟩
  | k + 37, hk => omega
theorem lay_in {C : String} {T : u_T} {N : Nat} (h : ∀ k, k < N → qm_Tb (u_lay C T k)) : ∀ w ∈ u_ws C T N, w ∈ qm_tb := by
  intro w hw
  obtain ⟨k, hk, rfl⟩ := List.mem_map.mp hw
  exact (h k (List.mem_range.mp hk)).tb
theorem qm_lay_in {k : Nat} (hk : 1 ≤ k ∧ k ≤ 9) : ∀ w ∈ u_ws (qm_R k) (qm_T k) (qm_nf k), w ∈ qm_tb := by
  have h : k = 1 ∨ k = 2 ∨ k = 3 ∨ k = 4 ∨ k = 5 ∨ k = 6 ∨ k = 7 ∨ k = 8 ∨ k = 9 := by omega
  rcases h with rfl | rfl | rfl | rfl | rfl | rfl | rfl | rfl | rfl
  · exact lay_in lay_X7
  · exact lay_in lay_X6
  · exact lay_in lay_X1
  · exact lay_in lay_X4
  · exact lay_in lay_X0
  · exact lay_in lay_X2
  · exact lay_in lay_X5
  · exact lay_in lay_X3
  · exact lay_in lay_X8
def qm_Ty (k : Nat) : Nat → FieldType := match k with
  | 1 => tyX7 | 2 => tyX6 | 3 => tyX1 | 4 => tyX4 | 5 => tyX0 | 6 => tyX2 | 7 => tyX5 | 8 => tyX3 | _ => tyX8
theorem qm_Ty_ok {k : Nat} (hk : 1 ≤ k ∧ k ≤ 9) : ∀ f, f < qm_nf k → parseFieldDescriptor (qm_T k f).2.2.1 = some (qm_Ty k f) := by
  have h : k = 1 ∨ k = 2 ∨ k = 3 ∨ k = 4 ∨ k = 5 ∨ k = 6 ∨ k = 7 ∨ k = 8 ∨ k = 9 := by omega
  rcases h with rfl | rfl | rfl | rfl | rfl | rfl | rfl | rfl | rfl
  · exact tyX7_ok
  · exact tyX6_ok
  · exact tyX1_ok
  · exact tyX4_ok
  · exact tyX0_ok
  · exact tyX2_ok
  · exact tyX5_ok
  · exact tyX3_ok
  · exact tyX8_ok
theorem qm_nm_ok {k : Nat} (hk : 1 ≤ k ∧ k ≤ 9) : ∀ a, a < qm_nf k → ∀ b, b < qm_nf k → a ≠ b → (qm_T k a).2.1 ≠ (qm_T k b).2.1 := by
  have h : k = 1 ∨ k = 2 ∨ k = 3 ∨ k = 4 ∨ k = 5 ∨ k = 6 ∨ k = 7 ∨ k = 8 ∨ k = 9 := by omega
  rcases h with rfl | rfl | rfl | rfl | rfl | rfl | rfl | rfl | rfl
  · exact nmX7
  · exact nmX6
  · exact nmX1
  · exact nmX4
  · exact nmX0
  · exact nmX2
  · exact nmX5
  · exact nmX3
  · exact nmX8
/-- of every field that a link names: its class is the link's, its type is its kind's -/
theorem qm_flk_ty : qm_flk.all (fun e => decide (1 ≤ e.2.2.1 ∧ e.2.2.1 ≤ 9) && decide (e.2.2.2 < qm_nf e.2.2.1) && decide ((qm_T e.2.2.1 e.2.2.2).1 = qm_R e.2.2.1)) = true := by decide +kernel
theorem qm_fk_ty : ∀ k, k < 10 → ∀ f, f < 37 → (qm_fk k f = 0 → qm_Ty k f = .int) ∧ (qm_fk k f = 1 → qm_Ty k f = .boolean) ∧ (qm_fk k f = 2 → qm_Ty k f = .long) ∧ (qm_fk k f = 4 → qm_Ty k f = .object "WoodStack$Text") ∧ (qm_fk k f = 3 → 1 ≤ (qm_ft k f).1) := by decide +kernel
