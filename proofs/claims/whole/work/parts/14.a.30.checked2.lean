theorem qk_10 : ∀ m ∈ [120, 121, 122, 123, 124, 125, 126, 127, 128, 129, 130, 131], qk_m m = true := by decide +kernel
theorem qk_11 : ∀ m ∈ [132, 133, 134, 135, 136, 137, 138, 139, 140, 141, 142, 143], qk_m m = true := by decide +kernel
theorem qk_12 : ∀ m ∈ [144, 145, 146, 147, 148, 149, 150, 151, 152, 153, 154, 155], qk_m m = true := by decide +kernel
theorem qk_13 : ∀ m ∈ [156, 157, 158, 159, 160, 161, 162, 163, 164, 165, 166, 167], qk_m m = true := by decide +kernel
theorem qk_14 : ∀ m ∈ [168, 169, 170, 171, 172, 173, 174, 175, 176, 177, 178, 179], qk_m m = true := by decide +kernel
