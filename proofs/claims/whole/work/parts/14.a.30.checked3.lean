theorem qk_15 : ∀ m ∈ [180, 181, 182, 183, 184, 185, 186, 187, 188, 189, 190, 191], qk_m m = true := by decide +kernel
theorem qk_16 : ∀ m ∈ [192, 193, 194, 195, 196, 197, 198, 199, 200, 201, 202, 203], qk_m m = true := by decide +kernel
theorem qk_17 : ∀ m ∈ [204, 205, 206, 207, 208, 209, 210, 211, 212, 213, 214, 215], qk_m m = true := by decide +kernel
theorem qk_18 : ∀ m ∈ [216, 217, 218, 219, 220, 221, 222, 223, 224, 225, 226, 227], qk_m m = true := by decide +kernel
theorem qk_19 : ∀ m ∈ [228, 229, 230, 231, 232, 233, 234, 235, 236, 237, 238, 239], qk_m m = true := by decide +kernel
