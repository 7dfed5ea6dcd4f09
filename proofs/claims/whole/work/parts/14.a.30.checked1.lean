theorem qk_5 : ∀ m ∈ [60, 61, 62, 63, 64, 65, 66, 67, 68, 69, 70, 71], qk_m m = true := by decide +kernel
theorem qk_6 : ∀ m ∈ [72, 73, 74, 75, 76, 77, 78, 79, 80, 81, 82, 83], qk_m m = true := by decide +kernel
theorem qk_7 : ∀ m ∈ [84, 85, 86, 87, 88, 89, 90, 91, 92, 93, 94, 95], qk_m m = true := by decide +kernel
theorem qk_8 : ∀ m ∈ [96, 97, 98, 99, 100, 101, 102, 103, 104, 105, 106, 107], qk_m m = true := by decide +kernel
theorem qk_9 : ∀ m ∈ [108, 109, 110, 111, 112, 113, 114, 115, 116, 117, 118, 119], qk_m m = true := by decide +kernel
