theorem qk_0 : ∀ m ∈ [0, 1, 2, 3, 4, 5, 6, 7, 8, 9, 10, 11], qk_m m = true := by decide +kernel
theorem qk_1 : ∀ m ∈ [12, 13, 14, 15, 16, 17, 18, 19, 20, 21, 22, 23], qk_m m = true := by decide +kernel
theorem qk_2 : ∀ m ∈ [24, 25, 26, 27, 28, 29, 30, 31, 32, 33, 34, 35], qk_m m = true := by decide +kernel
theorem qk_3 : ∀ m ∈ [36, 37, 38, 39, 40, 41, 42, 43, 44, 45, 46, 47], qk_m m = true := by decide +kernel
theorem qk_4 : ∀ m ∈ [48, 49, 50, 51, 52, 53, 54, 55, 56, 57, 58, 59], qk_m m = true := by decide +kernel
