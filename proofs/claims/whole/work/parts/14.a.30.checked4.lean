theorem qk_20 : ∀ m ∈ [240], qk_m m = true := by decide +kernel
