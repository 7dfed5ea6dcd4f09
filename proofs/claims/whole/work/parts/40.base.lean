/-! constants, small facts for symbolic runs -/
theorem ic_m100000 : Int32.ofInt (-100000) = (-100000) := rfl
theorem ic_m8 : Int32.ofInt (-8) = (-8) := rfl
theorem ic_m2 : Int32.ofInt (-2) = (-2) := rfl
theorem ic_m1 : Int32.ofInt (-1) = (-1) := rfl
theorem ic_0 : Int32.ofInt 0 = 0 := rfl
theorem ic_1 : Int32.ofInt 1 = 1 := rfl
theorem ic_2 : Int32.ofInt 2 = 2 := rfl
theorem ic_3 : Int32.ofInt 3 = 3 := rfl
theorem ic_4 : Int32.ofInt 4 = 4 := rfl
theorem ic_5 : Int32.ofInt 5 = 5 := rfl
theorem ic_6 : Int32.ofInt 6 = 6 := rfl
theorem ic_7 : Int32.ofInt 7 = 7 := rfl
theorem ic_8 : Int32.ofInt 8 = 8 := rfl
theorem ic_9 : Int32.ofInt 9 = 9 := rfl
theorem ic_10 : Int32.ofInt 10 = 10 := rfl
theorem ic_11 : Int32.ofInt 11 = 11 := rfl
theorem ic_12 : Int32.ofInt 12 = 12 := rfl
theorem ic_13 : Int32.ofInt 13 = 13 := rfl
theorem ic_14 : Int32.ofInt 14 = 14 := rfl
theorem ic_15 : Int32.ofInt 15 = 15 := rfl
theorem ic_16 : Int32.ofInt 16 = 16 := rfl
theorem ic_17 : Int32.ofInt 17 = 17 := rfl
theorem ic_18 : Int32.ofInt 18 = 18 := rfl
theorem ic_19 : Int32.ofInt 19 = 19 := rfl
theorem ic_20 : Int32.ofInt 20 = 20 := rfl
theorem ic_21 : Int32.ofInt 21 = 21 := rfl
theorem ic_22 : Int32.ofInt 22 = 22 := rfl
theorem ic_23 : Int32.ofInt 23 = 23 := rfl
theorem ic_24 : Int32.ofInt 24 = 24 := rfl
theorem ic_25 : Int32.ofInt 25 = 25 := rfl
theorem ic_26 : Int32.ofInt 26 = 26 := rfl
theorem ic_29 : Int32.ofInt 29 = 29 := rfl
theorem ic_31 : Int32.ofInt 31 = 31 := rfl
theorem ic_32 : Int32.ofInt 32 = 32 := rfl
theorem ic_35 : Int32.ofInt 35 = 35 := rfl
theorem ic_39 : Int32.ofInt 39 = 39 := rfl
theorem ic_40 : Int32.ofInt 40 = 40 := rfl
theorem ic_41 : Int32.ofInt 41 = 41 := rfl
theorem ic_42 : Int32.ofInt 42 = 42 := rfl
theorem ic_43 : Int32.ofInt 43 = 43 := rfl
theorem ic_44 : Int32.ofInt 44 = 44 := rfl
theorem ic_45 : Int32.ofInt 45 = 45 := rfl
theorem ic_46 : Int32.ofInt 46 = 46 := rfl
theorem ic_47 : Int32.ofInt 47 = 47 := rfl
theorem ic_48 : Int32.ofInt 48 = 48 := rfl
theorem ic_49 : Int32.ofInt 49 = 49 := rfl
theorem ic_50 : Int32.ofInt 50 = 50 := rfl
theorem ic_51 : Int32.ofInt 51 = 51 := rfl
theorem ic_52 : Int32.ofInt 52 = 52 := rfl
theorem ic_53 : Int32.ofInt 53 = 53 := rfl
theorem ic_54 : Int32.ofInt 54 = 54 := rfl
theorem ic_55 : Int32.ofInt 55 = 55 := rfl
theorem ic_56 : Int32.ofInt 56 = 56 := rfl
theorem ic_57 : Int32.ofInt 57 = 57 := rfl
theorem ic_59 : Int32.ofInt 59 = 59 := rfl
theorem ic_60 : Int32.ofInt 60 = 60 := rfl
theorem ic_61 : Int32.ofInt 61 = 61 := rfl
theorem ic_62 : Int32.ofInt 62 = 62 := rfl
theorem ic_65 : Int32.ofInt 65 = 65 := rfl
theorem ic_70 : Int32.ofInt 70 = 70 := rfl
theorem ic_90 : Int32.ofInt 90 = 90 := rfl
theorem ic_97 : Int32.ofInt 97 = 97 := rfl
theorem ic_98 : Int32.ofInt 98 = 98 := rfl
theorem ic_99 : Int32.ofInt 99 = 99 := rfl
theorem ic_100 : Int32.ofInt 100 = 100 := rfl
theorem ic_101 : Int32.ofInt 101 = 101 := rfl
theorem ic_103 : Int32.ofInt 103 = 103 := rfl
theorem ic_104 : Int32.ofInt 104 = 104 := rfl
theorem ic_105 : Int32.ofInt 105 = 105 := rfl
theorem ic_107 : Int32.ofInt 107 = 107 := rfl
theorem ic_108 : Int32.ofInt 108 = 108 := rfl
theorem ic_109 : Int32.ofInt 109 = 109 := rfl
theorem ic_110 : Int32.ofInt 110 = 110 := rfl
theorem ic_111 : Int32.ofInt 111 = 111 := rfl
theorem ic_112 : Int32.ofInt 112 = 112 := rfl
theorem ic_114 : Int32.ofInt 114 = 114 := rfl
theorem ic_115 : Int32.ofInt 115 = 115 := rfl
theorem ic_116 : Int32.ofInt 116 = 116 := rfl
theorem ic_117 : Int32.ofInt 117 = 117 := rfl
theorem ic_119 : Int32.ofInt 119 = 119 := rfl
theorem ic_120 : Int32.ofInt 120 = 120 := rfl
theorem ic_121 : Int32.ofInt 121 = 121 := rfl
theorem ic_122 : Int32.ofInt 122 = 122 := rfl
theorem ic_130 : Int32.ofInt 130 = 130 := rfl
theorem ic_163 : Int32.ofInt 163 = 163 := rfl
theorem ic_200 : Int32.ofInt 200 = 200 := rfl
theorem ic_255 : Int32.ofInt 255 = 255 := rfl
theorem ic_280 : Int32.ofInt 280 = 280 := rfl
theorem ic_299 : Int32.ofInt 299 = 299 := rfl
theorem ic_300 : Int32.ofInt 300 = 300 := rfl
theorem ic_399 : Int32.ofInt 399 = 399 := rfl
theorem ic_420 : Int32.ofInt 420 = 420 := rfl
theorem ic_720 : Int32.ofInt 720 = 720 := rfl
theorem ic_999 : Int32.ofInt 999 = 999 := rfl
theorem ic_2000 : Int32.ofInt 2000 = 2000 := rfl
theorem ic_2500 : Int32.ofInt 2500 = 2500 := rfl
theorem ic_9999 : Int32.ofInt 9999 = 9999 := rfl
theorem ic_10000 : Int32.ofInt 10000 = 10000 := rfl
theorem ic_20000 : Int32.ofInt 20000 = 20000 := rfl
theorem ic_20026 : Int32.ofInt 20026 = 20026 := rfl
theorem ic_20057 : Int32.ofInt 20057 = 20057 := rfl
theorem ic_30097 : Int32.ofInt 30097 = 30097 := rfl
theorem ic_100000 : Int32.ofInt 100000 = 100000 := rfl
theorem ic_999999 : Int32.ofInt 999999 = 999999 := rfl
theorem lc_m1000000 : Int64.ofInt (-1000000) = (-1000000) := rfl
theorem lc_0 : Int64.ofInt 0 = 0 := rfl
theorem lc_1 : Int64.ofInt 1 = 1 := rfl
theorem lc_785 : Int64.ofInt 785 = 785 := rfl
theorem lc_1000 : Int64.ofInt 1000 = 1000 := rfl
theorem lc_28526 : Int64.ofInt 28526 = 28526 := rfl
theorem lc_28530 : Int64.ofInt 28530 = 28530 := rfl
theorem lc_1000000 : Int64.ofInt 1000000 = 1000000 := rfl
def qc := And.intro ic_m100000 <| And.intro ic_m8 <| And.intro ic_m2 <| And.intro ic_m1 <| And.intro ic_0 <| And.intro ic_1 <| And.intro ic_2 <| And.intro ic_3 <| And.intro ic_4 <| And.intro ic_5 <| And.intro ic_6 <| And.intro ic_7 <| And.intro ic_8 <| And.intro ic_9 <| And.intro ic_10 <| And.intro ic_11 <| And.intro ic_12 <| And.intro ic_13 <| And.intro ic_14 <| And.intro ic_15 <| And.intro ic_16 <| And.intro ic_17 <| And.intro ic_18 <| And.intro ic_19 <| And.intro ic_20 <| And.intro ic_21 <| And.intro ic_22 <| And.intro ic_23 <| And.intro ic_24 <| And.intro ic_25 <| And.intro ic_26 <| And.intro ic_29 <| And.intro ic_31 <| And.intro ic_32 <| And.intro ic_35 <| And.intro ic_39 <| And.intro ic_40 <| And.intro ic_41 <| And.intro ic_42 <| And.intro ic_43 <| And.intro ic_44 <| And.intro ic_45 <| And.intro ic_46 <| And.intro ic_47 <| And.intro ic_48 <| And.intro ic_49 <| And.intro ic_50 <| And.intro ic_51 <| And.intro ic_52 <| And.intro ic_53 <| And.intro ic_54 <| And.intro ic_55 <| And.intro ic_56 <| And.intro ic_57 <| And.intro ic_59 <| And.intro ic_60 <| And.intro ic_61 <| And.intro ic_62 <| And.intro ic_65 <| And.intro ic_70 <| And.intro ic_90 <| And.intro ic_97 <| And.intro ic_98 <| And.intro ic_99 <| And.intro ic_100 <| And.intro ic_101 <| And.intro ic_103 <| And.intro ic_104 <| And.intro ic_105 <| And.intro ic_107 <| And.intro ic_108 <| And.intro ic_109 <| And.intro ic_110 <| And.intro ic_111 <| And.intro ic_112 <| And.intro ic_114 <| And.intro ic_115 <| And.intro ic_116 <| And.intro ic_117 <| And.intro ic_119 <| And.intro ic_120 <| And.intro ic_121 <| And.intro ic_122 <| And.intro ic_130 <| And.intro ic_163 <| And.intro ic_200 <| And.intro ic_255 <| And.intro ic_280 <| And.intro ic_299 <| And.intro ic_300 <| And.intro ic_399 <| And.intro ic_420 <| And.intro ic_720 <| And.intro ic_999 <| And.intro ic_2000 <| And.intro ic_2500 <| And.intro ic_9999 <| And.intro ic_10000 <| And.intro ic_20000 <| And.intro ic_20026 <| And.intro ic_20057 <| And.intro ic_30097 <| And.intro ic_100000 <| And.intro ic_999999 <| And.intro lc_m1000000 <| And.intro lc_0 <| And.intro lc_1 <| And.intro lc_785 <| And.intro lc_1000 <| And.intro lc_28526 <| And.intro lc_28530 lc_1000000
theorem qz1 (c : Prop) [Decidable c] : ((if c then (1 : Int32) else 0) = 0 ∨ (if c then (1 : Int32) else 0) = 1) = True := by
  by_cases h : c <;> simp [h]
theorem qz2 (c : Prop) [Decidable c] : ((if c then (0 : Int32) else 1) = 0 ∨ (if c then (0 : Int32) else 1) = 1) = True := by
  by_cases h : c <;> simp [h]
theorem qz3 : ((0 : Int32) = 0 ∨ (0 : Int32) = 1) = True := by simp
theorem qz4 : ((1 : Int32) = 0 ∨ (1 : Int32) = 1) = True := by simp
theorem qz5 (c : Prop) [Decidable c] : ((if c then (1 : Int32) else 0) = 0) = ¬ c := by
  by_cases h : c <;> simp [h]
theorem qz6 (c : Prop) [Decidable c] : ((if c then (0 : Int32) else 1) = 0) = c := by
  by_cases h : c <;> simp [h]
theorem qz7 (c : Prop) [Decidable c] : ((if c then (1 : Int32) else 0) = 1) = c := by
  by_cases h : c <;> simp [h]
theorem qz8 (c : Prop) [Decidable c] : ((if c then (0 : Int32) else 1) = 1) = ¬ c := by
  by_cases h : c <;> simp [h]
theorem qz9 (c : Prop) : (¬ c ∨ c) = True := by
  by_cases h : c <;> simp [h]
theorem qz0 (c : Prop) : (c ∨ ¬ c) = True := by
  by_cases h : c <;> simp [h]
/-- counting up to w -/
theorem q_up {α : Type} {w : Nat} (F : Nat → α) {R : α} (he : F w = R) (hs : ∀ k, k < w → F k = F (k + 1)) : ∀ k, k ≤ w → F k = R := by
  intro k hk
  induction hn : w - k generalizing k with
  | zero =>
    have : k = w := by omega
    rw [this]; exact he
  | succ n ih =>
    rw [hs k (by omega)]
    exact ih (k + 1) (by omega) (by omega)
