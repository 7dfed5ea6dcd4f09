/-! constants as indices -/
theorem tn_0 : (0 : Int32).toNatClampNeg = 0 := rfl
theorem n0_0 : ((0 : Int32) < 0) = False := eq_false (by decide)
theorem vi_0 (N : Nat) : vp_in 0 N = (0 < N) := by
  unfold vp_in
  rw [tn_0, n0_0, false_or]
  exact propext Nat.not_le
theorem tn_1 : (1 : Int32).toNatClampNeg = 1 := rfl
theorem n0_1 : ((1 : Int32) < 0) = False := eq_false (by decide)
theorem vi_1 (N : Nat) : vp_in 1 N = (1 < N) := by
  unfold vp_in
  rw [tn_1, n0_1, false_or]
  exact propext Nat.not_le
theorem tn_2 : (2 : Int32).toNatClampNeg = 2 := rfl
theorem n0_2 : ((2 : Int32) < 0) = False := eq_false (by decide)
theorem vi_2 (N : Nat) : vp_in 2 N = (2 < N) := by
  unfold vp_in
  rw [tn_2, n0_2, false_or]
  exact propext Nat.not_le
theorem tn_3 : (3 : Int32).toNatClampNeg = 3 := rfl
theorem n0_3 : ((3 : Int32) < 0) = False := eq_false (by decide)
theorem vi_3 (N : Nat) : vp_in 3 N = (3 < N) := by
  unfold vp_in
  rw [tn_3, n0_3, false_or]
  exact propext Nat.not_le
theorem tn_4 : (4 : Int32).toNatClampNeg = 4 := rfl
theorem n0_4 : ((4 : Int32) < 0) = False := eq_false (by decide)
theorem vi_4 (N : Nat) : vp_in 4 N = (4 < N) := by
  unfold vp_in
  rw [tn_4, n0_4, false_or]
  exact propext Nat.not_le
theorem tn_5 : (5 : Int32).toNatClampNeg = 5 := rfl
theorem n0_5 : ((5 : Int32) < 0) = False := eq_false (by decide)
theorem vi_5 (N : Nat) : vp_in 5 N = (5 < N) := by
  unfold vp_in
  rw [tn_5, n0_5, false_or]
  exact propext Nat.not_le
theorem tn_6 : (6 : Int32).toNatClampNeg = 6 := rfl
theorem n0_6 : ((6 : Int32) < 0) = False := eq_false (by decide)
theorem vi_6 (N : Nat) : vp_in 6 N = (6 < N) := by
  unfold vp_in
  rw [tn_6, n0_6, false_or]
  exact propext Nat.not_le
theorem tn_7 : (7 : Int32).toNatClampNeg = 7 := rfl
theorem n0_7 : ((7 : Int32) < 0) = False := eq_false (by decide)
theorem vi_7 (N : Nat) : vp_in 7 N = (7 < N) := by
  unfold vp_in
  rw [tn_7, n0_7, false_or]
  exact propext Nat.not_le
theorem tn_8 : (8 : Int32).toNatClampNeg = 8 := rfl
theorem n0_8 : ((8 : Int32) < 0) = False := eq_false (by decide)
theorem vi_8 (N : Nat) : vp_in 8 N = (8 < N) := by
  unfold vp_in
  rw [tn_8, n0_8, false_or]
  exact propext Nat.not_le
theorem tn_9 : (9 : Int32).toNatClampNeg = 9 := rfl
theorem n0_9 : ((9 : Int32) < 0) = False := eq_false (by decide)
theorem vi_9 (N : Nat) : vp_in 9 N = (9 < N) := by
  unfold vp_in
  rw [tn_9, n0_9, false_or]
  exact propext Nat.not_le
theorem tn_10 : (10 : Int32).toNatClampNeg = 10 := rfl
theorem n0_10 : ((10 : Int32) < 0) = False := eq_false (by decide)
theorem vi_10 (N : Nat) : vp_in 10 N = (10 < N) := by
  unfold vp_in
  rw [tn_10, n0_10, false_or]
  exact propext Nat.not_le
theorem tn_11 : (11 : Int32).toNatClampNeg = 11 := rfl
theorem n0_11 : ((11 : Int32) < 0) = False := eq_false (by decide)
theorem vi_11 (N : Nat) : vp_in 11 N = (11 < N) := by
  unfold vp_in
  rw [tn_11, n0_11, false_or]
  exact propext Nat.not_le
theorem tn_12 : (12 : Int32).toNatClampNeg = 12 := rfl
theorem n0_12 : ((12 : Int32) < 0) = False := eq_false (by decide)
theorem vi_12 (N : Nat) : vp_in 12 N = (12 < N) := by
  unfold vp_in
  rw [tn_12, n0_12, false_or]
  exact propext Nat.not_le
theorem tn_13 : (13 : Int32).toNatClampNeg = 13 := rfl
theorem n0_13 : ((13 : Int32) < 0) = False := eq_false (by decide)
theorem vi_13 (N : Nat) : vp_in 13 N = (13 < N) := by
  unfold vp_in
  rw [tn_13, n0_13, false_or]
  exact propext Nat.not_le
theorem tn_14 : (14 : Int32).toNatClampNeg = 14 := rfl
theorem n0_14 : ((14 : Int32) < 0) = False := eq_false (by decide)
theorem vi_14 (N : Nat) : vp_in 14 N = (14 < N) := by
  unfold vp_in
  rw [tn_14, n0_14, false_or]
  exact propext Nat.not_le
theorem tn_15 : (15 : Int32).toNatClampNeg = 15 := rfl
theorem n0_15 : ((15 : Int32) < 0) = False := eq_false (by decide)
theorem vi_15 (N : Nat) : vp_in 15 N = (15 < N) := by
  unfold vp_in
  rw [tn_15, n0_15, false_or]
  exact propext Nat.not_le
theorem tn_16 : (16 : Int32).toNatClampNeg = 16 := rfl
theorem n0_16 : ((16 : Int32) < 0) = False := eq_false (by decide)
theorem vi_16 (N : Nat) : vp_in 16 N = (16 < N) := by
  unfold vp_in
  rw [tn_16, n0_16, false_or]
  exact propext Nat.not_le
theorem tn_17 : (17 : Int32).toNatClampNeg = 17 := rfl
theorem n0_17 : ((17 : Int32) < 0) = False := eq_false (by decide)
theorem vi_17 (N : Nat) : vp_in 17 N = (17 < N) := by
  unfold vp_in
  rw [tn_17, n0_17, false_or]
  exact propext Nat.not_le
theorem tn_18 : (18 : Int32).toNatClampNeg = 18 := rfl
theorem n0_18 : ((18 : Int32) < 0) = False := eq_false (by decide)
theorem vi_18 (N : Nat) : vp_in 18 N = (18 < N) := by
  unfold vp_in
  rw [tn_18, n0_18, false_or]
  exact propext Nat.not_le
theorem tn_19 : (19 : Int32).toNatClampNeg = 19 := rfl
theorem n0_19 : ((19 : Int32) < 0) = False := eq_false (by decide)
theorem vi_19 (N : Nat) : vp_in 19 N = (19 < N) := by
  unfold vp_in
  rw [tn_19, n0_19, false_or]
  exact propext Nat.not_le
theorem tn_20 : (20 : Int32).toNatClampNeg = 20 := rfl
theorem n0_20 : ((20 : Int32) < 0) = False := eq_false (by decide)
theorem vi_20 (N : Nat) : vp_in 20 N = (20 < N) := by
  unfold vp_in
  rw [tn_20, n0_20, false_or]
  exact propext Nat.not_le
theorem tn_21 : (21 : Int32).toNatClampNeg = 21 := rfl
theorem n0_21 : ((21 : Int32) < 0) = False := eq_false (by decide)
theorem vi_21 (N : Nat) : vp_in 21 N = (21 < N) := by
  unfold vp_in
  rw [tn_21, n0_21, false_or]
  exact propext Nat.not_le
theorem tn_22 : (22 : Int32).toNatClampNeg = 22 := rfl
theorem n0_22 : ((22 : Int32) < 0) = False := eq_false (by decide)
theorem vi_22 (N : Nat) : vp_in 22 N = (22 < N) := by
  unfold vp_in
  rw [tn_22, n0_22, false_or]
  exact propext Nat.not_le
theorem tn_23 : (23 : Int32).toNatClampNeg = 23 := rfl
theorem n0_23 : ((23 : Int32) < 0) = False := eq_false (by decide)
theorem vi_23 (N : Nat) : vp_in 23 N = (23 < N) := by
  unfold vp_in
  rw [tn_23, n0_23, false_or]
  exact propext Nat.not_le
theorem tn_24 : (24 : Int32).toNatClampNeg = 24 := rfl
theorem n0_24 : ((24 : Int32) < 0) = False := eq_false (by decide)
theorem vi_24 (N : Nat) : vp_in 24 N = (24 < N) := by
  unfold vp_in
  rw [tn_24, n0_24, false_or]
  exact propext Nat.not_le
theorem tn_25 : (25 : Int32).toNatClampNeg = 25 := rfl
theorem n0_25 : ((25 : Int32) < 0) = False := eq_false (by decide)
theorem vi_25 (N : Nat) : vp_in 25 N = (25 < N) := by
  unfold vp_in
  rw [tn_25, n0_25, false_or]
  exact propext Nat.not_le
theorem tn_26 : (26 : Int32).toNatClampNeg = 26 := rfl
theorem n0_26 : ((26 : Int32) < 0) = False := eq_false (by decide)
theorem vi_26 (N : Nat) : vp_in 26 N = (26 < N) := by
  unfold vp_in
  rw [tn_26, n0_26, false_or]
  exact propext Nat.not_le
theorem tn_29 : (29 : Int32).toNatClampNeg = 29 := rfl
theorem n0_29 : ((29 : Int32) < 0) = False := eq_false (by decide)
theorem vi_29 (N : Nat) : vp_in 29 N = (29 < N) := by
  unfold vp_in
  rw [tn_29, n0_29, false_or]
  exact propext Nat.not_le
theorem tn_31 : (31 : Int32).toNatClampNeg = 31 := rfl
theorem n0_31 : ((31 : Int32) < 0) = False := eq_false (by decide)
theorem vi_31 (N : Nat) : vp_in 31 N = (31 < N) := by
  unfold vp_in
  rw [tn_31, n0_31, false_or]
  exact propext Nat.not_le
theorem tn_32 : (32 : Int32).toNatClampNeg = 32 := rfl
theorem n0_32 : ((32 : Int32) < 0) = False := eq_false (by decide)
theorem vi_32 (N : Nat) : vp_in 32 N = (32 < N) := by
  unfold vp_in
  rw [tn_32, n0_32, false_or]
  exact propext Nat.not_le
theorem tn_35 : (35 : Int32).toNatClampNeg = 35 := rfl
theorem n0_35 : ((35 : Int32) < 0) = False := eq_false (by decide)
theorem vi_35 (N : Nat) : vp_in 35 N = (35 < N) := by
  unfold vp_in
  rw [tn_35, n0_35, false_or]
  exact propext Nat.not_le
theorem tn_39 : (39 : Int32).toNatClampNeg = 39 := rfl
theorem n0_39 : ((39 : Int32) < 0) = False := eq_false (by decide)
theorem vi_39 (N : Nat) : vp_in 39 N = (39 < N) := by
  unfold vp_in
  rw [tn_39, n0_39, false_or]
  exact propext Nat.not_le
theorem tn_40 : (40 : Int32).toNatClampNeg = 40 := rfl
theorem n0_40 : ((40 : Int32) < 0) = False := eq_false (by decide)
theorem vi_40 (N : Nat) : vp_in 40 N = (40 < N) := by
  unfold vp_in
  rw [tn_40, n0_40, false_or]
  exact propext Nat.not_le
theorem tn_41 : (41 : Int32).toNatClampNeg = 41 := rfl
theorem n0_41 : ((41 : Int32) < 0) = False := eq_false (by decide)
theorem vi_41 (N : Nat) : vp_in 41 N = (41 < N) := by
  unfold vp_in
  rw [tn_41, n0_41, false_or]
  exact propext Nat.not_le
theorem tn_42 : (42 : Int32).toNatClampNeg = 42 := rfl
theorem n0_42 : ((42 : Int32) < 0) = False := eq_false (by decide)
theorem vi_42 (N : Nat) : vp_in 42 N = (42 < N) := by
  unfold vp_in
  rw [tn_42, n0_42, false_or]
  exact propext Nat.not_le
theorem tn_43 : (43 : Int32).toNatClampNeg = 43 := rfl
theorem n0_43 : ((43 : Int32) < 0) = False := eq_false (by decide)
theorem vi_43 (N : Nat) : vp_in 43 N = (43 < N) := by
  unfold vp_in
  rw [tn_43, n0_43, false_or]
  exact propext Nat.not_le
theorem tn_44 : (44 : Int32).toNatClampNeg = 44 := rfl
theorem n0_44 : ((44 : Int32) < 0) = False := eq_false (by decide)
theorem vi_44 (N : Nat) : vp_in 44 N = (44 < N) := by
  unfold vp_in
  rw [tn_44, n0_44, false_or]
  exact propext Nat.not_le
theorem tn_45 : (45 : Int32).toNatClampNeg = 45 := rfl
theorem n0_45 : ((45 : Int32) < 0) = False := eq_false (by decide)
theorem vi_45 (N : Nat) : vp_in 45 N = (45 < N) := by
  unfold vp_in
  rw [tn_45, n0_45, false_or]
  exact propext Nat.not_le
theorem tn_46 : (46 : Int32).toNatClampNeg = 46 := rfl
theorem n0_46 : ((46 : Int32) < 0) = False := eq_false (by decide)
theorem vi_46 (N : Nat) : vp_in 46 N = (46 < N) := by
  unfold vp_in
  rw [tn_46, n0_46, false_or]
  exact propext Nat.not_le
theorem tn_47 : (47 : Int32).toNatClampNeg = 47 := rfl
theorem n0_47 : ((47 : Int32) < 0) = False := eq_false (by decide)
theorem vi_47 (N : Nat) : vp_in 47 N = (47 < N) := by
  unfold vp_in
  rw [tn_47, n0_47, false_or]
  exact propext Nat.not_le
theorem tn_48 : (48 : Int32).toNatClampNeg = 48 := rfl
theorem n0_48 : ((48 : Int32) < 0) = False := eq_false (by decide)
theorem vi_48 (N : Nat) : vp_in 48 N = (48 < N) := by
  unfold vp_in
  rw [tn_48, n0_48, false_or]
  exact propext Nat.not_le
theorem tn_49 : (49 : Int32).toNatClampNeg = 49 := rfl
theorem n0_49 : ((49 : Int32) < 0) = False := eq_false (by decide)
theorem vi_49 (N : Nat) : vp_in 49 N = (49 < N) := by
  unfold vp_in
  rw [tn_49, n0_49, false_or]
  exact propext Nat.not_le
theorem tn_50 : (50 : Int32).toNatClampNeg = 50 := rfl
theorem n0_50 : ((50 : Int32) < 0) = False := eq_false (by decide)
theorem vi_50 (N : Nat) : vp_in 50 N = (50 < N) := by
  unfold vp_in
  rw [tn_50, n0_50, false_or]
  exact propext Nat.not_le
theorem tn_51 : (51 : Int32).toNatClampNeg = 51 := rfl
theorem n0_51 : ((51 : Int32) < 0) = False := eq_false (by decide)
theorem vi_51 (N : Nat) : vp_in 51 N = (51 < N) := by
  unfold vp_in
  rw [tn_51, n0_51, false_or]
  exact propext Nat.not_le
theorem tn_52 : (52 : Int32).toNatClampNeg = 52 := rfl
theorem n0_52 : ((52 : Int32) < 0) = False := eq_false (by decide)
theorem vi_52 (N : Nat) : vp_in 52 N = (52 < N) := by
  unfold vp_in
  rw [tn_52, n0_52, false_or]
  exact propext Nat.not_le
theorem tn_53 : (53 : Int32).toNatClampNeg = 53 := rfl
theorem n0_53 : ((53 : Int32) < 0) = False := eq_false (by decide)
theorem vi_53 (N : Nat) : vp_in 53 N = (53 < N) := by
  unfold vp_in
  rw [tn_53, n0_53, false_or]
  exact propext Nat.not_le
theorem tn_54 : (54 : Int32).toNatClampNeg = 54 := rfl
theorem n0_54 : ((54 : Int32) < 0) = False := eq_false (by decide)
theorem vi_54 (N : Nat) : vp_in 54 N = (54 < N) := by
  unfold vp_in
  rw [tn_54, n0_54, false_or]
  exact propext Nat.not_le
theorem tn_55 : (55 : Int32).toNatClampNeg = 55 := rfl
theorem n0_55 : ((55 : Int32) < 0) = False := eq_false (by decide)
theorem vi_55 (N : Nat) : vp_in 55 N = (55 < N) := by
  unfold vp_in
  rw [tn_55, n0_55, false_or]
  exact propext Nat.not_le
theorem tn_56 : (56 : Int32).toNatClampNeg = 56 := rfl
theorem n0_56 : ((56 : Int32) < 0) = False := eq_false (by decide)
theorem vi_56 (N : Nat) : vp_in 56 N = (56 < N) := by
  unfold vp_in
  rw [tn_56, n0_56, false_or]
  exact propext Nat.not_le
theorem tn_57 : (57 : Int32).toNatClampNeg = 57 := rfl
theorem n0_57 : ((57 : Int32) < 0) = False := eq_false (by decide)
theorem vi_57 (N : Nat) : vp_in 57 N = (57 < N) := by
  unfold vp_in
  rw [tn_57, n0_57, false_or]
  exact propext Nat.not_le
theorem tn_59 : (59 : Int32).toNatClampNeg = 59 := rfl
theorem n0_59 : ((59 : Int32) < 0) = False := eq_false (by decide)
theorem vi_59 (N : Nat) : vp_in 59 N = (59 < N) := by
  unfold vp_in
  rw [tn_59, n0_59, false_or]
  exact propext Nat.not_le
theorem tn_60 : (60 : Int32).toNatClampNeg = 60 := rfl
theorem n0_60 : ((60 : Int32) < 0) = False := eq_false (by decide)
theorem vi_60 (N : Nat) : vp_in 60 N = (60 < N) := by
  unfold vp_in
  rw [tn_60, n0_60, false_or]
  exact propext Nat.not_le
theorem tn_61 : (61 : Int32).toNatClampNeg = 61 := rfl
theorem n0_61 : ((61 : Int32) < 0) = False := eq_false (by decide)
theorem vi_61 (N : Nat) : vp_in 61 N = (61 < N) := by
  unfold vp_in
  rw [tn_61, n0_61, false_or]
  exact propext Nat.not_le
theorem tn_62 : (62 : Int32).toNatClampNeg = 62 := rfl
theorem n0_62 : ((62 : Int32) < 0) = False := eq_false (by decide)
theorem vi_62 (N : Nat) : vp_in 62 N = (62 < N) := by
  unfold vp_in
  rw [tn_62, n0_62, false_or]
  exact propext Nat.not_le
theorem tn_65 : (65 : Int32).toNatClampNeg = 65 := rfl
theorem n0_65 : ((65 : Int32) < 0) = False := eq_false (by decide)
theorem vi_65 (N : Nat) : vp_in 65 N = (65 < N) := by
  unfold vp_in
  rw [tn_65, n0_65, false_or]
  exact propext Nat.not_le
theorem tn_70 : (70 : Int32).toNatClampNeg = 70 := rfl
theorem n0_70 : ((70 : Int32) < 0) = False := eq_false (by decide)
theorem vi_70 (N : Nat) : vp_in 70 N = (70 < N) := by
  unfold vp_in
  rw [tn_70, n0_70, false_or]
  exact propext Nat.not_le
theorem tn_90 : (90 : Int32).toNatClampNeg = 90 := rfl
theorem n0_90 : ((90 : Int32) < 0) = False := eq_false (by decide)
theorem vi_90 (N : Nat) : vp_in 90 N = (90 < N) := by
  unfold vp_in
  rw [tn_90, n0_90, false_or]
  exact propext Nat.not_le
theorem tn_97 : (97 : Int32).toNatClampNeg = 97 := rfl
theorem n0_97 : ((97 : Int32) < 0) = False := eq_false (by decide)
theorem vi_97 (N : Nat) : vp_in 97 N = (97 < N) := by
  unfold vp_in
  rw [tn_97, n0_97, false_or]
  exact propext Nat.not_le
theorem tn_98 : (98 : Int32).toNatClampNeg = 98 := rfl
theorem n0_98 : ((98 : Int32) < 0) = False := eq_false (by decide)
theorem vi_98 (N : Nat) : vp_in 98 N = (98 < N) := by
  unfold vp_in
  rw [tn_98, n0_98, false_or]
  exact propext Nat.not_le
theorem tn_99 : (99 : Int32).toNatClampNeg = 99 := rfl
theorem n0_99 : ((99 : Int32) < 0) = False := eq_false (by decide)
theorem vi_99 (N : Nat) : vp_in 99 N = (99 < N) := by
  unfold vp_in
  rw [tn_99, n0_99, false_or]
  exact propext Nat.not_le
theorem tn_100 : (100 : Int32).toNatClampNeg = 100 := rfl
theorem n0_100 : ((100 : Int32) < 0) = False := eq_false (by decide)
theorem vi_100 (N : Nat) : vp_in 100 N = (100 < N) := by
  unfold vp_in
  rw [tn_100, n0_100, false_or]
  exact propext Nat.not_le
theorem tn_101 : (101 : Int32).toNatClampNeg = 101 := rfl
theorem n0_101 : ((101 : Int32) < 0) = False := eq_false (by decide)
theorem vi_101 (N : Nat) : vp_in 101 N = (101 < N) := by
  unfold vp_in
  rw [tn_101, n0_101, false_or]
  exact propext Nat.not_le
theorem tn_103 : (103 : Int32).toNatClampNeg = 103 := rfl
theorem n0_103 : ((103 : Int32) < 0) = False := eq_false (by decide)
theorem vi_103 (N : Nat) : vp_in 103 N = (103 < N) := by
  unfold vp_in
  rw [tn_103, n0_103, false_or]
  exact propext Nat.not_le
theorem tn_104 : (104 : Int32).toNatClampNeg = 104 := rfl
theorem n0_104 : ((104 : Int32) < 0) = False := eq_false (by decide)
theorem vi_104 (N : Nat) : vp_in 104 N = (104 < N) := by
  unfold vp_in
  rw [tn_104, n0_104, false_or]
  exact propext Nat.not_le
theorem tn_105 : (105 : Int32).toNatClampNeg = 105 := rfl
theorem n0_105 : ((105 : Int32) < 0) = False := eq_false (by decide)
theorem vi_105 (N : Nat) : vp_in 105 N = (105 < N) := by
  unfold vp_in
  rw [tn_105, n0_105, false_or]
  exact propext Nat.not_le
theorem tn_107 : (107 : Int32).toNatClampNeg = 107 := rfl
theorem n0_107 : ((107 : Int32) < 0) = False := eq_false (by decide)
theorem vi_107 (N : Nat) : vp_in 107 N = (107 < N) := by
  unfold vp_in
  rw [tn_107, n0_107, false_or]
  exact propext Nat.not_le
theorem tn_108 : (108 : Int32).toNatClampNeg = 108 := rfl
theorem n0_108 : ((108 : Int32) < 0) = False := eq_false (by decide)
theorem vi_108 (N : Nat) : vp_in 108 N = (108 < N) := by
  unfold vp_in
  rw [tn_108, n0_108, false_or]
  exact propext Nat.not_le
theorem tn_109 : (109 : Int32).toNatClampNeg = 109 := rfl
theorem n0_109 : ((109 : Int32) < 0) = False := eq_false (by decide)
theorem vi_109 (N : Nat) : vp_in 109 N = (109 < N) := by
  unfold vp_in
  rw [tn_109, n0_109, false_or]
  exact propext Nat.not_le
theorem tn_110 : (110 : Int32).toNatClampNeg = 110 := rfl
theorem n0_110 : ((110 : Int32) < 0) = False := eq_false (by decide)
theorem vi_110 (N : Nat) : vp_in 110 N = (110 < N) := by
  unfold vp_in
  rw [tn_110, n0_110, false_or]
  exact propext Nat.not_le
theorem tn_111 : (111 : Int32).toNatClampNeg = 111 := rfl
theorem n0_111 : ((111 : Int32) < 0) = False := eq_false (by decide)
theorem vi_111 (N : Nat) : vp_in 111 N = (111 < N) := by
  unfold vp_in
  rw [tn_111, n0_111, false_or]
  exact propext Nat.not_le
theorem tn_112 : (112 : Int32).toNatClampNeg = 112 := rfl
theorem n0_112 : ((112 : Int32) < 0) = False := eq_false (by decide)
theorem vi_112 (N : Nat) : vp_in 112 N = (112 < N) := by
  unfold vp_in
  rw [tn_112, n0_112, false_or]
  exact propext Nat.not_le
theorem tn_114 : (114 : Int32).toNatClampNeg = 114 := rfl
theorem n0_114 : ((114 : Int32) < 0) = False := eq_false (by decide)
theorem vi_114 (N : Nat) : vp_in 114 N = (114 < N) := by
  unfold vp_in
  rw [tn_114, n0_114, false_or]
  exact propext Nat.not_le
theorem tn_115 : (115 : Int32).toNatClampNeg = 115 := rfl
theorem n0_115 : ((115 : Int32) < 0) = False := eq_false (by decide)
theorem vi_115 (N : Nat) : vp_in 115 N = (115 < N) := by
  unfold vp_in
  rw [tn_115, n0_115, false_or]
  exact propext Nat.not_le
theorem tn_116 : (116 : Int32).toNatClampNeg = 116 := rfl
theorem n0_116 : ((116 : Int32) < 0) = False := eq_false (by decide)
theorem vi_116 (N : Nat) : vp_in 116 N = (116 < N) := by
  unfold vp_in
  rw [tn_116, n0_116, false_or]
  exact propext Nat.not_le
theorem tn_117 : (117 : Int32).toNatClampNeg = 117 := rfl
theorem n0_117 : ((117 : Int32) < 0) = False := eq_false (by decide)
theorem vi_117 (N : Nat) : vp_in 117 N = (117 < N) := by
  unfold vp_in
  rw [tn_117, n0_117, false_or]
  exact propext Nat.not_le
theorem tn_119 : (119 : Int32).toNatClampNeg = 119 := rfl
theorem n0_119 : ((119 : Int32) < 0) = False := eq_false (by decide)
theorem vi_119 (N : Nat) : vp_in 119 N = (119 < N) := by
  unfold vp_in
  rw [tn_119, n0_119, false_or]
  exact propext Nat.not_le
theorem tn_120 : (120 : Int32).toNatClampNeg = 120 := rfl
theorem n0_120 : ((120 : Int32) < 0) = False := eq_false (by decide)
theorem vi_120 (N : Nat) : vp_in 120 N = (120 < N) := by
  unfold vp_in
  rw [tn_120, n0_120, false_or]
  exact propext Nat.not_le
theorem tn_121 : (121 : Int32).toNatClampNeg = 121 := rfl
theorem n0_121 : ((121 : Int32) < 0) = False := eq_false (by decide)
theorem vi_121 (N : Nat) : vp_in 121 N = (121 < N) := by
  unfold vp_in
  rw [tn_121, n0_121, false_or]
  exact propext Nat.not_le
theorem tn_122 : (122 : Int32).toNatClampNeg = 122 := rfl
theorem n0_122 : ((122 : Int32) < 0) = False := eq_false (by decide)
theorem vi_122 (N : Nat) : vp_in 122 N = (122 < N) := by
  unfold vp_in
  rw [tn_122, n0_122, false_or]
  exact propext Nat.not_le
theorem tn_130 : (130 : Int32).toNatClampNeg = 130 := rfl
theorem n0_130 : ((130 : Int32) < 0) = False := eq_false (by decide)
theorem vi_130 (N : Nat) : vp_in 130 N = (130 < N) := by
  unfold vp_in
  rw [tn_130, n0_130, false_or]
  exact propext Nat.not_le
theorem tn_163 : (163 : Int32).toNatClampNeg = 163 := rfl
theorem n0_163 : ((163 : Int32) < 0) = False := eq_false (by decide)
theorem vi_163 (N : Nat) : vp_in 163 N = (163 < N) := by
  unfold vp_in
  rw [tn_163, n0_163, false_or]
  exact propext Nat.not_le
theorem tn_200 : (200 : Int32).toNatClampNeg = 200 := rfl
theorem n0_200 : ((200 : Int32) < 0) = False := eq_false (by decide)
theorem vi_200 (N : Nat) : vp_in 200 N = (200 < N) := by
  unfold vp_in
  rw [tn_200, n0_200, false_or]
  exact propext Nat.not_le
theorem tn_255 : (255 : Int32).toNatClampNeg = 255 := rfl
theorem n0_255 : ((255 : Int32) < 0) = False := eq_false (by decide)
theorem vi_255 (N : Nat) : vp_in 255 N = (255 < N) := by
  unfold vp_in
  rw [tn_255, n0_255, false_or]
  exact propext Nat.not_le
theorem tn_280 : (280 : Int32).toNatClampNeg = 280 := rfl
theorem n0_280 : ((280 : Int32) < 0) = False := eq_false (by decide)
theorem vi_280 (N : Nat) : vp_in 280 N = (280 < N) := by
  unfold vp_in
  rw [tn_280, n0_280, false_or]
  exact propext Nat.not_le
theorem tn_299 : (299 : Int32).toNatClampNeg = 299 := rfl
theorem n0_299 : ((299 : Int32) < 0) = False := eq_false (by decide)
theorem vi_299 (N : Nat) : vp_in 299 N = (299 < N) := by
  unfold vp_in
  rw [tn_299, n0_299, false_or]
  exact propext Nat.not_le
theorem tn_300 : (300 : Int32).toNatClampNeg = 300 := rfl
theorem n0_300 : ((300 : Int32) < 0) = False := eq_false (by decide)
theorem vi_300 (N : Nat) : vp_in 300 N = (300 < N) := by
  unfold vp_in
  rw [tn_300, n0_300, false_or]
  exact propext Nat.not_le
theorem tn_399 : (399 : Int32).toNatClampNeg = 399 := rfl
theorem n0_399 : ((399 : Int32) < 0) = False := eq_false (by decide)
theorem vi_399 (N : Nat) : vp_in 399 N = (399 < N) := by
  unfold vp_in
  rw [tn_399, n0_399, false_or]
  exact propext Nat.not_le
theorem tn_420 : (420 : Int32).toNatClampNeg = 420 := rfl
theorem n0_420 : ((420 : Int32) < 0) = False := eq_false (by decide)
theorem vi_420 (N : Nat) : vp_in 420 N = (420 < N) := by
  unfold vp_in
  rw [tn_420, n0_420, false_or]
  exact propext Nat.not_le
theorem tn_720 : (720 : Int32).toNatClampNeg = 720 := rfl
theorem n0_720 : ((720 : Int32) < 0) = False := eq_false (by decide)
theorem vi_720 (N : Nat) : vp_in 720 N = (720 < N) := by
  unfold vp_in
  rw [tn_720, n0_720, false_or]
  exact propext Nat.not_le
theorem tn_999 : (999 : Int32).toNatClampNeg = 999 := rfl
theorem n0_999 : ((999 : Int32) < 0) = False := eq_false (by decide)
theorem vi_999 (N : Nat) : vp_in 999 N = (999 < N) := by
  unfold vp_in
  rw [tn_999, n0_999, false_or]
  exact propext Nat.not_le
theorem tn_2000 : (2000 : Int32).toNatClampNeg = 2000 := rfl
theorem n0_2000 : ((2000 : Int32) < 0) = False := eq_false (by decide)
theorem vi_2000 (N : Nat) : vp_in 2000 N = (2000 < N) := by
  unfold vp_in
  rw [tn_2000, n0_2000, false_or]
  exact propext Nat.not_le
theorem tn_2500 : (2500 : Int32).toNatClampNeg = 2500 := rfl
theorem n0_2500 : ((2500 : Int32) < 0) = False := eq_false (by decide)
theorem vi_2500 (N : Nat) : vp_in 2500 N = (2500 < N) := by
  unfold vp_in
  rw [tn_2500, n0_2500, false_or]
  exact propext Nat.not_le
def qtn := And.intro tn_0 <| And.intro tn_1 <| And.intro tn_2 <| And.intro tn_3 <| And.intro tn_4 <| And.intro tn_5 <| And.intro tn_6 <| And.intro tn_7 <| And.intro tn_8 <| And.intro tn_9 <| And.intro tn_10 <| And.intro tn_11 <| And.intro tn_12 <| And.intro tn_13 <| And.intro tn_14 <| And.intro tn_15 <| And.intro tn_16 <| And.intro tn_17 <| And.intro tn_18 <| And.intro tn_19 <| And.intro tn_20 <| And.intro tn_21 <| And.intro tn_22 <| And.intro tn_23 <| And.intro tn_24 <| And.intro tn_25 <| And.intro tn_26 <| And.intro tn_29 <| And.intro tn_31 <| And.intro tn_32 <| And.intro tn_35 <| And.intro tn_39 <| And.intro tn_40 <| And.intro tn_41 <| And.intro tn_42 <| And.intro tn_43 <| And.intro tn_44 <| And.intro tn_45 <| And.intro tn_46 <| And.intro tn_47 <| And.intro tn_48 <| And.intro tn_49 <| And.intro tn_50 <| And.intro tn_51 <| And.intro tn_52 <| And.intro tn_53 <| And.intro tn_54 <| And.intro tn_55 <| And.intro tn_56 <| And.intro tn_57 <| And.intro tn_59 <| And.intro tn_60 <| And.intro tn_61 <| And.intro tn_62 <| And.intro tn_65 <| And.intro tn_70 <| And.intro tn_90 <| And.intro tn_97 <| And.intro tn_98 <| And.intro tn_99 <| And.intro tn_100 <| And.intro tn_101 <| And.intro tn_103 <| And.intro tn_104 <| And.intro tn_105 <| And.intro tn_107 <| And.intro tn_108 <| And.intro tn_109 <| And.intro tn_110 <| And.intro tn_111 <| And.intro tn_112 <| And.intro tn_114 <| And.intro tn_115 <| And.intro tn_116 <| And.intro tn_117 <| And.intro tn_119 <| And.intro tn_120 <| And.intro tn_121 <| And.intro tn_122 <| And.intro tn_130 <| And.intro tn_163 <| And.intro tn_200 <| And.intro tn_255 <| And.intro tn_280 <| And.intro tn_299 <| And.intro tn_300 <| And.intro tn_399 <| And.intro tn_420 <| And.intro tn_720 <| And.intro tn_999 <| And.intro tn_2000 tn_2500
def qn0 := And.intro n0_0 <| And.intro n0_1 <| And.intro n0_2 <| And.intro n0_3 <| And.intro n0_4 <| And.intro n0_5 <| And.intro n0_6 <| And.intro n0_7 <| And.intro n0_8 <| And.intro n0_9 <| And.intro n0_10 <| And.intro n0_11 <| And.intro n0_12 <| And.intro n0_13 <| And.intro n0_14 <| And.intro n0_15 <| And.intro n0_16 <| And.intro n0_17 <| And.intro n0_18 <| And.intro n0_19 <| And.intro n0_20 <| And.intro n0_21 <| And.intro n0_22 <| And.intro n0_23 <| And.intro n0_24 <| And.intro n0_25 <| And.intro n0_26 <| And.intro n0_29 <| And.intro n0_31 <| And.intro n0_32 <| And.intro n0_35 <| And.intro n0_39 <| And.intro n0_40 <| And.intro n0_41 <| And.intro n0_42 <| And.intro n0_43 <| And.intro n0_44 <| And.intro n0_45 <| And.intro n0_46 <| And.intro n0_47 <| And.intro n0_48 <| And.intro n0_49 <| And.intro n0_50 <| And.intro n0_51 <| And.intro n0_52 <| And.intro n0_53 <| And.intro n0_54 <| And.intro n0_55 <| And.intro n0_56 <| And.intro n0_57 <| And.intro n0_59 <| And.intro n0_60 <| And.intro n0_61 <| And.intro n0_62 <| And.intro n0_65 <| And.intro n0_70 <| And.intro n0_90 <| And.intro n0_97 <| And.intro n0_98 <| And.intro n0_99 <| And.intro n0_100 <| And.intro n0_101 <| And.intro n0_103 <| And.intro n0_104 <| And.intro n0_105 <| And.intro n0_107 <| And.intro n0_108 <| And.intro n0_109 <| And.intro n0_110 <| And.intro n0_111 <| And.intro n0_112 <| And.intro n0_114 <| And.intro n0_115 <| And.intro n0_116 <| And.intro n0_117 <| And.intro n0_119 <| And.intro n0_120 <| And.intro n0_121 <| And.intro n0_122 <| And.intro n0_130 <| And.intro n0_163 <| And.intro n0_200 <| And.intro n0_255 <| And.intro n0_280 <| And.intro n0_299 <| And.intro n0_300 <| And.intro n0_399 <| And.intro n0_420 <| And.intro n0_720 <| And.intro n0_999 <| And.intro n0_2000 n0_2500
def qvi := And.intro vi_0 <| And.intro vi_1 <| And.intro vi_2 <| And.intro vi_3 <| And.intro vi_4 <| And.intro vi_5 <| And.intro vi_6 <| And.intro vi_7 <| And.intro vi_8 <| And.intro vi_9 <| And.intro vi_10 <| And.intro vi_11 <| And.intro vi_12 <| And.intro vi_13 <| And.intro vi_14 <| And.intro vi_15 <| And.intro vi_16 <| And.intro vi_17 <| And.intro vi_18 <| And.intro vi_19 <| And.intro vi_20 <| And.intro vi_21 <| And.intro vi_22 <| And.intro vi_23 <| And.intro vi_24 <| And.intro vi_25 <| And.intro vi_26 <| And.intro vi_29 <| And.intro vi_31 <| And.intro vi_32 <| And.intro vi_35 <| And.intro vi_39 <| And.intro vi_40 <| And.intro vi_41 <| And.intro vi_42 <| And.intro vi_43 <| And.intro vi_44 <| And.intro vi_45 <| And.intro vi_46 <| And.intro vi_47 <| And.intro vi_48 <| And.intro vi_49 <| And.intro vi_50 <| And.intro vi_51 <| And.intro vi_52 <| And.intro vi_53 <| And.intro vi_54 <| And.intro vi_55 <| And.intro vi_56 <| And.intro vi_57 <| And.intro vi_59 <| And.intro vi_60 <| And.intro vi_61 <| And.intro vi_62 <| And.intro vi_65 <| And.intro vi_70 <| And.intro vi_90 <| And.intro vi_97 <| And.intro vi_98 <| And.intro vi_99 <| And.intro vi_100 <| And.intro vi_101 <| And.intro vi_103 <| And.intro vi_104 <| And.intro vi_105 <| And.intro vi_107 <| And.intro vi_108 <| And.intro vi_109 <| And.intro vi_110 <| And.intro vi_111 <| And.intro vi_112 <| And.intro vi_114 <| And.intro vi_115 <| And.intro vi_116 <| And.intro vi_117 <| And.intro vi_119 <| And.intro vi_120 <| And.intro vi_121 <| And.intro vi_122 <| And.intro vi_130 <| And.intro vi_163 <| And.intro vi_200 <| And.intro vi_255 <| And.intro vi_280 <| And.intro vi_299 <| And.intro vi_300 <| And.intro vi_399 <| And.intro vi_420 <| And.intro vi_720 <| And.intro vi_999 <| And.intro vi_2000 vi_2500
