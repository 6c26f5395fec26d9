def sp_klX : List (Nat × Nat) := [(21, 13), (1, 700), (12, 18), (1, 10), (1, 10), (1, 10), (1, 6), (1, 5), (1, 5), (1, 6), (1, 700), (12, 18), (1, 10), (1, 10), (1, 10), (1, 6), (1, 5), (1, 5), (1, 6), (1, 700), (20, 6), (17, 5), (11, 6), (18, 6), (1, 50), (1, 6), (1, 7), (1, 10), (10, 7), (1, 40), (19, 4), (1, 8), (1, 8), (1, 8), (1, 3), (1, 2000), (11, 6), (18, 6), (1, 50), (1, 6), (1, 7), (1, 10), (10, 7), (1, 40), (19, 4), (1, 8), (1, 8), (1, 8), (1, 3), (1, 2000), (18, 6), (1, 50), (1, 6), (1, 7), (1, 10), (10, 7), (1, 40), (14, 9), (1, 4), (1, 4), (15, 5), (1, 1024), (1, 1024), (1, 5), (13, 6), (3, 20), (16, 2), (1, 64), (3, 1)]
def sp_flX : List (List Nat) := [[1, 0, 0, 0, 0, 0, 0], [1, 1, 1, 1, 0, 0], [1, 1, 1, 1, 1, 1, 1, 1, 0, 0, 0, 0, 0, 0, 0, 0, 0, 0], [1, 1, 1, 1, 0, 0], [1, 1, 1, 1, 0, 0, 0, 0, 0], [1, 1, 1, 1, 0], [1, 1], [1, 2, 0, 0, 0], [2, 1, 1, 1, 1, 1], [1, 1, 1, 0], [1, 0, 0, 0, 0, 0], [1, 0, 0, 2, 2, 1, 1, 1, 0, 1, 1, 1, 1]]
def sp_fkX (ci k : Nat) : Nat := (sp_flX.getD ci []).getD k 0
def sp_slX : List (List Nat) := [[1, 0, 0, 0, 0, 21, 22, 36, 0, 57, 60, 64, 66], [], [3, 4, 5, 6, 7, 8, 9, 10], [], [], [], [], [], [], [], [], [12, 13, 14, 15, 16, 17, 18, 19], [], [], [], [], [], [], [], [], [1], [20], [23, 30, 34, 35], [0, 24, 25, 26, 27, 28], [], [], [], [], [29], [], [31, 32, 33], [], [], [], [], [], [37, 44, 48, 49], [0, 38, 39, 40, 41, 42], [], [], [], [], [43], [], [45, 46, 47], [], [], [], [], [], [0, 51, 52, 53, 54, 55], [], [], [], [], [56], [], [23, 50, 58, 59], [], [], [23, 61, 62, 63], [], [], [], [23, 30, 50, 65], [], [24, 67], [], []]
def shX : sp_Sh := (69, fun p => sp_klX.getD p (0, 0), sp_fkX, fun p k => (sp_slX.getD p []).getD k 0)
theorem atX_0 : sp_at shX 0 11 13 := ⟨by decide, by decide⟩
theorem arX_1 : sp_ar shX 1 1 700 := ⟨by decide, by decide⟩
theorem atX_2 : sp_at shX 2 2 18 := ⟨by decide, by decide⟩
theorem arX_3 : sp_ar shX 3 1 10 := ⟨by decide, by decide⟩
theorem arX_4 : sp_ar shX 4 1 10 := ⟨by decide, by decide⟩
theorem arX_5 : sp_ar shX 5 1 10 := ⟨by decide, by decide⟩
theorem arX_6 : sp_ar shX 6 1 6 := ⟨by decide, by decide⟩
theorem arX_7 : sp_ar shX 7 1 5 := ⟨by decide, by decide⟩
theorem arX_8 : sp_ar shX 8 1 5 := ⟨by decide, by decide⟩
theorem arX_9 : sp_ar shX 9 1 6 := ⟨by decide, by decide⟩
theorem arX_10 : sp_ar shX 10 1 700 := ⟨by decide, by decide⟩
theorem atX_11 : sp_at shX 11 2 18 := ⟨by decide, by decide⟩
theorem arX_12 : sp_ar shX 12 1 10 := ⟨by decide, by decide⟩
theorem arX_13 : sp_ar shX 13 1 10 := ⟨by decide, by decide⟩
theorem arX_14 : sp_ar shX 14 1 10 := ⟨by decide, by decide⟩
theorem arX_15 : sp_ar shX 15 1 6 := ⟨by decide, by decide⟩
theorem arX_16 : sp_ar shX 16 1 5 := ⟨by decide, by decide⟩
theorem arX_17 : sp_ar shX 17 1 5 := ⟨by decide, by decide⟩
theorem arX_18 : sp_ar shX 18 1 6 := ⟨by decide, by decide⟩
theorem arX_19 : sp_ar shX 19 1 700 := ⟨by decide, by decide⟩
theorem atX_20 : sp_at shX 20 10 6 := ⟨by decide, by decide⟩
theorem atX_21 : sp_at shX 21 7 5 := ⟨by decide, by decide⟩
theorem atX_22 : sp_at shX 22 1 6 := ⟨by decide, by decide⟩
theorem atX_23 : sp_at shX 23 8 6 := ⟨by decide, by decide⟩
theorem arX_24 : sp_ar shX 24 1 50 := ⟨by decide, by decide⟩
theorem arX_25 : sp_ar shX 25 1 6 := ⟨by decide, by decide⟩
theorem arX_26 : sp_ar shX 26 1 7 := ⟨by decide, by decide⟩
theorem arX_27 : sp_ar shX 27 1 10 := ⟨by decide, by decide⟩
theorem atX_28 : sp_at shX 28 0 7 := ⟨by decide, by decide⟩
theorem arX_29 : sp_ar shX 29 1 40 := ⟨by decide, by decide⟩
theorem atX_30 : sp_at shX 30 9 4 := ⟨by decide, by decide⟩
theorem arX_31 : sp_ar shX 31 1 8 := ⟨by decide, by decide⟩
theorem arX_32 : sp_ar shX 32 1 8 := ⟨by decide, by decide⟩
theorem arX_33 : sp_ar shX 33 1 8 := ⟨by decide, by decide⟩
theorem arX_34 : sp_ar shX 34 1 3 := ⟨by decide, by decide⟩
theorem arX_35 : sp_ar shX 35 1 2000 := ⟨by decide, by decide⟩
theorem atX_36 : sp_at shX 36 1 6 := ⟨by decide, by decide⟩
theorem atX_37 : sp_at shX 37 8 6 := ⟨by decide, by decide⟩
theorem arX_38 : sp_ar shX 38 1 50 := ⟨by decide, by decide⟩
theorem arX_39 : sp_ar shX 39 1 6 := ⟨by decide, by decide⟩
theorem arX_40 : sp_ar shX 40 1 7 := ⟨by decide, by decide⟩
theorem arX_41 : sp_ar shX 41 1 10 := ⟨by decide, by decide⟩
theorem atX_42 : sp_at shX 42 0 7 := ⟨by decide, by decide⟩
theorem arX_43 : sp_ar shX 43 1 40 := ⟨by decide, by decide⟩
theorem atX_44 : sp_at shX 44 9 4 := ⟨by decide, by decide⟩
theorem arX_45 : sp_ar shX 45 1 8 := ⟨by decide, by decide⟩
theorem arX_46 : sp_ar shX 46 1 8 := ⟨by decide, by decide⟩
theorem arX_47 : sp_ar shX 47 1 8 := ⟨by decide, by decide⟩
theorem arX_48 : sp_ar shX 48 1 3 := ⟨by decide, by decide⟩
theorem arX_49 : sp_ar shX 49 1 2000 := ⟨by decide, by decide⟩
theorem atX_50 : sp_at shX 50 8 6 := ⟨by decide, by decide⟩
theorem arX_51 : sp_ar shX 51 1 50 := ⟨by decide, by decide⟩
theorem arX_52 : sp_ar shX 52 1 6 := ⟨by decide, by decide⟩
theorem arX_53 : sp_ar shX 53 1 7 := ⟨by decide, by decide⟩
theorem arX_54 : sp_ar shX 54 1 10 := ⟨by decide, by decide⟩
theorem atX_55 : sp_at shX 55 0 7 := ⟨by decide, by decide⟩
theorem arX_56 : sp_ar shX 56 1 40 := ⟨by decide, by decide⟩
theorem atX_57 : sp_at shX 57 4 9 := ⟨by decide, by decide⟩
theorem arX_58 : sp_ar shX 58 1 4 := ⟨by decide, by decide⟩
theorem arX_59 : sp_ar shX 59 1 4 := ⟨by decide, by decide⟩
theorem atX_60 : sp_at shX 60 5 5 := ⟨by decide, by decide⟩
theorem arX_61 : sp_ar shX 61 1 1024 := ⟨by decide, by decide⟩
theorem arX_62 : sp_ar shX 62 1 1024 := ⟨by decide, by decide⟩
theorem arX_63 : sp_ar shX 63 1 5 := ⟨by decide, by decide⟩
theorem atX_64 : sp_at shX 64 3 6 := ⟨by decide, by decide⟩
theorem arX_65 : sp_ar shX 65 3 20 := ⟨by decide, by decide⟩
theorem atX_66 : sp_at shX 66 6 2 := ⟨by decide, by decide⟩
theorem arX_67 : sp_ar shX 67 1 64 := ⟨by decide, by decide⟩
theorem arX_68 : sp_ar shX 68 3 1 := ⟨by decide, by decide⟩
theorem srX_0_0 : shX.2.2.2 0 0 = 1 := by decide
theorem srX_0_5 : shX.2.2.2 0 5 = 21 := by decide
theorem srX_0_6 : shX.2.2.2 0 6 = 22 := by decide
theorem srX_0_7 : shX.2.2.2 0 7 = 36 := by decide
theorem srX_0_9 : shX.2.2.2 0 9 = 57 := by decide
theorem srX_0_10 : shX.2.2.2 0 10 = 60 := by decide
theorem srX_0_11 : shX.2.2.2 0 11 = 64 := by decide
theorem srX_0_12 : shX.2.2.2 0 12 = 66 := by decide
theorem srX_2_0 : shX.2.2.2 2 0 = 3 := by decide
theorem srX_2_1 : shX.2.2.2 2 1 = 4 := by decide
theorem srX_2_2 : shX.2.2.2 2 2 = 5 := by decide
theorem srX_2_3 : shX.2.2.2 2 3 = 6 := by decide
theorem srX_2_4 : shX.2.2.2 2 4 = 7 := by decide
theorem srX_2_5 : shX.2.2.2 2 5 = 8 := by decide
theorem srX_2_6 : shX.2.2.2 2 6 = 9 := by decide
theorem srX_2_7 : shX.2.2.2 2 7 = 10 := by decide
theorem srX_11_0 : shX.2.2.2 11 0 = 12 := by decide
theorem srX_11_1 : shX.2.2.2 11 1 = 13 := by decide
theorem srX_11_2 : shX.2.2.2 11 2 = 14 := by decide
theorem srX_11_3 : shX.2.2.2 11 3 = 15 := by decide
theorem srX_11_4 : shX.2.2.2 11 4 = 16 := by decide
theorem srX_11_5 : shX.2.2.2 11 5 = 17 := by decide
theorem srX_11_6 : shX.2.2.2 11 6 = 18 := by decide
theorem srX_11_7 : shX.2.2.2 11 7 = 19 := by decide
theorem srX_20_0 : shX.2.2.2 20 0 = 1 := by decide
theorem srX_21_0 : shX.2.2.2 21 0 = 20 := by decide
theorem srX_22_0 : shX.2.2.2 22 0 = 23 := by decide
theorem srX_22_1 : shX.2.2.2 22 1 = 30 := by decide
theorem srX_22_2 : shX.2.2.2 22 2 = 34 := by decide
theorem srX_22_3 : shX.2.2.2 22 3 = 35 := by decide
theorem srX_23_1 : shX.2.2.2 23 1 = 24 := by decide
theorem srX_23_2 : shX.2.2.2 23 2 = 25 := by decide
theorem srX_23_3 : shX.2.2.2 23 3 = 26 := by decide
theorem srX_23_4 : shX.2.2.2 23 4 = 27 := by decide
theorem srX_23_5 : shX.2.2.2 23 5 = 28 := by decide
theorem srX_28_0 : shX.2.2.2 28 0 = 29 := by decide
theorem srX_30_0 : shX.2.2.2 30 0 = 31 := by decide
theorem srX_30_1 : shX.2.2.2 30 1 = 32 := by decide
theorem srX_30_2 : shX.2.2.2 30 2 = 33 := by decide
theorem srX_36_0 : shX.2.2.2 36 0 = 37 := by decide
theorem srX_36_1 : shX.2.2.2 36 1 = 44 := by decide
theorem srX_36_2 : shX.2.2.2 36 2 = 48 := by decide
theorem srX_36_3 : shX.2.2.2 36 3 = 49 := by decide
theorem srX_37_1 : shX.2.2.2 37 1 = 38 := by decide
theorem srX_37_2 : shX.2.2.2 37 2 = 39 := by decide
theorem srX_37_3 : shX.2.2.2 37 3 = 40 := by decide
theorem srX_37_4 : shX.2.2.2 37 4 = 41 := by decide
theorem srX_37_5 : shX.2.2.2 37 5 = 42 := by decide
theorem srX_42_0 : shX.2.2.2 42 0 = 43 := by decide
theorem srX_44_0 : shX.2.2.2 44 0 = 45 := by decide
theorem srX_44_1 : shX.2.2.2 44 1 = 46 := by decide
theorem srX_44_2 : shX.2.2.2 44 2 = 47 := by decide
theorem srX_50_1 : shX.2.2.2 50 1 = 51 := by decide
theorem srX_50_2 : shX.2.2.2 50 2 = 52 := by decide
theorem srX_50_3 : shX.2.2.2 50 3 = 53 := by decide
theorem srX_50_4 : shX.2.2.2 50 4 = 54 := by decide
theorem srX_50_5 : shX.2.2.2 50 5 = 55 := by decide
theorem srX_55_0 : shX.2.2.2 55 0 = 56 := by decide
theorem srX_57_0 : shX.2.2.2 57 0 = 23 := by decide
theorem srX_57_1 : shX.2.2.2 57 1 = 50 := by decide
theorem srX_57_2 : shX.2.2.2 57 2 = 58 := by decide
theorem srX_57_3 : shX.2.2.2 57 3 = 59 := by decide
theorem srX_60_0 : shX.2.2.2 60 0 = 23 := by decide
theorem srX_60_1 : shX.2.2.2 60 1 = 61 := by decide
theorem srX_60_2 : shX.2.2.2 60 2 = 62 := by decide
theorem srX_60_3 : shX.2.2.2 60 3 = 63 := by decide
theorem srX_64_0 : shX.2.2.2 64 0 = 23 := by decide
theorem srX_64_1 : shX.2.2.2 64 1 = 30 := by decide
theorem srX_64_2 : shX.2.2.2 64 2 = 50 := by decide
theorem srX_64_3 : shX.2.2.2 64 3 = 65 := by decide
theorem srX_66_0 : shX.2.2.2 66 0 = 24 := by decide
theorem srX_66_1 : shX.2.2.2 66 1 = 67 := by decide
theorem fkX0_0 : shX.2.2.1 0 0 = 1 := by decide
theorem fkX0_1 : shX.2.2.1 0 1 = 0 := by decide
theorem fkX0_2 : shX.2.2.1 0 2 = 0 := by decide
theorem fkX0_3 : shX.2.2.1 0 3 = 0 := by decide
theorem fkX0_4 : shX.2.2.1 0 4 = 0 := by decide
theorem fkX0_5 : shX.2.2.1 0 5 = 0 := by decide
theorem fkX0_6 : shX.2.2.1 0 6 = 0 := by decide
theorem fkX1_0 : shX.2.2.1 1 0 = 1 := by decide
theorem fkX1_1 : shX.2.2.1 1 1 = 1 := by decide
theorem fkX1_2 : shX.2.2.1 1 2 = 1 := by decide
theorem fkX1_3 : shX.2.2.1 1 3 = 1 := by decide
theorem fkX1_4 : shX.2.2.1 1 4 = 0 := by decide
theorem fkX1_5 : shX.2.2.1 1 5 = 0 := by decide
theorem fkX2_0 : shX.2.2.1 2 0 = 1 := by decide
theorem fkX2_1 : shX.2.2.1 2 1 = 1 := by decide
theorem fkX2_2 : shX.2.2.1 2 2 = 1 := by decide
theorem fkX2_3 : shX.2.2.1 2 3 = 1 := by decide
theorem fkX2_4 : shX.2.2.1 2 4 = 1 := by decide
theorem fkX2_5 : shX.2.2.1 2 5 = 1 := by decide
theorem fkX2_6 : shX.2.2.1 2 6 = 1 := by decide
theorem fkX2_7 : shX.2.2.1 2 7 = 1 := by decide
theorem fkX2_8 : shX.2.2.1 2 8 = 0 := by decide
theorem fkX2_9 : shX.2.2.1 2 9 = 0 := by decide
theorem fkX2_10 : shX.2.2.1 2 10 = 0 := by decide
theorem fkX2_11 : shX.2.2.1 2 11 = 0 := by decide
theorem fkX2_12 : shX.2.2.1 2 12 = 0 := by decide
theorem fkX2_13 : shX.2.2.1 2 13 = 0 := by decide
theorem fkX2_14 : shX.2.2.1 2 14 = 0 := by decide
theorem fkX2_15 : shX.2.2.1 2 15 = 0 := by decide
theorem fkX2_16 : shX.2.2.1 2 16 = 0 := by decide
theorem fkX2_17 : shX.2.2.1 2 17 = 0 := by decide
theorem fkX3_0 : shX.2.2.1 3 0 = 1 := by decide
theorem fkX3_1 : shX.2.2.1 3 1 = 1 := by decide
theorem fkX3_2 : shX.2.2.1 3 2 = 1 := by decide
theorem fkX3_3 : shX.2.2.1 3 3 = 1 := by decide
theorem fkX3_4 : shX.2.2.1 3 4 = 0 := by decide
theorem fkX3_5 : shX.2.2.1 3 5 = 0 := by decide
theorem fkX4_0 : shX.2.2.1 4 0 = 1 := by decide
theorem fkX4_1 : shX.2.2.1 4 1 = 1 := by decide
theorem fkX4_2 : shX.2.2.1 4 2 = 1 := by decide
theorem fkX4_3 : shX.2.2.1 4 3 = 1 := by decide
theorem fkX4_4 : shX.2.2.1 4 4 = 0 := by decide
theorem fkX4_5 : shX.2.2.1 4 5 = 0 := by decide
theorem fkX4_6 : shX.2.2.1 4 6 = 0 := by decide
theorem fkX4_7 : shX.2.2.1 4 7 = 0 := by decide
theorem fkX4_8 : shX.2.2.1 4 8 = 0 := by decide
theorem fkX5_0 : shX.2.2.1 5 0 = 1 := by decide
theorem fkX5_1 : shX.2.2.1 5 1 = 1 := by decide
theorem fkX5_2 : shX.2.2.1 5 2 = 1 := by decide
theorem fkX5_3 : shX.2.2.1 5 3 = 1 := by decide
theorem fkX5_4 : shX.2.2.1 5 4 = 0 := by decide
theorem fkX6_0 : shX.2.2.1 6 0 = 1 := by decide
theorem fkX6_1 : shX.2.2.1 6 1 = 1 := by decide
theorem fkX7_0 : shX.2.2.1 7 0 = 1 := by decide
theorem fkX7_1 : shX.2.2.1 7 1 = 2 := by decide
theorem fkX7_2 : shX.2.2.1 7 2 = 0 := by decide
theorem fkX7_3 : shX.2.2.1 7 3 = 0 := by decide
theorem fkX7_4 : shX.2.2.1 7 4 = 0 := by decide
theorem fkX8_0 : shX.2.2.1 8 0 = 2 := by decide
theorem fkX8_1 : shX.2.2.1 8 1 = 1 := by decide
theorem fkX8_2 : shX.2.2.1 8 2 = 1 := by decide
theorem fkX8_3 : shX.2.2.1 8 3 = 1 := by decide
theorem fkX8_4 : shX.2.2.1 8 4 = 1 := by decide
theorem fkX8_5 : shX.2.2.1 8 5 = 1 := by decide
theorem fkX9_0 : shX.2.2.1 9 0 = 1 := by decide
theorem fkX9_1 : shX.2.2.1 9 1 = 1 := by decide
theorem fkX9_2 : shX.2.2.1 9 2 = 1 := by decide
theorem fkX9_3 : shX.2.2.1 9 3 = 0 := by decide
theorem fkX10_0 : shX.2.2.1 10 0 = 1 := by decide
theorem fkX10_1 : shX.2.2.1 10 1 = 0 := by decide
theorem fkX10_2 : shX.2.2.1 10 2 = 0 := by decide
theorem fkX10_3 : shX.2.2.1 10 3 = 0 := by decide
theorem fkX10_4 : shX.2.2.1 10 4 = 0 := by decide
theorem fkX10_5 : shX.2.2.1 10 5 = 0 := by decide
theorem fkX11_0 : shX.2.2.1 11 0 = 1 := by decide
theorem fkX11_1 : shX.2.2.1 11 1 = 0 := by decide
theorem fkX11_2 : shX.2.2.1 11 2 = 0 := by decide
theorem fkX11_3 : shX.2.2.1 11 3 = 2 := by decide
theorem fkX11_4 : shX.2.2.1 11 4 = 2 := by decide
theorem fkX11_5 : shX.2.2.1 11 5 = 1 := by decide
theorem fkX11_6 : shX.2.2.1 11 6 = 1 := by decide
theorem fkX11_7 : shX.2.2.1 11 7 = 1 := by decide
theorem fkX11_8 : shX.2.2.1 11 8 = 0 := by decide
theorem fkX11_9 : shX.2.2.1 11 9 = 1 := by decide
theorem fkX11_10 : shX.2.2.1 11 10 = 1 := by decide
theorem fkX11_11 : shX.2.2.1 11 11 = 1 := by decide
theorem fkX11_12 : shX.2.2.1 11 12 = 1 := by decide
def sp_klM : List (Nat × Nat) := [(22, 64), (4, 6), (4, 4), (1, 12), (1, 12), (1, 10), (1, 10), (1, 20), (1, 20), (1, 20), (1, 1400), (1, 1400), (1, 3), (1, 700), (1, 10), (1, 10), (1, 5), (1, 5), (1, 50), (1, 6), (1, 3520), (1, 6), (1, 64), (1, 10), (1, 6), (1, 88), (1, 88), (1, 6144), (2, 32768), (1, 8), (1, 8), (1, 8), (1, 88), (1, 1000), (1, 10000), (2, 100), (1, 8), (1, 88), (1, 3520), (1, 8), (1, 8), (1, 8), (1, 3)]
def sp_flM : List Nat := [1, 1, 2, 0, 1, 1, 1, 1, 1, 1, 1, 1, 1, 1, 1, 0, 0, 0, 0, 0, 0, 0, 0, 0, 0, 0, 1, 1, 1, 1, 1, 1, 1, 0, 0, 0, 0, 1, 1, 1, 1, 1, 1, 1, 1, 1, 1, 1, 1, 1, 1, 0, 1, 1, 0, 0, 0, 0, 1, 1, 1, 1, 1, 1]
def sp_fkM (_ k : Nat) : Nat := sp_flM.getD k 0
def sp_slM : List (List Nat) := [[1, 2, 0, 0, 3, 4, 5, 6, 7, 8, 9, 10, 11, 12, 13, 0, 0, 0, 0, 0, 0, 0, 0, 0, 0, 0, 14, 15, 16, 17, 18, 19, 20, 0, 0, 0, 0, 21, 22, 23, 24, 25, 26, 27, 28, 29, 30, 31, 32, 33, 34, 0, 35, 36, 0, 0, 0, 0, 37, 38, 39, 40, 41, 42], [0, 1, 2, 3, 4, 5], [0, 1, 2, 3], [], [], [], [], [], [], [], [], [], [], [], [], [], [], [], [], [], [], [], [], [], [], [], [], [], [], [], [], [], [], [], [], [], [], [], [], [], [], [], []]
def shM : sp_Sh := (43, fun p => sp_klM.getD p (0, 0), sp_fkM, fun p k => (sp_slM.getD p []).getD k 0)
theorem atM_0 : sp_at shM 0 12 64 := ⟨by decide, by decide⟩
theorem arM_1 : sp_ar shM 1 4 6 := ⟨by decide, by decide⟩
theorem arM_2 : sp_ar shM 2 4 4 := ⟨by decide, by decide⟩
theorem arM_3 : sp_ar shM 3 1 12 := ⟨by decide, by decide⟩
theorem arM_4 : sp_ar shM 4 1 12 := ⟨by decide, by decide⟩
theorem arM_5 : sp_ar shM 5 1 10 := ⟨by decide, by decide⟩
theorem arM_6 : sp_ar shM 6 1 10 := ⟨by decide, by decide⟩
theorem arM_7 : sp_ar shM 7 1 20 := ⟨by decide, by decide⟩
theorem arM_8 : sp_ar shM 8 1 20 := ⟨by decide, by decide⟩
theorem arM_9 : sp_ar shM 9 1 20 := ⟨by decide, by decide⟩
theorem arM_10 : sp_ar shM 10 1 1400 := ⟨by decide, by decide⟩
theorem arM_11 : sp_ar shM 11 1 1400 := ⟨by decide, by decide⟩
theorem arM_12 : sp_ar shM 12 1 3 := ⟨by decide, by decide⟩
theorem arM_13 : sp_ar shM 13 1 700 := ⟨by decide, by decide⟩
theorem arM_14 : sp_ar shM 14 1 10 := ⟨by decide, by decide⟩
theorem arM_15 : sp_ar shM 15 1 10 := ⟨by decide, by decide⟩
theorem arM_16 : sp_ar shM 16 1 5 := ⟨by decide, by decide⟩
theorem arM_17 : sp_ar shM 17 1 5 := ⟨by decide, by decide⟩
theorem arM_18 : sp_ar shM 18 1 50 := ⟨by decide, by decide⟩
theorem arM_19 : sp_ar shM 19 1 6 := ⟨by decide, by decide⟩
theorem arM_20 : sp_ar shM 20 1 3520 := ⟨by decide, by decide⟩
theorem arM_21 : sp_ar shM 21 1 6 := ⟨by decide, by decide⟩
theorem arM_22 : sp_ar shM 22 1 64 := ⟨by decide, by decide⟩
theorem arM_23 : sp_ar shM 23 1 10 := ⟨by decide, by decide⟩
theorem arM_24 : sp_ar shM 24 1 6 := ⟨by decide, by decide⟩
theorem arM_25 : sp_ar shM 25 1 88 := ⟨by decide, by decide⟩
theorem arM_26 : sp_ar shM 26 1 88 := ⟨by decide, by decide⟩
theorem arM_27 : sp_ar shM 27 1 6144 := ⟨by decide, by decide⟩
theorem arM_28 : sp_ar shM 28 2 32768 := ⟨by decide, by decide⟩
theorem arM_29 : sp_ar shM 29 1 8 := ⟨by decide, by decide⟩
theorem arM_30 : sp_ar shM 30 1 8 := ⟨by decide, by decide⟩
theorem arM_31 : sp_ar shM 31 1 8 := ⟨by decide, by decide⟩
theorem arM_32 : sp_ar shM 32 1 88 := ⟨by decide, by decide⟩
theorem arM_33 : sp_ar shM 33 1 1000 := ⟨by decide, by decide⟩
theorem arM_34 : sp_ar shM 34 1 10000 := ⟨by decide, by decide⟩
theorem arM_35 : sp_ar shM 35 2 100 := ⟨by decide, by decide⟩
theorem arM_36 : sp_ar shM 36 1 8 := ⟨by decide, by decide⟩
theorem arM_37 : sp_ar shM 37 1 88 := ⟨by decide, by decide⟩
theorem arM_38 : sp_ar shM 38 1 3520 := ⟨by decide, by decide⟩
theorem arM_39 : sp_ar shM 39 1 8 := ⟨by decide, by decide⟩
theorem arM_40 : sp_ar shM 40 1 8 := ⟨by decide, by decide⟩
theorem arM_41 : sp_ar shM 41 1 8 := ⟨by decide, by decide⟩
theorem arM_42 : sp_ar shM 42 1 3 := ⟨by decide, by decide⟩
theorem srM_0_0 : shM.2.2.2 0 0 = 1 := by decide
theorem srM_0_1 : shM.2.2.2 0 1 = 2 := by decide
theorem srM_0_4 : shM.2.2.2 0 4 = 3 := by decide
theorem srM_0_5 : shM.2.2.2 0 5 = 4 := by decide
theorem srM_0_6 : shM.2.2.2 0 6 = 5 := by decide
theorem srM_0_7 : shM.2.2.2 0 7 = 6 := by decide
theorem srM_0_8 : shM.2.2.2 0 8 = 7 := by decide
theorem srM_0_9 : shM.2.2.2 0 9 = 8 := by decide
theorem srM_0_10 : shM.2.2.2 0 10 = 9 := by decide
theorem srM_0_11 : shM.2.2.2 0 11 = 10 := by decide
theorem srM_0_12 : shM.2.2.2 0 12 = 11 := by decide
theorem srM_0_13 : shM.2.2.2 0 13 = 12 := by decide
theorem srM_0_14 : shM.2.2.2 0 14 = 13 := by decide
theorem srM_0_26 : shM.2.2.2 0 26 = 14 := by decide
theorem srM_0_27 : shM.2.2.2 0 27 = 15 := by decide
theorem srM_0_28 : shM.2.2.2 0 28 = 16 := by decide
theorem srM_0_29 : shM.2.2.2 0 29 = 17 := by decide
theorem srM_0_30 : shM.2.2.2 0 30 = 18 := by decide
theorem srM_0_31 : shM.2.2.2 0 31 = 19 := by decide
theorem srM_0_32 : shM.2.2.2 0 32 = 20 := by decide
theorem srM_0_37 : shM.2.2.2 0 37 = 21 := by decide
theorem srM_0_38 : shM.2.2.2 0 38 = 22 := by decide
theorem srM_0_39 : shM.2.2.2 0 39 = 23 := by decide
theorem srM_0_40 : shM.2.2.2 0 40 = 24 := by decide
theorem srM_0_41 : shM.2.2.2 0 41 = 25 := by decide
theorem srM_0_42 : shM.2.2.2 0 42 = 26 := by decide
theorem srM_0_43 : shM.2.2.2 0 43 = 27 := by decide
theorem srM_0_44 : shM.2.2.2 0 44 = 28 := by decide
theorem srM_0_45 : shM.2.2.2 0 45 = 29 := by decide
theorem srM_0_46 : shM.2.2.2 0 46 = 30 := by decide
theorem srM_0_47 : shM.2.2.2 0 47 = 31 := by decide
theorem srM_0_48 : shM.2.2.2 0 48 = 32 := by decide
theorem srM_0_49 : shM.2.2.2 0 49 = 33 := by decide
theorem srM_0_50 : shM.2.2.2 0 50 = 34 := by decide
theorem srM_0_52 : shM.2.2.2 0 52 = 35 := by decide
theorem srM_0_53 : shM.2.2.2 0 53 = 36 := by decide
theorem srM_0_58 : shM.2.2.2 0 58 = 37 := by decide
theorem srM_0_59 : shM.2.2.2 0 59 = 38 := by decide
theorem srM_0_60 : shM.2.2.2 0 60 = 39 := by decide
theorem srM_0_61 : shM.2.2.2 0 61 = 40 := by decide
theorem srM_0_62 : shM.2.2.2 0 62 = 41 := by decide
theorem srM_0_63 : shM.2.2.2 0 63 = 42 := by decide
theorem fkX12_0 : shM.2.2.1 12 0 = 1 := by decide
theorem fkX12_1 : shM.2.2.1 12 1 = 1 := by decide
theorem fkX12_2 : shM.2.2.1 12 2 = 2 := by decide
theorem fkX12_3 : shM.2.2.1 12 3 = 0 := by decide
theorem fkX12_4 : shM.2.2.1 12 4 = 1 := by decide
theorem fkX12_5 : shM.2.2.1 12 5 = 1 := by decide
theorem fkX12_6 : shM.2.2.1 12 6 = 1 := by decide
theorem fkX12_7 : shM.2.2.1 12 7 = 1 := by decide
theorem fkX12_8 : shM.2.2.1 12 8 = 1 := by decide
theorem fkX12_9 : shM.2.2.1 12 9 = 1 := by decide
theorem fkX12_10 : shM.2.2.1 12 10 = 1 := by decide
theorem fkX12_11 : shM.2.2.1 12 11 = 1 := by decide
theorem fkX12_12 : shM.2.2.1 12 12 = 1 := by decide
theorem fkX12_13 : shM.2.2.1 12 13 = 1 := by decide
theorem fkX12_14 : shM.2.2.1 12 14 = 1 := by decide
theorem fkX12_15 : shM.2.2.1 12 15 = 0 := by decide
theorem fkX12_16 : shM.2.2.1 12 16 = 0 := by decide
theorem fkX12_17 : shM.2.2.1 12 17 = 0 := by decide
theorem fkX12_18 : shM.2.2.1 12 18 = 0 := by decide
theorem fkX12_19 : shM.2.2.1 12 19 = 0 := by decide
theorem fkX12_20 : shM.2.2.1 12 20 = 0 := by decide
theorem fkX12_21 : shM.2.2.1 12 21 = 0 := by decide
theorem fkX12_22 : shM.2.2.1 12 22 = 0 := by decide
theorem fkX12_23 : shM.2.2.1 12 23 = 0 := by decide
theorem fkX12_24 : shM.2.2.1 12 24 = 0 := by decide
theorem fkX12_25 : shM.2.2.1 12 25 = 0 := by decide
theorem fkX12_26 : shM.2.2.1 12 26 = 1 := by decide
theorem fkX12_27 : shM.2.2.1 12 27 = 1 := by decide
theorem fkX12_28 : shM.2.2.1 12 28 = 1 := by decide
theorem fkX12_29 : shM.2.2.1 12 29 = 1 := by decide
theorem fkX12_30 : shM.2.2.1 12 30 = 1 := by decide
theorem fkX12_31 : shM.2.2.1 12 31 = 1 := by decide
theorem fkX12_32 : shM.2.2.1 12 32 = 1 := by decide
theorem fkX12_33 : shM.2.2.1 12 33 = 0 := by decide
theorem fkX12_34 : shM.2.2.1 12 34 = 0 := by decide
theorem fkX12_35 : shM.2.2.1 12 35 = 0 := by decide
theorem fkX12_36 : shM.2.2.1 12 36 = 0 := by decide
theorem fkX12_37 : shM.2.2.1 12 37 = 1 := by decide
theorem fkX12_38 : shM.2.2.1 12 38 = 1 := by decide
theorem fkX12_39 : shM.2.2.1 12 39 = 1 := by decide
theorem fkX12_40 : shM.2.2.1 12 40 = 1 := by decide
theorem fkX12_41 : shM.2.2.1 12 41 = 1 := by decide
theorem fkX12_42 : shM.2.2.1 12 42 = 1 := by decide
theorem fkX12_43 : shM.2.2.1 12 43 = 1 := by decide
theorem fkX12_44 : shM.2.2.1 12 44 = 1 := by decide
theorem fkX12_45 : shM.2.2.1 12 45 = 1 := by decide
theorem fkX12_46 : shM.2.2.1 12 46 = 1 := by decide
theorem fkX12_47 : shM.2.2.1 12 47 = 1 := by decide
theorem fkX12_48 : shM.2.2.1 12 48 = 1 := by decide
theorem fkX12_49 : shM.2.2.1 12 49 = 1 := by decide
theorem fkX12_50 : shM.2.2.1 12 50 = 1 := by decide
theorem fkX12_51 : shM.2.2.1 12 51 = 0 := by decide
theorem fkX12_52 : shM.2.2.1 12 52 = 1 := by decide
theorem fkX12_53 : shM.2.2.1 12 53 = 1 := by decide
theorem fkX12_54 : shM.2.2.1 12 54 = 0 := by decide
theorem fkX12_55 : shM.2.2.1 12 55 = 0 := by decide
theorem fkX12_56 : shM.2.2.1 12 56 = 0 := by decide
theorem fkX12_57 : shM.2.2.1 12 57 = 0 := by decide
theorem fkX12_58 : shM.2.2.1 12 58 = 1 := by decide
theorem fkX12_59 : shM.2.2.1 12 59 = 1 := by decide
theorem fkX12_60 : shM.2.2.1 12 60 = 1 := by decide
theorem fkX12_61 : shM.2.2.1 12 61 = 1 := by decide
theorem fkX12_62 : shM.2.2.1 12 62 = 1 := by decide
theorem fkX12_63 : shM.2.2.1 12 63 = 1 := by decide
theorem mdX2_0 : ∀ t, t < 69 → shX.2.1 t = (12, 18) → (shX.2.2.2 t 0 = t + 1 ∧ t + 1 < 69 ∧ shX.2.1 (t + 1) = (1, 10)) := by decide +kernel
theorem msX2_0 {t : Nat} (h : sp_at shX t 2 18) : shX.2.2.2 t 0 = t + 1 := (mdX2_0 t h.1 h.2).1
theorem mfX2_0 {t : Nat} (h : sp_at shX t 2 18) : sp_ar shX (t + 1) 1 10 := (mdX2_0 t h.1 h.2).2
theorem mdX2_1 : ∀ t, t < 69 → shX.2.1 t = (12, 18) → (shX.2.2.2 t 1 = t + 2 ∧ t + 2 < 69 ∧ shX.2.1 (t + 2) = (1, 10)) := by decide +kernel
theorem msX2_1 {t : Nat} (h : sp_at shX t 2 18) : shX.2.2.2 t 1 = t + 2 := (mdX2_1 t h.1 h.2).1
theorem mfX2_1 {t : Nat} (h : sp_at shX t 2 18) : sp_ar shX (t + 2) 1 10 := (mdX2_1 t h.1 h.2).2
theorem mdX2_2 : ∀ t, t < 69 → shX.2.1 t = (12, 18) → (shX.2.2.2 t 2 = t + 3 ∧ t + 3 < 69 ∧ shX.2.1 (t + 3) = (1, 10)) := by decide +kernel
theorem msX2_2 {t : Nat} (h : sp_at shX t 2 18) : shX.2.2.2 t 2 = t + 3 := (mdX2_2 t h.1 h.2).1
theorem mfX2_2 {t : Nat} (h : sp_at shX t 2 18) : sp_ar shX (t + 3) 1 10 := (mdX2_2 t h.1 h.2).2
theorem mdX2_3 : ∀ t, t < 69 → shX.2.1 t = (12, 18) → (shX.2.2.2 t 3 = t + 4 ∧ t + 4 < 69 ∧ shX.2.1 (t + 4) = (1, 6)) := by decide +kernel
theorem msX2_3 {t : Nat} (h : sp_at shX t 2 18) : shX.2.2.2 t 3 = t + 4 := (mdX2_3 t h.1 h.2).1
theorem mfX2_3 {t : Nat} (h : sp_at shX t 2 18) : sp_ar shX (t + 4) 1 6 := (mdX2_3 t h.1 h.2).2
theorem mdX2_4 : ∀ t, t < 69 → shX.2.1 t = (12, 18) → (shX.2.2.2 t 4 = t + 5 ∧ t + 5 < 69 ∧ shX.2.1 (t + 5) = (1, 5)) := by decide +kernel
theorem msX2_4 {t : Nat} (h : sp_at shX t 2 18) : shX.2.2.2 t 4 = t + 5 := (mdX2_4 t h.1 h.2).1
theorem mfX2_4 {t : Nat} (h : sp_at shX t 2 18) : sp_ar shX (t + 5) 1 5 := (mdX2_4 t h.1 h.2).2
theorem mdX2_5 : ∀ t, t < 69 → shX.2.1 t = (12, 18) → (shX.2.2.2 t 5 = t + 6 ∧ t + 6 < 69 ∧ shX.2.1 (t + 6) = (1, 5)) := by decide +kernel
theorem msX2_5 {t : Nat} (h : sp_at shX t 2 18) : shX.2.2.2 t 5 = t + 6 := (mdX2_5 t h.1 h.2).1
theorem mfX2_5 {t : Nat} (h : sp_at shX t 2 18) : sp_ar shX (t + 6) 1 5 := (mdX2_5 t h.1 h.2).2
theorem mdX2_6 : ∀ t, t < 69 → shX.2.1 t = (12, 18) → (shX.2.2.2 t 6 = t + 7 ∧ t + 7 < 69 ∧ shX.2.1 (t + 7) = (1, 6)) := by decide +kernel
theorem msX2_6 {t : Nat} (h : sp_at shX t 2 18) : shX.2.2.2 t 6 = t + 7 := (mdX2_6 t h.1 h.2).1
theorem mfX2_6 {t : Nat} (h : sp_at shX t 2 18) : sp_ar shX (t + 7) 1 6 := (mdX2_6 t h.1 h.2).2
theorem mdX2_7 : ∀ t, t < 69 → shX.2.1 t = (12, 18) → (shX.2.2.2 t 7 = t + 8 ∧ t + 8 < 69 ∧ shX.2.1 (t + 8) = (1, 700)) := by decide +kernel
theorem msX2_7 {t : Nat} (h : sp_at shX t 2 18) : shX.2.2.2 t 7 = t + 8 := (mdX2_7 t h.1 h.2).1
theorem mfX2_7 {t : Nat} (h : sp_at shX t 2 18) : sp_ar shX (t + 8) 1 700 := (mdX2_7 t h.1 h.2).2
theorem mdX8_1 : ∀ t, t < 69 → shX.2.1 t = (18, 6) → (shX.2.2.2 t 1 = t + 1 ∧ t + 1 < 69 ∧ shX.2.1 (t + 1) = (1, 50)) := by decide +kernel
theorem msX8_1 {t : Nat} (h : sp_at shX t 8 6) : shX.2.2.2 t 1 = t + 1 := (mdX8_1 t h.1 h.2).1
theorem mfX8_1 {t : Nat} (h : sp_at shX t 8 6) : sp_ar shX (t + 1) 1 50 := (mdX8_1 t h.1 h.2).2
theorem mdX8_2 : ∀ t, t < 69 → shX.2.1 t = (18, 6) → (shX.2.2.2 t 2 = t + 2 ∧ t + 2 < 69 ∧ shX.2.1 (t + 2) = (1, 6)) := by decide +kernel
theorem msX8_2 {t : Nat} (h : sp_at shX t 8 6) : shX.2.2.2 t 2 = t + 2 := (mdX8_2 t h.1 h.2).1
theorem mfX8_2 {t : Nat} (h : sp_at shX t 8 6) : sp_ar shX (t + 2) 1 6 := (mdX8_2 t h.1 h.2).2
theorem mdX8_3 : ∀ t, t < 69 → shX.2.1 t = (18, 6) → (shX.2.2.2 t 3 = t + 3 ∧ t + 3 < 69 ∧ shX.2.1 (t + 3) = (1, 7)) := by decide +kernel
theorem msX8_3 {t : Nat} (h : sp_at shX t 8 6) : shX.2.2.2 t 3 = t + 3 := (mdX8_3 t h.1 h.2).1
theorem mfX8_3 {t : Nat} (h : sp_at shX t 8 6) : sp_ar shX (t + 3) 1 7 := (mdX8_3 t h.1 h.2).2
theorem mdX8_4 : ∀ t, t < 69 → shX.2.1 t = (18, 6) → (shX.2.2.2 t 4 = t + 4 ∧ t + 4 < 69 ∧ shX.2.1 (t + 4) = (1, 10)) := by decide +kernel
theorem msX8_4 {t : Nat} (h : sp_at shX t 8 6) : shX.2.2.2 t 4 = t + 4 := (mdX8_4 t h.1 h.2).1
theorem mfX8_4 {t : Nat} (h : sp_at shX t 8 6) : sp_ar shX (t + 4) 1 10 := (mdX8_4 t h.1 h.2).2
theorem mdX8_5 : ∀ t, t < 69 → shX.2.1 t = (18, 6) → (shX.2.2.2 t 5 = t + 5 ∧ t + 5 < 69 ∧ shX.2.1 (t + 5) = (10, 7)) := by decide +kernel
theorem msX8_5 {t : Nat} (h : sp_at shX t 8 6) : shX.2.2.2 t 5 = t + 5 := (mdX8_5 t h.1 h.2).1
theorem mfX8_5 {t : Nat} (h : sp_at shX t 8 6) : sp_at shX (t + 5) 0 7 := (mdX8_5 t h.1 h.2).2
theorem mdX0_0 : ∀ t, t < 69 → shX.2.1 t = (10, 7) → (shX.2.2.2 t 0 = t + 1 ∧ t + 1 < 69 ∧ shX.2.1 (t + 1) = (1, 40)) := by decide +kernel
theorem msX0_0 {t : Nat} (h : sp_at shX t 0 7) : shX.2.2.2 t 0 = t + 1 := (mdX0_0 t h.1 h.2).1
theorem mfX0_0 {t : Nat} (h : sp_at shX t 0 7) : sp_ar shX (t + 1) 1 40 := (mdX0_0 t h.1 h.2).2
theorem mdX1_0 : ∀ t, t < 69 → shX.2.1 t = (11, 6) → (shX.2.2.2 t 0 = t + 1 ∧ t + 1 < 69 ∧ shX.2.1 (t + 1) = (18, 6)) := by decide +kernel
theorem msX1_0 {t : Nat} (h : sp_at shX t 1 6) : shX.2.2.2 t 0 = t + 1 := (mdX1_0 t h.1 h.2).1
theorem mfX1_0 {t : Nat} (h : sp_at shX t 1 6) : sp_at shX (t + 1) 8 6 := (mdX1_0 t h.1 h.2).2
theorem mdX1_1 : ∀ t, t < 69 → shX.2.1 t = (11, 6) → (shX.2.2.2 t 1 = t + 8 ∧ t + 8 < 69 ∧ shX.2.1 (t + 8) = (19, 4)) := by decide +kernel
theorem msX1_1 {t : Nat} (h : sp_at shX t 1 6) : shX.2.2.2 t 1 = t + 8 := (mdX1_1 t h.1 h.2).1
theorem mfX1_1 {t : Nat} (h : sp_at shX t 1 6) : sp_at shX (t + 8) 9 4 := (mdX1_1 t h.1 h.2).2
theorem mdX1_2 : ∀ t, t < 69 → shX.2.1 t = (11, 6) → (shX.2.2.2 t 2 = t + 12 ∧ t + 12 < 69 ∧ shX.2.1 (t + 12) = (1, 3)) := by decide +kernel
theorem msX1_2 {t : Nat} (h : sp_at shX t 1 6) : shX.2.2.2 t 2 = t + 12 := (mdX1_2 t h.1 h.2).1
theorem mfX1_2 {t : Nat} (h : sp_at shX t 1 6) : sp_ar shX (t + 12) 1 3 := (mdX1_2 t h.1 h.2).2
theorem mdX1_3 : ∀ t, t < 69 → shX.2.1 t = (11, 6) → (shX.2.2.2 t 3 = t + 13 ∧ t + 13 < 69 ∧ shX.2.1 (t + 13) = (1, 2000)) := by decide +kernel
theorem msX1_3 {t : Nat} (h : sp_at shX t 1 6) : shX.2.2.2 t 3 = t + 13 := (mdX1_3 t h.1 h.2).1
theorem mfX1_3 {t : Nat} (h : sp_at shX t 1 6) : sp_ar shX (t + 13) 1 2000 := (mdX1_3 t h.1 h.2).2
theorem mdX9_0 : ∀ t, t < 69 → shX.2.1 t = (19, 4) → (shX.2.2.2 t 0 = t + 1 ∧ t + 1 < 69 ∧ shX.2.1 (t + 1) = (1, 8)) := by decide +kernel
theorem msX9_0 {t : Nat} (h : sp_at shX t 9 4) : shX.2.2.2 t 0 = t + 1 := (mdX9_0 t h.1 h.2).1
theorem mfX9_0 {t : Nat} (h : sp_at shX t 9 4) : sp_ar shX (t + 1) 1 8 := (mdX9_0 t h.1 h.2).2
theorem mdX9_1 : ∀ t, t < 69 → shX.2.1 t = (19, 4) → (shX.2.2.2 t 1 = t + 2 ∧ t + 2 < 69 ∧ shX.2.1 (t + 2) = (1, 8)) := by decide +kernel
theorem msX9_1 {t : Nat} (h : sp_at shX t 9 4) : shX.2.2.2 t 1 = t + 2 := (mdX9_1 t h.1 h.2).1
theorem mfX9_1 {t : Nat} (h : sp_at shX t 9 4) : sp_ar shX (t + 2) 1 8 := (mdX9_1 t h.1 h.2).2
theorem mdX9_2 : ∀ t, t < 69 → shX.2.1 t = (19, 4) → (shX.2.2.2 t 2 = t + 3 ∧ t + 3 < 69 ∧ shX.2.1 (t + 3) = (1, 8)) := by decide +kernel
theorem msX9_2 {t : Nat} (h : sp_at shX t 9 4) : shX.2.2.2 t 2 = t + 3 := (mdX9_2 t h.1 h.2).1
theorem mfX9_2 {t : Nat} (h : sp_at shX t 9 4) : sp_ar shX (t + 3) 1 8 := (mdX9_2 t h.1 h.2).2
/-- one of the two cities -/
def sp_isc (c : Nat) : Bool := decide (c = 2) || decide (c = 11)
theorem sp_isc_at {c : Nat} (h : sp_isc c = true) : sp_at shX c 2 18 := by
  simp only [sp_isc, Bool.or_eq_true, decide_eq_true_eq] at h
  rcases h with rfl | rfl
  · exact atX_2
  · exact atX_11
/-- one of the two rows of words -/
def sp_isv (c : Nat) : Bool := decide (c = 1) || decide (c = 2)
def sp_vl (c : Nat) : Nat := if c = 1 then 6 else 4
theorem sp_isv_ar {c : Nat} (h : sp_isv c = true) : sp_ar shM c 4 (sp_vl c) := by
  simp only [sp_isv, Bool.or_eq_true, decide_eq_true_eq] at h
  rcases h with rfl | rfl
  · exact arM_1
  · exact arM_2
