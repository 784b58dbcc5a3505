/-! THE REFERENCE: instructions, values (printed by wip/p2/ref2.py) -/
section AMH
variable {sc : Nat × (Nat → Int32)}
theorem hi_177_0 : (am_PP sc).1 177 0 = some (2, 0, 0, 0, 0, 1, []) := am_h (by decide +kernel)
theorem hi_177_1 : (am_PP sc).1 177 1 = some (20, 11, 38, 0, 0, 4, []) := am_h (by decide +kernel)
theorem hi_177_4 : (am_PP sc).1 177 4 = some (2, 0, 0, 0, 0, 5, []) := am_h (by decide +kernel)
theorem hi_177_5 : (am_PP sc).1 177 5 = some (20, 11, 37, 0, 0, 8, []) := am_h (by decide +kernel)
theorem hi_177_8 : (am_PP sc).1 177 8 = some (2, 0, 0, 0, 0, 9, []) := am_h (by decide +kernel)
theorem hi_177_9 : (am_PP sc).1 177 9 = some (20, 11, 24, 0, 0, 12, []) := am_h (by decide +kernel)
theorem hi_177_12 : (am_PP sc).1 177 12 = some (26, 0, 0, 0, 0, 13, []) := am_h (by decide +kernel)
theorem hi_177_13 : (am_PP sc).1 177 13 = some (2, 0, 0, 0, 0, 14, []) := am_h (by decide +kernel)
theorem hi_177_14 : (am_PP sc).1 177 14 = some (20, 11, 39, 0, 0, 17, []) := am_h (by decide +kernel)
theorem hi_177_17 : (am_PP sc).1 177 17 = some (2, 0, 0, 0, 0, 18, []) := am_h (by decide +kernel)
theorem hi_177_18 : (am_PP sc).1 177 18 = some (20, 11, 37, 0, 0, 21, []) := am_h (by decide +kernel)
theorem hi_177_21 : (am_PP sc).1 177 21 = some (2, 0, 0, 0, 0, 22, []) := am_h (by decide +kernel)
theorem hi_177_22 : (am_PP sc).1 177 22 = some (20, 11, 44, 0, 0, 25, []) := am_h (by decide +kernel)
theorem hi_177_25 : (am_PP sc).1 177 25 = some (26, 0, 0, 0, 0, 26, []) := am_h (by decide +kernel)
theorem hi_177_26 : (am_PP sc).1 177 26 = some (2, 0, 0, 0, 0, 27, []) := am_h (by decide +kernel)
theorem hi_177_27 : (am_PP sc).1 177 27 = some (20, 11, 40, 0, 0, 30, []) := am_h (by decide +kernel)
theorem hi_177_30 : (am_PP sc).1 177 30 = some (2, 0, 0, 0, 0, 31, []) := am_h (by decide +kernel)
theorem hi_177_31 : (am_PP sc).1 177 31 = some (20, 11, 37, 0, 0, 34, []) := am_h (by decide +kernel)
theorem hi_177_34 : (am_PP sc).1 177 34 = some (2, 0, 0, 0, 0, 35, []) := am_h (by decide +kernel)
theorem hi_177_35 : (am_PP sc).1 177 35 = some (20, 11, 48, 0, 0, 38, []) := am_h (by decide +kernel)
theorem hi_177_38 : (am_PP sc).1 177 38 = some (26, 0, 0, 0, 0, 39, []) := am_h (by decide +kernel)
theorem hi_177_39 : (am_PP sc).1 177 39 = some (2, 0, 0, 0, 0, 40, []) := am_h (by decide +kernel)
theorem hi_177_40 : (am_PP sc).1 177 40 = some (20, 11, 41, 0, 0, 43, []) := am_h (by decide +kernel)
theorem hi_177_43 : (am_PP sc).1 177 43 = some (2, 0, 0, 0, 0, 44, []) := am_h (by decide +kernel)
theorem hi_177_44 : (am_PP sc).1 177 44 = some (20, 11, 37, 0, 0, 47, []) := am_h (by decide +kernel)
theorem hi_177_47 : (am_PP sc).1 177 47 = some (2, 0, 0, 0, 0, 48, []) := am_h (by decide +kernel)
theorem hi_177_48 : (am_PP sc).1 177 48 = some (20, 11, 32, 0, 0, 51, []) := am_h (by decide +kernel)
theorem hi_177_51 : (am_PP sc).1 177 51 = some (26, 0, 0, 0, 0, 52, []) := am_h (by decide +kernel)
theorem hi_177_52 : (am_PP sc).1 177 52 = some (2, 0, 0, 0, 0, 53, []) := am_h (by decide +kernel)
theorem hi_177_53 : (am_PP sc).1 177 53 = some (20, 11, 42, 0, 0, 56, []) := am_h (by decide +kernel)
theorem hi_177_56 : (am_PP sc).1 177 56 = some (2, 0, 0, 0, 0, 57, []) := am_h (by decide +kernel)
theorem hi_177_57 : (am_PP sc).1 177 57 = some (20, 11, 37, 0, 0, 60, []) := am_h (by decide +kernel)
theorem hi_177_60 : (am_PP sc).1 177 60 = some (1, 1, 0, 0, 0, 61, []) := am_h (by decide +kernel)
theorem hi_177_61 : (am_PP sc).1 177 61 = some (26, 1, 0, 0, 0, 62, []) := am_h (by decide +kernel)
theorem hi_177_62 : (am_PP sc).1 177 62 = some (2, 0, 0, 0, 0, 63, []) := am_h (by decide +kernel)
theorem hi_177_63 : (am_PP sc).1 177 63 = some (20, 11, 43, 0, 0, 66, []) := am_h (by decide +kernel)
theorem hi_177_66 : (am_PP sc).1 177 66 = some (2, 0, 0, 0, 0, 67, []) := am_h (by decide +kernel)
theorem hi_177_67 : (am_PP sc).1 177 67 = some (20, 11, 37, 0, 0, 70, []) := am_h (by decide +kernel)
theorem hi_177_70 : (am_PP sc).1 177 70 = some (0, 0, 0, 0, 0, 71, []) := am_h (by decide +kernel)
theorem hi_177_71 : (am_PP sc).1 177 71 = some (26, 0, 0, 0, 0, 72, []) := am_h (by decide +kernel)
theorem hi_177_72 : (am_PP sc).1 177 72 = some (2, 0, 0, 0, 0, 73, []) := am_h (by decide +kernel)
theorem hi_177_73 : (am_PP sc).1 177 73 = some (7, 0, 0, 0, 0, 74, []) := am_h (by decide +kernel)
theorem hi_177_74 : (am_PP sc).1 177 74 = some (20, 11, 37, 0, 0, 77, []) := am_h (by decide +kernel)
theorem hi_177_77 : (am_PP sc).1 177 77 = some (0, 0, 0, 0, 1, 78, []) := am_h (by decide +kernel)
theorem hi_177_78 : (am_PP sc).1 177 78 = some (10, 0, 0, 0, 0, 79, []) := am_h (by decide +kernel)
theorem hi_177_79 : (am_PP sc).1 177 79 = some (21, 11, 37, 0, 0, 82, []) := am_h (by decide +kernel)
theorem hi_177_82 : (am_PP sc).1 177 82 = some (35, 0, 0, 0, 0, 83, []) := am_h (by decide +kernel)
theorem hi_189_0 : (am_PP sc).1 189 0 = some (2, 0, 0, 0, 0, 1, []) := am_h (by decide +kernel)
theorem hi_189_1 : (am_PP sc).1 189 1 = some (20, 11, 68, 0, 0, 4, []) := am_h (by decide +kernel)
theorem hi_189_4 : (am_PP sc).1 189 4 = some (0, 0, 0, 0, 65536, 6, []) := am_h (by decide +kernel)
theorem hi_189_6 : (am_PP sc).1 189 6 = some (13, 3, 78, 0, 0, 9, []) := am_h (by decide +kernel)
theorem hi_189_9 : (am_PP sc).1 189 9 = some (2, 0, 0, 0, 0, 10, []) := am_h (by decide +kernel)
theorem hi_189_10 : (am_PP sc).1 189 10 = some (20, 11, 69, 0, 0, 13, []) := am_h (by decide +kernel)
theorem hi_189_13 : (am_PP sc).1 189 13 = some (2, 0, 0, 0, 0, 14, []) := am_h (by decide +kernel)
theorem hi_189_14 : (am_PP sc).1 189 14 = some (20, 11, 68, 0, 0, 17, []) := am_h (by decide +kernel)
theorem hi_189_17 : (am_PP sc).1 189 17 = some (2, 0, 0, 0, 0, 18, []) := am_h (by decide +kernel)
theorem hi_189_18 : (am_PP sc).1 189 18 = some (20, 11, 33, 0, 0, 21, []) := am_h (by decide +kernel)
theorem hi_189_21 : (am_PP sc).1 189 21 = some (2, 0, 0, 0, 0, 22, []) := am_h (by decide +kernel)
theorem hi_189_22 : (am_PP sc).1 189 22 = some (20, 11, 32, 0, 0, 25, []) := am_h (by decide +kernel)
theorem hi_189_25 : (am_PP sc).1 189 25 = some (25, 0, 0, 0, 0, 26, []) := am_h (by decide +kernel)
theorem hi_189_26 : (am_PP sc).1 189 26 = some (26, 0, 0, 0, 0, 27, []) := am_h (by decide +kernel)
theorem hi_189_27 : (am_PP sc).1 189 27 = some (2, 0, 0, 0, 0, 28, []) := am_h (by decide +kernel)
theorem hi_189_28 : (am_PP sc).1 189 28 = some (20, 11, 70, 0, 0, 31, []) := am_h (by decide +kernel)
theorem hi_189_31 : (am_PP sc).1 189 31 = some (2, 0, 0, 0, 0, 32, []) := am_h (by decide +kernel)
theorem hi_189_32 : (am_PP sc).1 189 32 = some (20, 11, 68, 0, 0, 35, []) := am_h (by decide +kernel)
theorem hi_189_35 : (am_PP sc).1 189 35 = some (1, 1, 0, 0, 0, 36, []) := am_h (by decide +kernel)
theorem hi_189_36 : (am_PP sc).1 189 36 = some (26, 0, 0, 0, 0, 37, []) := am_h (by decide +kernel)
theorem hi_189_37 : (am_PP sc).1 189 37 = some (2, 0, 0, 0, 0, 38, []) := am_h (by decide +kernel)
theorem hi_189_38 : (am_PP sc).1 189 38 = some (20, 11, 71, 0, 0, 41, []) := am_h (by decide +kernel)
theorem hi_189_41 : (am_PP sc).1 189 41 = some (2, 0, 0, 0, 0, 42, []) := am_h (by decide +kernel)
theorem hi_189_42 : (am_PP sc).1 189 42 = some (20, 11, 68, 0, 0, 45, []) := am_h (by decide +kernel)
theorem hi_189_45 : (am_PP sc).1 189 45 = some (1, 2, 0, 0, 0, 46, []) := am_h (by decide +kernel)
theorem hi_189_46 : (am_PP sc).1 189 46 = some (26, 0, 0, 0, 0, 47, []) := am_h (by decide +kernel)
theorem hi_189_47 : (am_PP sc).1 189 47 = some (2, 0, 0, 0, 0, 48, []) := am_h (by decide +kernel)
theorem hi_189_48 : (am_PP sc).1 189 48 = some (20, 11, 72, 0, 0, 51, []) := am_h (by decide +kernel)
theorem hi_189_51 : (am_PP sc).1 189 51 = some (2, 0, 0, 0, 0, 52, []) := am_h (by decide +kernel)
theorem hi_189_52 : (am_PP sc).1 189 52 = some (20, 11, 68, 0, 0, 55, []) := am_h (by decide +kernel)
theorem hi_189_55 : (am_PP sc).1 189 55 = some (1, 3, 0, 0, 0, 56, []) := am_h (by decide +kernel)
theorem hi_189_56 : (am_PP sc).1 189 56 = some (26, 0, 0, 0, 0, 57, []) := am_h (by decide +kernel)
theorem hi_189_57 : (am_PP sc).1 189 57 = some (2, 0, 0, 0, 0, 58, []) := am_h (by decide +kernel)
theorem hi_189_58 : (am_PP sc).1 189 58 = some (20, 11, 73, 0, 0, 61, []) := am_h (by decide +kernel)
theorem hi_189_61 : (am_PP sc).1 189 61 = some (2, 0, 0, 0, 0, 62, []) := am_h (by decide +kernel)
theorem hi_189_62 : (am_PP sc).1 189 62 = some (20, 11, 68, 0, 0, 65, []) := am_h (by decide +kernel)
theorem hi_189_65 : (am_PP sc).1 189 65 = some (1, 4, 0, 0, 0, 67, []) := am_h (by decide +kernel)
theorem hi_189_67 : (am_PP sc).1 189 67 = some (26, 0, 0, 0, 0, 68, []) := am_h (by decide +kernel)
theorem hi_189_68 : (am_PP sc).1 189 68 = some (2, 0, 0, 0, 0, 69, []) := am_h (by decide +kernel)
theorem hi_189_69 : (am_PP sc).1 189 69 = some (7, 0, 0, 0, 0, 70, []) := am_h (by decide +kernel)
theorem hi_189_70 : (am_PP sc).1 189 70 = some (20, 11, 68, 0, 0, 73, []) := am_h (by decide +kernel)
theorem hi_189_73 : (am_PP sc).1 189 73 = some (0, 0, 0, 0, 1, 74, []) := am_h (by decide +kernel)
theorem hi_189_74 : (am_PP sc).1 189 74 = some (10, 0, 0, 0, 0, 75, []) := am_h (by decide +kernel)
theorem hi_189_75 : (am_PP sc).1 189 75 = some (21, 11, 68, 0, 0, 78, []) := am_h (by decide +kernel)
theorem hi_189_78 : (am_PP sc).1 189 78 = some (2, 0, 0, 0, 0, 79, []) := am_h (by decide +kernel)
theorem hi_189_79 : (am_PP sc).1 189 79 = some (20, 11, 60, 0, 0, 82, []) := am_h (by decide +kernel)
theorem hi_189_82 : (am_PP sc).1 189 82 = some (2, 0, 0, 0, 0, 83, []) := am_h (by decide +kernel)
theorem hi_189_83 : (am_PP sc).1 189 83 = some (20, 11, 33, 0, 0, 86, []) := am_h (by decide +kernel)
theorem hi_189_86 : (am_PP sc).1 189 86 = some (2, 0, 0, 0, 0, 87, []) := am_h (by decide +kernel)
theorem hi_189_87 : (am_PP sc).1 189 87 = some (20, 11, 32, 0, 0, 90, []) := am_h (by decide +kernel)
theorem hi_189_90 : (am_PP sc).1 189 90 = some (25, 0, 0, 0, 0, 91, []) := am_h (by decide +kernel)
theorem hi_189_91 : (am_PP sc).1 189 91 = some (8, 0, 0, 0, 0, 92, []) := am_h (by decide +kernel)
theorem hi_189_92 : (am_PP sc).1 189 92 = some (25, 0, 0, 0, 0, 93, []) := am_h (by decide +kernel)
theorem hi_189_93 : (am_PP sc).1 189 93 = some (0, 0, 0, 0, 1, 94, []) := am_h (by decide +kernel)
theorem hi_189_94 : (am_PP sc).1 189 94 = some (10, 0, 0, 0, 0, 95, []) := am_h (by decide +kernel)
theorem hi_189_95 : (am_PP sc).1 189 95 = some (26, 0, 0, 0, 0, 96, []) := am_h (by decide +kernel)
theorem hi_189_96 : (am_PP sc).1 189 96 = some (2, 0, 0, 0, 0, 97, []) := am_h (by decide +kernel)
theorem hi_189_97 : (am_PP sc).1 189 97 = some (20, 11, 68, 0, 0, 100, []) := am_h (by decide +kernel)
theorem hi_189_100 : (am_PP sc).1 189 100 = some (0, 0, 0, 0, 1, 101, []) := am_h (by decide +kernel)
theorem hi_189_101 : (am_PP sc).1 189 101 = some (10, 1, 0, 0, 0, 102, []) := am_h (by decide +kernel)
theorem hi_189_102 : (am_PP sc).1 189 102 = some (33, 0, 0, 0, 0, 103, []) := am_h (by decide +kernel)
theorem hi_190_0 : (am_PP sc).1 190 0 = some (2, 0, 0, 0, 0, 1, []) := am_h (by decide +kernel)
theorem hi_190_1 : (am_PP sc).1 190 1 = some (20, 11, 16, 0, 0, 4, []) := am_h (by decide +kernel)
theorem hi_190_4 : (am_PP sc).1 190 4 = some (2, 0, 0, 0, 0, 5, []) := am_h (by decide +kernel)
theorem hi_190_5 : (am_PP sc).1 190 5 = some (20, 11, 15, 0, 0, 8, []) := am_h (by decide +kernel)
theorem hi_190_8 : (am_PP sc).1 190 8 = some (1, 1, 0, 0, 0, 9, []) := am_h (by decide +kernel)
theorem hi_190_9 : (am_PP sc).1 190 9 = some (26, 0, 0, 0, 0, 10, []) := am_h (by decide +kernel)
theorem hi_190_10 : (am_PP sc).1 190 10 = some (2, 0, 0, 0, 0, 11, []) := am_h (by decide +kernel)
theorem hi_190_11 : (am_PP sc).1 190 11 = some (20, 11, 17, 0, 0, 14, []) := am_h (by decide +kernel)
theorem hi_190_14 : (am_PP sc).1 190 14 = some (2, 0, 0, 0, 0, 15, []) := am_h (by decide +kernel)
theorem hi_190_15 : (am_PP sc).1 190 15 = some (20, 11, 15, 0, 0, 18, []) := am_h (by decide +kernel)
theorem hi_190_18 : (am_PP sc).1 190 18 = some (1, 2, 0, 0, 0, 19, []) := am_h (by decide +kernel)
theorem hi_190_19 : (am_PP sc).1 190 19 = some (26, 0, 0, 0, 0, 20, []) := am_h (by decide +kernel)
theorem hi_190_20 : (am_PP sc).1 190 20 = some (2, 0, 0, 0, 0, 21, []) := am_h (by decide +kernel)
theorem hi_190_21 : (am_PP sc).1 190 21 = some (20, 11, 18, 0, 0, 24, []) := am_h (by decide +kernel)
theorem hi_190_24 : (am_PP sc).1 190 24 = some (2, 0, 0, 0, 0, 25, []) := am_h (by decide +kernel)
theorem hi_190_25 : (am_PP sc).1 190 25 = some (20, 11, 15, 0, 0, 28, []) := am_h (by decide +kernel)
theorem hi_190_28 : (am_PP sc).1 190 28 = some (1, 3, 0, 0, 0, 29, []) := am_h (by decide +kernel)
theorem hi_190_29 : (am_PP sc).1 190 29 = some (26, 0, 0, 0, 0, 30, []) := am_h (by decide +kernel)
theorem hi_190_30 : (am_PP sc).1 190 30 = some (2, 0, 0, 0, 0, 31, []) := am_h (by decide +kernel)
theorem hi_190_31 : (am_PP sc).1 190 31 = some (7, 0, 0, 0, 0, 32, []) := am_h (by decide +kernel)
theorem hi_190_32 : (am_PP sc).1 190 32 = some (20, 11, 15, 0, 0, 35, []) := am_h (by decide +kernel)
theorem hi_190_35 : (am_PP sc).1 190 35 = some (0, 0, 0, 0, 1, 36, []) := am_h (by decide +kernel)
theorem hi_190_36 : (am_PP sc).1 190 36 = some (10, 0, 0, 0, 0, 37, []) := am_h (by decide +kernel)
theorem hi_190_37 : (am_PP sc).1 190 37 = some (21, 11, 15, 0, 0, 40, []) := am_h (by decide +kernel)
theorem hi_190_40 : (am_PP sc).1 190 40 = some (35, 0, 0, 0, 0, 41, []) := am_h (by decide +kernel)
theorem hi_196_0 : (am_PP sc).1 196 0 = some (2, 0, 0, 0, 0, 1, []) := am_h (by decide +kernel)
theorem hi_196_1 : (am_PP sc).1 196 1 = some (32, 197, 1, 13, 0, 4, []) := am_h (by decide +kernel)
theorem hi_196_4 : (am_PP sc).1 196 4 = some (0, 0, 0, 0, 200, 7, []) := am_h (by decide +kernel)
theorem hi_196_7 : (am_PP sc).1 196 7 = some (13, 2, 18, 0, 0, 10, []) := am_h (by decide +kernel)
theorem hi_196_10 : (am_PP sc).1 196 10 = some (2, 0, 0, 0, 0, 11, []) := am_h (by decide +kernel)
theorem hi_196_11 : (am_PP sc).1 196 11 = some (0, 0, 0, 0, 16, 13, []) := am_h (by decide +kernel)
theorem hi_196_13 : (am_PP sc).1 196 13 = some (1, 4, 0, 0, 0, 15, []) := am_h (by decide +kernel)
theorem hi_196_15 : (am_PP sc).1 196 15 = some (32, 191, 3, 13, 0, 18, []) := am_h (by decide +kernel)
theorem hi_196_18 : (am_PP sc).1 196 18 = some (2, 0, 0, 0, 0, 19, []) := am_h (by decide +kernel)
theorem hi_196_19 : (am_PP sc).1 196 19 = some (20, 11, 25, 0, 0, 22, []) := am_h (by decide +kernel)
theorem hi_196_22 : (am_PP sc).1 196 22 = some (2, 0, 0, 0, 0, 23, []) := am_h (by decide +kernel)
theorem hi_196_23 : (am_PP sc).1 196 23 = some (20, 11, 24, 0, 0, 26, []) := am_h (by decide +kernel)
theorem hi_196_26 : (am_PP sc).1 196 26 = some (1, 1, 0, 0, 0, 27, []) := am_h (by decide +kernel)
theorem hi_196_27 : (am_PP sc).1 196 27 = some (26, 0, 0, 0, 0, 28, []) := am_h (by decide +kernel)
theorem hi_196_28 : (am_PP sc).1 196 28 = some (2, 0, 0, 0, 0, 29, []) := am_h (by decide +kernel)
theorem hi_196_29 : (am_PP sc).1 196 29 = some (20, 11, 28, 0, 0, 32, []) := am_h (by decide +kernel)
theorem hi_196_32 : (am_PP sc).1 196 32 = some (2, 0, 0, 0, 0, 33, []) := am_h (by decide +kernel)
theorem hi_196_33 : (am_PP sc).1 196 33 = some (20, 11, 24, 0, 0, 36, []) := am_h (by decide +kernel)
theorem hi_196_36 : (am_PP sc).1 196 36 = some (0, 0, 0, 0, 0, 37, []) := am_h (by decide +kernel)
theorem hi_196_37 : (am_PP sc).1 196 37 = some (26, 1, 0, 0, 0, 38, []) := am_h (by decide +kernel)
theorem hi_196_38 : (am_PP sc).1 196 38 = some (2, 0, 0, 0, 0, 39, []) := am_h (by decide +kernel)
theorem hi_196_39 : (am_PP sc).1 196 39 = some (20, 11, 26, 0, 0, 42, []) := am_h (by decide +kernel)
theorem hi_196_42 : (am_PP sc).1 196 42 = some (2, 0, 0, 0, 0, 43, []) := am_h (by decide +kernel)
theorem hi_196_43 : (am_PP sc).1 196 43 = some (20, 11, 24, 0, 0, 46, []) := am_h (by decide +kernel)
theorem hi_196_46 : (am_PP sc).1 196 46 = some (2, 0, 0, 0, 0, 47, []) := am_h (by decide +kernel)
theorem hi_196_47 : (am_PP sc).1 196 47 = some (20, 11, 32, 0, 0, 50, []) := am_h (by decide +kernel)
theorem hi_196_50 : (am_PP sc).1 196 50 = some (26, 0, 0, 0, 0, 51, []) := am_h (by decide +kernel)
theorem hi_196_51 : (am_PP sc).1 196 51 = some (2, 0, 0, 0, 0, 52, []) := am_h (by decide +kernel)
theorem hi_196_52 : (am_PP sc).1 196 52 = some (20, 11, 27, 0, 0, 55, []) := am_h (by decide +kernel)
theorem hi_196_55 : (am_PP sc).1 196 55 = some (2, 0, 0, 0, 0, 56, []) := am_h (by decide +kernel)
theorem hi_196_56 : (am_PP sc).1 196 56 = some (20, 11, 24, 0, 0, 59, []) := am_h (by decide +kernel)
theorem hi_196_59 : (am_PP sc).1 196 59 = some (2, 0, 0, 0, 0, 60, []) := am_h (by decide +kernel)
theorem hi_196_60 : (am_PP sc).1 196 60 = some (20, 11, 31, 0, 0, 63, []) := am_h (by decide +kernel)
theorem hi_196_63 : (am_PP sc).1 196 63 = some (26, 0, 0, 0, 0, 64, []) := am_h (by decide +kernel)
theorem hi_196_64 : (am_PP sc).1 196 64 = some (2, 0, 0, 0, 0, 65, []) := am_h (by decide +kernel)
theorem hi_196_65 : (am_PP sc).1 196 65 = some (20, 11, 29, 0, 0, 68, []) := am_h (by decide +kernel)
theorem hi_196_68 : (am_PP sc).1 196 68 = some (2, 0, 0, 0, 0, 69, []) := am_h (by decide +kernel)
theorem hi_196_69 : (am_PP sc).1 196 69 = some (20, 11, 24, 0, 0, 72, []) := am_h (by decide +kernel)
theorem hi_196_72 : (am_PP sc).1 196 72 = some (1, 2, 0, 0, 0, 73, []) := am_h (by decide +kernel)
theorem hi_196_73 : (am_PP sc).1 196 73 = some (26, 1, 0, 0, 0, 74, []) := am_h (by decide +kernel)
theorem hi_196_74 : (am_PP sc).1 196 74 = some (2, 0, 0, 0, 0, 75, []) := am_h (by decide +kernel)
theorem hi_196_75 : (am_PP sc).1 196 75 = some (20, 11, 30, 0, 0, 78, []) := am_h (by decide +kernel)
theorem hi_196_78 : (am_PP sc).1 196 78 = some (2, 0, 0, 0, 0, 79, []) := am_h (by decide +kernel)
theorem hi_196_79 : (am_PP sc).1 196 79 = some (20, 11, 24, 0, 0, 82, []) := am_h (by decide +kernel)
theorem hi_196_82 : (am_PP sc).1 196 82 = some (1, 3, 0, 0, 0, 83, []) := am_h (by decide +kernel)
theorem hi_196_83 : (am_PP sc).1 196 83 = some (26, 1, 0, 0, 0, 84, []) := am_h (by decide +kernel)
theorem hi_196_84 : (am_PP sc).1 196 84 = some (2, 0, 0, 0, 0, 85, []) := am_h (by decide +kernel)
theorem hi_196_85 : (am_PP sc).1 196 85 = some (7, 0, 0, 0, 0, 86, []) := am_h (by decide +kernel)
theorem hi_196_86 : (am_PP sc).1 196 86 = some (20, 11, 31, 0, 0, 89, []) := am_h (by decide +kernel)
theorem hi_196_89 : (am_PP sc).1 196 89 = some (0, 0, 0, 0, 1, 90, []) := am_h (by decide +kernel)
theorem hi_196_90 : (am_PP sc).1 196 90 = some (10, 0, 0, 0, 0, 91, []) := am_h (by decide +kernel)
theorem hi_196_91 : (am_PP sc).1 196 91 = some (21, 11, 31, 0, 0, 94, []) := am_h (by decide +kernel)
theorem hi_196_94 : (am_PP sc).1 196 94 = some (2, 0, 0, 0, 0, 95, []) := am_h (by decide +kernel)
theorem hi_196_95 : (am_PP sc).1 196 95 = some (7, 0, 0, 0, 0, 96, []) := am_h (by decide +kernel)
theorem hi_196_96 : (am_PP sc).1 196 96 = some (20, 11, 24, 0, 0, 99, []) := am_h (by decide +kernel)
theorem hi_196_99 : (am_PP sc).1 196 99 = some (0, 0, 0, 0, 1, 100, []) := am_h (by decide +kernel)
theorem hi_196_100 : (am_PP sc).1 196 100 = some (10, 0, 0, 0, 0, 101, []) := am_h (by decide +kernel)
theorem hi_196_101 : (am_PP sc).1 196 101 = some (21, 11, 24, 0, 0, 104, []) := am_h (by decide +kernel)
theorem hi_196_104 : (am_PP sc).1 196 104 = some (2, 0, 0, 0, 0, 105, []) := am_h (by decide +kernel)
theorem hi_196_105 : (am_PP sc).1 196 105 = some (20, 11, 33, 0, 0, 108, []) := am_h (by decide +kernel)
theorem hi_196_108 : (am_PP sc).1 196 108 = some (2, 0, 0, 0, 0, 109, []) := am_h (by decide +kernel)
theorem hi_196_109 : (am_PP sc).1 196 109 = some (20, 11, 32, 0, 0, 112, []) := am_h (by decide +kernel)
theorem hi_196_112 : (am_PP sc).1 196 112 = some (25, 0, 0, 0, 0, 113, []) := am_h (by decide +kernel)
theorem hi_196_113 : (am_PP sc).1 196 113 = some (3, 5, 0, 0, 0, 115, []) := am_h (by decide +kernel)
theorem hi_196_115 : (am_PP sc).1 196 115 = some (2, 0, 0, 0, 0, 116, []) := am_h (by decide +kernel)
theorem hi_196_116 : (am_PP sc).1 196 116 = some (20, 11, 58, 0, 0, 119, []) := am_h (by decide +kernel)
theorem hi_196_119 : (am_PP sc).1 196 119 = some (1, 5, 0, 0, 0, 121, []) := am_h (by decide +kernel)
theorem hi_196_121 : (am_PP sc).1 196 121 = some (2, 0, 0, 0, 0, 122, []) := am_h (by decide +kernel)
theorem hi_196_122 : (am_PP sc).1 196 122 = some (32, 197, 1, 13, 0, 125, []) := am_h (by decide +kernel)
theorem hi_196_125 : (am_PP sc).1 196 125 = some (2, 0, 0, 0, 0, 126, []) := am_h (by decide +kernel)
theorem hi_196_126 : (am_PP sc).1 196 126 = some (20, 11, 58, 0, 0, 129, []) := am_h (by decide +kernel)
theorem hi_196_129 : (am_PP sc).1 196 129 = some (1, 5, 0, 0, 0, 131, []) := am_h (by decide +kernel)
theorem hi_196_131 : (am_PP sc).1 196 131 = some (25, 0, 0, 0, 0, 132, []) := am_h (by decide +kernel)
theorem hi_196_132 : (am_PP sc).1 196 132 = some (13, 5, 142, 0, 0, 135, []) := am_h (by decide +kernel)
theorem hi_196_135 : (am_PP sc).1 196 135 = some (2, 0, 0, 0, 0, 136, []) := am_h (by decide +kernel)
theorem hi_196_136 : (am_PP sc).1 196 136 = some (32, 197, 1, 13, 0, 139, []) := am_h (by decide +kernel)
theorem hi_196_139 : (am_PP sc).1 196 139 = some (18, 0, 149, 0, 0, 142, []) := am_h (by decide +kernel)
theorem hi_196_142 : (am_PP sc).1 196 142 = some (2, 0, 0, 0, 0, 143, []) := am_h (by decide +kernel)
theorem hi_196_143 : (am_PP sc).1 196 143 = some (20, 11, 58, 0, 0, 146, []) := am_h (by decide +kernel)
theorem hi_196_146 : (am_PP sc).1 196 146 = some (1, 5, 0, 0, 0, 148, []) := am_h (by decide +kernel)
theorem hi_196_148 : (am_PP sc).1 196 148 = some (25, 0, 0, 0, 0, 149, []) := am_h (by decide +kernel)
theorem hi_196_149 : (am_PP sc).1 196 149 = some (26, 0, 0, 0, 0, 150, []) := am_h (by decide +kernel)
theorem hi_196_150 : (am_PP sc).1 196 150 = some (35, 0, 0, 0, 0, 151, []) := am_h (by decide +kernel)
theorem hi_197_0 : (am_PP sc).1 197 0 = some (2, 0, 0, 0, 0, 1, []) := am_h (by decide +kernel)
theorem hi_197_1 : (am_PP sc).1 197 1 = some (20, 11, 24, 0, 0, 4, []) := am_h (by decide +kernel)
theorem hi_197_4 : (am_PP sc).1 197 4 = some (2, 0, 0, 0, 0, 5, []) := am_h (by decide +kernel)
theorem hi_197_5 : (am_PP sc).1 197 5 = some (20, 11, 34, 0, 0, 8, []) := am_h (by decide +kernel)
theorem hi_197_8 : (am_PP sc).1 197 8 = some (2, 0, 0, 0, 0, 9, []) := am_h (by decide +kernel)
theorem hi_197_9 : (am_PP sc).1 197 9 = some (20, 11, 32, 0, 0, 12, []) := am_h (by decide +kernel)
theorem hi_197_12 : (am_PP sc).1 197 12 = some (25, 0, 0, 0, 0, 13, []) := am_h (by decide +kernel)
theorem hi_197_13 : (am_PP sc).1 197 13 = some (10, 1, 0, 0, 0, 14, []) := am_h (by decide +kernel)
theorem hi_197_14 : (am_PP sc).1 197 14 = some (33, 0, 0, 0, 0, 15, []) := am_h (by decide +kernel)
theorem hi_204_0 : (am_PP sc).1 204 0 = some (2, 0, 0, 0, 0, 1, []) := am_h (by decide +kernel)
theorem hi_204_1 : (am_PP sc).1 204 1 = some (20, 11, 15, 0, 0, 4, []) := am_h (by decide +kernel)
theorem hi_204_4 : (am_PP sc).1 204 4 = some (0, 0, 0, 0, 1, 5, []) := am_h (by decide +kernel)
theorem hi_204_5 : (am_PP sc).1 204 5 = some (10, 1, 0, 0, 0, 6, []) := am_h (by decide +kernel)
theorem hi_204_6 : (am_PP sc).1 204 6 = some (3, 1, 0, 0, 0, 7, []) := am_h (by decide +kernel)
theorem hi_204_7 : (am_PP sc).1 204 7 = some (2, 0, 0, 0, 0, 8, []) := am_h (by decide +kernel)
theorem hi_204_8 : (am_PP sc).1 204 8 = some (20, 11, 18, 0, 0, 11, []) := am_h (by decide +kernel)
theorem hi_204_11 : (am_PP sc).1 204 11 = some (1, 1, 0, 0, 0, 12, []) := am_h (by decide +kernel)
theorem hi_204_12 : (am_PP sc).1 204 12 = some (25, 0, 0, 0, 0, 13, []) := am_h (by decide +kernel)
theorem hi_204_13 : (am_PP sc).1 204 13 = some (3, 2, 0, 0, 0, 14, []) := am_h (by decide +kernel)
theorem hi_204_14 : (am_PP sc).1 204 14 = some (2, 0, 0, 0, 0, 15, []) := am_h (by decide +kernel)
theorem hi_204_15 : (am_PP sc).1 204 15 = some (20, 11, 16, 0, 0, 18, []) := am_h (by decide +kernel)
theorem hi_204_18 : (am_PP sc).1 204 18 = some (1, 1, 0, 0, 0, 19, []) := am_h (by decide +kernel)
theorem hi_204_19 : (am_PP sc).1 204 19 = some (25, 0, 0, 0, 0, 20, []) := am_h (by decide +kernel)
theorem hi_204_20 : (am_PP sc).1 204 20 = some (19, 0, 103, 0, 0, 48, [(3, 48), (4, 72), (5, 85)]) := am_h (by decide +kernel)
theorem hi_204_48 : (am_PP sc).1 204 48 = some (2, 0, 0, 0, 0, 49, []) := am_h (by decide +kernel)
theorem hi_204_49 : (am_PP sc).1 204 49 = some (1, 2, 0, 0, 0, 50, []) := am_h (by decide +kernel)
theorem hi_204_50 : (am_PP sc).1 204 50 = some (32, 205, 2, 13, 0, 53, []) := am_h (by decide +kernel)
theorem hi_205_0 : (am_PP sc).1 205 0 = some (2, 0, 0, 0, 0, 1, []) := am_h (by decide +kernel)
theorem hi_205_1 : (am_PP sc).1 205 1 = some (2, 0, 0, 0, 0, 2, []) := am_h (by decide +kernel)
theorem hi_205_2 : (am_PP sc).1 205 2 = some (20, 11, 2, 0, 0, 5, []) := am_h (by decide +kernel)
theorem hi_205_5 : (am_PP sc).1 205 5 = some (1, 1, 0, 0, 0, 6, []) := am_h (by decide +kernel)
theorem hi_205_6 : (am_PP sc).1 205 6 = some (25, 0, 0, 0, 0, 7, []) := am_h (by decide +kernel)
theorem hi_210_0 : (am_PP sc).1 210 0 = some (2, 0, 0, 0, 0, 1, []) := am_h (by decide +kernel)
theorem hi_210_1 : (am_PP sc).1 210 1 = some (20, 11, 60, 0, 0, 4, []) := am_h (by decide +kernel)
theorem hi_210_4 : (am_PP sc).1 210 4 = some (2, 0, 0, 0, 0, 5, []) := am_h (by decide +kernel)
theorem hi_210_5 : (am_PP sc).1 210 5 = some (20, 11, 33, 0, 0, 8, []) := am_h (by decide +kernel)
theorem hi_210_8 : (am_PP sc).1 210 8 = some (2, 0, 0, 0, 0, 9, []) := am_h (by decide +kernel)
theorem hi_210_9 : (am_PP sc).1 210 9 = some (20, 11, 32, 0, 0, 12, []) := am_h (by decide +kernel)
theorem hi_210_12 : (am_PP sc).1 210 12 = some (25, 0, 0, 0, 0, 13, []) := am_h (by decide +kernel)
theorem hi_210_13 : (am_PP sc).1 210 13 = some (25, 0, 0, 0, 0, 14, []) := am_h (by decide +kernel)
theorem hi_210_14 : (am_PP sc).1 210 14 = some (33, 0, 0, 0, 0, 15, []) := am_h (by decide +kernel)
theorem hi_217_0 : (am_PP sc).1 217 0 = some (2, 0, 0, 0, 0, 1, []) := am_h (by decide +kernel)
theorem hi_217_1 : (am_PP sc).1 217 1 = some (20, 11, 17, 0, 0, 4, []) := am_h (by decide +kernel)
theorem hi_217_4 : (am_PP sc).1 217 4 = some (2, 0, 0, 0, 0, 5, []) := am_h (by decide +kernel)
theorem hi_217_5 : (am_PP sc).1 217 5 = some (20, 11, 15, 0, 0, 8, []) := am_h (by decide +kernel)
theorem hi_217_8 : (am_PP sc).1 217 8 = some (0, 0, 0, 0, 1, 9, []) := am_h (by decide +kernel)
theorem hi_217_9 : (am_PP sc).1 217 9 = some (10, 1, 0, 0, 0, 10, []) := am_h (by decide +kernel)
theorem hi_217_10 : (am_PP sc).1 217 10 = some (25, 0, 0, 0, 0, 11, []) := am_h (by decide +kernel)
theorem hi_217_11 : (am_PP sc).1 217 11 = some (3, 1, 0, 0, 0, 12, []) := am_h (by decide +kernel)
theorem hi_217_12 : (am_PP sc).1 217 12 = some (2, 0, 0, 0, 0, 13, []) := am_h (by decide +kernel)
theorem hi_217_13 : (am_PP sc).1 217 13 = some (20, 11, 72, 0, 0, 16, []) := am_h (by decide +kernel)
theorem hi_217_16 : (am_PP sc).1 217 16 = some (1, 1, 0, 0, 0, 17, []) := am_h (by decide +kernel)
theorem hi_217_17 : (am_PP sc).1 217 17 = some (2, 0, 0, 0, 0, 18, []) := am_h (by decide +kernel)
theorem hi_217_18 : (am_PP sc).1 217 18 = some (20, 11, 16, 0, 0, 21, []) := am_h (by decide +kernel)
theorem hi_217_21 : (am_PP sc).1 217 21 = some (2, 0, 0, 0, 0, 22, []) := am_h (by decide +kernel)
theorem hi_217_22 : (am_PP sc).1 217 22 = some (20, 11, 15, 0, 0, 25, []) := am_h (by decide +kernel)
theorem hi_217_25 : (am_PP sc).1 217 25 = some (0, 0, 0, 0, 1, 26, []) := am_h (by decide +kernel)
theorem hi_217_26 : (am_PP sc).1 217 26 = some (10, 1, 0, 0, 0, 27, []) := am_h (by decide +kernel)
theorem hi_217_27 : (am_PP sc).1 217 27 = some (25, 0, 0, 0, 0, 28, []) := am_h (by decide +kernel)
theorem hi_217_28 : (am_PP sc).1 217 28 = some (0, 0, 0, 0, 1, 29, []) := am_h (by decide +kernel)
theorem hi_217_29 : (am_PP sc).1 217 29 = some (13, 1, 45, 0, 0, 32, []) := am_h (by decide +kernel)
theorem hi_217_45 : (am_PP sc).1 217 45 = some (0, 0, 0, 0, 0, 46, []) := am_h (by decide +kernel)
theorem hi_217_46 : (am_PP sc).1 217 46 = some (26, 0, 0, 0, 0, 47, []) := am_h (by decide +kernel)
theorem hi_239_0 : (am_PP sc).1 239 0 = some (2, 0, 0, 0, 0, 1, []) := am_h (by decide +kernel)
theorem hi_239_1 : (am_PP sc).1 239 1 = some (20, 11, 21, 0, 0, 4, []) := am_h (by decide +kernel)
theorem hi_239_4 : (am_PP sc).1 239 4 = some (2, 0, 0, 0, 0, 5, []) := am_h (by decide +kernel)
theorem hi_239_5 : (am_PP sc).1 239 5 = some (20, 11, 20, 0, 0, 8, []) := am_h (by decide +kernel)
theorem hi_239_8 : (am_PP sc).1 239 8 = some (1, 1, 0, 0, 0, 9, []) := am_h (by decide +kernel)
theorem hi_239_9 : (am_PP sc).1 239 9 = some (26, 0, 0, 0, 0, 10, []) := am_h (by decide +kernel)
theorem hi_239_10 : (am_PP sc).1 239 10 = some (2, 0, 0, 0, 0, 11, []) := am_h (by decide +kernel)
theorem hi_239_11 : (am_PP sc).1 239 11 = some (20, 11, 22, 0, 0, 14, []) := am_h (by decide +kernel)
theorem hi_239_14 : (am_PP sc).1 239 14 = some (2, 0, 0, 0, 0, 15, []) := am_h (by decide +kernel)
theorem hi_239_15 : (am_PP sc).1 239 15 = some (20, 11, 20, 0, 0, 18, []) := am_h (by decide +kernel)
theorem hi_239_18 : (am_PP sc).1 239 18 = some (1, 2, 0, 0, 0, 19, []) := am_h (by decide +kernel)
theorem hi_239_19 : (am_PP sc).1 239 19 = some (26, 0, 0, 0, 0, 20, []) := am_h (by decide +kernel)
theorem hi_239_20 : (am_PP sc).1 239 20 = some (2, 0, 0, 0, 0, 21, []) := am_h (by decide +kernel)
theorem hi_239_21 : (am_PP sc).1 239 21 = some (20, 11, 23, 0, 0, 24, []) := am_h (by decide +kernel)
theorem hi_239_24 : (am_PP sc).1 239 24 = some (2, 0, 0, 0, 0, 25, []) := am_h (by decide +kernel)
theorem hi_239_25 : (am_PP sc).1 239 25 = some (20, 11, 20, 0, 0, 28, []) := am_h (by decide +kernel)
theorem hi_239_28 : (am_PP sc).1 239 28 = some (1, 3, 0, 0, 0, 29, []) := am_h (by decide +kernel)
theorem hi_239_29 : (am_PP sc).1 239 29 = some (26, 0, 0, 0, 0, 30, []) := am_h (by decide +kernel)
theorem hi_239_30 : (am_PP sc).1 239 30 = some (2, 0, 0, 0, 0, 31, []) := am_h (by decide +kernel)
theorem hi_239_31 : (am_PP sc).1 239 31 = some (7, 0, 0, 0, 0, 32, []) := am_h (by decide +kernel)
theorem hi_239_32 : (am_PP sc).1 239 32 = some (20, 11, 20, 0, 0, 35, []) := am_h (by decide +kernel)
theorem hi_239_35 : (am_PP sc).1 239 35 = some (0, 0, 0, 0, 1, 36, []) := am_h (by decide +kernel)
theorem hi_239_36 : (am_PP sc).1 239 36 = some (10, 0, 0, 0, 0, 37, []) := am_h (by decide +kernel)
theorem hi_239_37 : (am_PP sc).1 239 37 = some (21, 11, 20, 0, 0, 40, []) := am_h (by decide +kernel)
theorem hi_239_40 : (am_PP sc).1 239 40 = some (35, 0, 0, 0, 0, 41, []) := am_h (by decide +kernel)
end AMH
theorem ct_here {sc : Nat × (Nat → Int32)} {d : Nat} {S0 S : am_S} {f : Nat → Int32} {g : Nat → Nat → Int32} {gs : List mg_E} {bc : List (List Nat)} {fl : List Nat} {fk : Int} {pj : List Nat} (hS : MS S0 S f g) (hR : RJ f g gs bc fl fk pj) (p0 : 0 ≤ (f 32).toInt) (p1 : (f 32).toInt ≤ 63) (p2 : (f 53).toInt ≤ 4096) (p3 : 0 ≤ (f 68).toInt) (p4 : (f 68).toInt ≤ 65534) : am_E (am_PP sc) (d + 0) 210 0 [some (.ref 39)] [] S (am_N fun v S1 => (∃ r : Int32, v = some (.int r) ∧ MS S0 S1 f g ∧ (0 ≤ r.toInt) ∧ (r.toInt ≤ (f 68).toInt))) := by
  refine am_e2 (v := 39) hi_210_0 rfl ?_
  refine mm_20 (v := .ref 81) hS hi_210_1 rfl ?_
  refine am_e2 (v := 39) hi_210_4 rfl ?_
  refine mm_20 (v := .ref 58) hS hi_210_5 rfl ?_
  refine am_e2 (v := 39) hi_210_8 rfl ?_
  refine mm_20 (v := .int (f 32)) hS hi_210_9 rfl ?_
  refine mm_25 hS ma_33 hi_210_12 (by decide) (by omega) (by omega) ?_
  show am_E _ _ _ _ [some (.ref 39)] [.int (g 33 (f 32).toNatClampNeg), .ref 81] _ _
  have r0 : 0 ≤ (g 33 (f 32).toNatClampNeg).toInt ∧ (g 33 (f 32).toNatClampNeg).toInt < (f 53).toInt := RJ.fn hR (by omega) (by show (f 32).toInt ≤ (f 32).toInt; omega)
  refine mm_25 hS ma_60 hi_210_13 (by decide) (by omega) (by omega) ?_
  show am_E _ _ _ _ [some (.ref 39)] [.int (g 60 (g 33 (f 32).toNatClampNeg).toNatClampNeg)] _ _
  have r1 : 0 ≤ (g 60 (g 33 (f 32).toNatClampNeg).toNatClampNeg).toInt ∧ (g 60 (g 33 (f 32).toNatClampNeg).toNatClampNeg).toInt ≤ (f 68).toInt := RJ.codes hR (by omega) (by omega) (by omega)
  refine am_e33 hi_210_14 ?_
  exact ⟨g 60 (g 33 (f 32).toNatClampNeg).toNatClampNeg, rfl, hS, (by show 0 ≤ (g 60 (g 33 (f 32).toNatClampNeg).toNatClampNeg).toInt; omega), (by show (g 60 (g 33 (f 32).toNatClampNeg).toNatClampNeg).toInt ≤ (f 68).toInt; omega)⟩
theorem ct_put {sc : Nat × (Nat → Int32)} {d : Nat} {S0 S : am_S} {f : Nat → Int32} {g : Nat → Nat → Int32} {op : Int32} {a : Int32} {b : Int32} {w : Int32} {gs : List mg_E} {bc : List (List Nat)} {fl : List Nat} {fk : Int} {pj : List Nat} (hS : MS S0 S f g) (hR : RJ f g gs bc fl fk pj) (p0 : 0 ≤ (f 32).toInt) (p1 : (f 32).toInt ≤ 63) (p2 : (f 53).toInt ≤ 4096) (p3 : 0 ≤ (f 68).toInt) (p4 : (f 68).toInt ≤ 65534) : am_E (am_PP sc) (d + 0) 189 0 [some (.ref 39), some (.int op), some (.int a), some (.int b), some (.int w)] [] S (am_N fun v S1 => (∃ z : Int32, ∃ r : Int32, ∃ g' : Nat → Nat → Int32, v = some (.int r) ∧ MS S0 S1 (upd f 68 z) g' ∧ (RJ (upd f 68 z) g' gs bc fl fk ((f 68).toNatClampNeg :: pj)) ∧ (z.toInt = (f 68).toInt + 1) ∧ (r.toInt = (f 68).toInt) ∧ (∀ j, j ∉ [60, 69, 70, 71, 72, 73] → g' j = g j))) := by
  refine am_e2 (v := 39) hi_189_0 rfl ?_
  refine mm_20 (v := .int (f 68)) hS hi_189_1 rfl ?_
  refine am_e0 hi_189_4 ?_
  refine am_e13f hi_189_6 (am_cF (m := (f 68).toInt) (n := 65536) rfl (by decide) (by simp only [am_cI]; omega)) ?_
  refine am_e2 (v := 39) hi_189_9 rfl ?_
  refine mm_20 (v := .ref 88) hS hi_189_10 rfl ?_
  refine am_e2 (v := 39) hi_189_13 rfl ?_
  refine mm_20 (v := .int (f 68)) hS hi_189_14 rfl ?_
  refine am_e2 (v := 39) hi_189_17 rfl ?_
  refine mm_20 (v := .ref 58) hS hi_189_18 rfl ?_
  refine am_e2 (v := 39) hi_189_21 rfl ?_
  refine mm_20 (v := .int (f 32)) hS hi_189_22 rfl ?_
  refine mm_25 hS ma_33 hi_189_25 (by decide) (by omega) (by omega) ?_
  show am_E _ _ _ _ [some (.ref 39), some (.int op), some (.int a), some (.int b), some (.int w)] [.int (g 33 (f 32).toNatClampNeg), .int (f 68), .ref 88] _ _
  have r0 : 0 ≤ (g 33 (f 32).toNatClampNeg).toInt ∧ (g 33 (f 32).toNatClampNeg).toInt < (f 53).toInt := RJ.fn hR (by omega) (by show (f 32).toInt ≤ (f 32).toInt; omega)
  refine mm_26 hS ma_69 hi_189_26 (by decide) (by omega) (by omega) (fun h => nomatch h) ?_
  intro S1 hS2
  refine am_e2 (v := 39) hi_189_27 rfl ?_
  refine mm_20 (v := .ref 89) hS2 hi_189_28 rfl ?_
  refine am_e2 (v := 39) hi_189_31 rfl ?_
  refine mm_20 (v := .int (f 68)) hS2 hi_189_32 rfl ?_
  refine am_e1 (v := op) hi_189_35 rfl ?_
  refine mm_26 hS2 ma_70 hi_189_36 (by decide) (by omega) (by omega) (fun h => nomatch h) ?_
  intro S3 hS4
  refine am_e2 (v := 39) hi_189_37 rfl ?_
  refine mm_20 (v := .ref 90) hS4 hi_189_38 rfl ?_
  refine am_e2 (v := 39) hi_189_41 rfl ?_
  refine mm_20 (v := .int (f 68)) hS4 hi_189_42 rfl ?_
  refine am_e1 (v := a) hi_189_45 rfl ?_
  refine mm_26 hS4 ma_71 hi_189_46 (by decide) (by omega) (by omega) (fun h => nomatch h) ?_
  intro S5 hS6
  refine am_e2 (v := 39) hi_189_47 rfl ?_
  refine mm_20 (v := .ref 91) hS6 hi_189_48 rfl ?_
  refine am_e2 (v := 39) hi_189_51 rfl ?_
  refine mm_20 (v := .int (f 68)) hS6 hi_189_52 rfl ?_
  refine am_e1 (v := b) hi_189_55 rfl ?_
  refine mm_26 hS6 ma_72 hi_189_56 (by decide) (by omega) (by omega) (fun h => nomatch h) ?_
  intro S7 hS8
  refine am_e2 (v := 39) hi_189_57 rfl ?_
  refine mm_20 (v := .ref 92) hS8 hi_189_58 rfl ?_
  refine am_e2 (v := 39) hi_189_61 rfl ?_
  refine mm_20 (v := .int (f 68)) hS8 hi_189_62 rfl ?_
  refine am_e1 (v := w) hi_189_65 rfl ?_
  refine mm_26 hS8 ma_73 hi_189_67 (by decide) (by omega) (by omega) (fun h => nomatch h) ?_
  intro S9 hS10
  refine am_e2 (v := 39) hi_189_68 rfl ?_
  refine am_e7 hi_189_69 ?_
  refine mm_20 (v := .int (f 68)) hS10 hi_189_70 rfl ?_
  refine am_e0 hi_189_73 ?_
  obtain ⟨z11, hz11, tz11⟩ := am_addI (x := f 68) (y := 1) (m := (f 68).toInt) (n := 1) rfl (by decide) (by omega) (by omega)
  refine am_e10 (z := z11) hi_189_74 hz11 ?_
  refine mm_21 (v := z11) hS10 hi_189_75 rfl (Nat.le_of_ble_eq_true rfl) ms_68 ?_
  intro S12 hS13
  refine am_e2 (v := 39) hi_189_78 rfl ?_
  refine mm_20 (v := .ref 81) hS13 hi_189_79 rfl ?_
  refine am_e2 (v := 39) hi_189_82 rfl ?_
  refine mm_20 (v := .ref 58) hS13 hi_189_83 rfl ?_
  refine am_e2 (v := 39) hi_189_86 rfl ?_
  refine mm_20 (v := .int (f 32)) hS13 hi_189_87 rfl ?_
  refine mm_25 hS13 ma_33 hi_189_90 (by decide) (by omega) (by omega) ?_
  show am_E _ _ _ _ [some (.ref 39), some (.int op), some (.int a), some (.int b), some (.int w)] [.int (g 33 (f 32).toNatClampNeg), .ref 81] _ _
  have r14 : 0 ≤ (g 33 (f 32).toNatClampNeg).toInt ∧ (g 33 (f 32).toNatClampNeg).toInt < (f 53).toInt := RJ.fn hR (by omega) (by show (f 32).toInt ≤ (f 32).toInt; omega)
  refine am_e8 hi_189_91 ?_
  refine mm_25 hS13 ma_60 hi_189_92 (by decide) (by omega) (by omega) ?_
  show am_E _ _ _ _ [some (.ref 39), some (.int op), some (.int a), some (.int b), some (.int w)] [.int (g 60 (g 33 (f 32).toNatClampNeg).toNatClampNeg), .int (g 33 (f 32).toNatClampNeg), .ref 81] _ _
  have r15 : 0 ≤ (g 60 (g 33 (f 32).toNatClampNeg).toNatClampNeg).toInt ∧ (g 60 (g 33 (f 32).toNatClampNeg).toNatClampNeg).toInt ≤ (f 68).toInt := RJ.codes hR (by omega) (by omega) (by omega)
  refine am_e0 hi_189_93 ?_
  obtain ⟨z16, hz16, tz16⟩ := am_addI (x := g 60 (g 33 (f 32).toNatClampNeg).toNatClampNeg) (y := 1) (m := (g 60 (g 33 (f 32).toNatClampNeg).toNatClampNeg).toInt) (n := 1) rfl (by decide) (by omega) (by omega)
  refine am_e10 (z := z16) hi_189_94 hz16 ?_
  refine mm_26 hS13 ma_60 hi_189_95 (by decide) (by omega) (by omega) (fun h => nomatch h) ?_
  intro S17 hS18
  refine am_e2 (v := 39) hi_189_96 rfl ?_
  refine mm_20 (v := .int z11) hS18 hi_189_97 rfl ?_
  refine am_e0 hi_189_100 ?_
  obtain ⟨z19, hz19, tz19⟩ := am_subI (x := z11) (y := 1) (m := z11.toInt) (n := 1) rfl (by decide) (by omega) (by omega)
  refine am_e10 (z := z19) hi_189_101 hz19 ?_
  refine am_e33 hi_189_102 ?_
  exact ⟨z11, z19, _, rfl, hS18, (rj_put hR (by omega) (by omega) ⟨by omega, by omega⟩ (by omega)), (by show z11.toInt = (f 68).toInt + 1; omega), (by show z19.toInt = (f 68).toInt; omega), (by intro j hj; simp only [List.mem_cons, List.not_mem_nil, or_false, not_or] at hj; simp only [upg, hj, if_false])⟩
theorem ct_value {sc : Nat × (Nat → Int32)} {d : Nat} {S0 S : am_S} {f : Nat → Int32} {g : Nat → Nat → Int32} {kd : Int32} {cd : Int32} {wd : Int32} {gs : List mg_E} {bc : List (List Nat)} {fl : List Nat} {fk : Int} {pj : List Nat} (hS : MS S0 S f g) (hR : RJ f g gs bc fl fk pj) (hk3 : kd.toInt = 3 → 0 ≤ wd.toInt ∧ wd.toInt < 16384) (hk1 : kd.toInt = 1 ∨ kd.toInt = 2 → 0 ≤ cd.toInt ∧ cd.toInt < 65536) (p0 : 0 ≤ (f 15).toInt) (p1 : (f 15).toInt ≤ 32767) : am_E (am_PP sc) (d + 0) 190 0 [some (.ref 39), some (.int kd), some (.int cd), some (.int wd)] [] S (am_N fun v S1 => (∃ z : Int32, ∃ g' : Nat → Nat → Int32, v = none ∧ MS S0 S1 (upd f 15 z) g' ∧ (RJ (upd f 15 z) g' gs bc fl fk pj) ∧ (z.toInt = (f 15).toInt + 1) ∧ (∀ j, j ∉ [16, 17, 18] → g' j = g j))) := by
  refine am_e2 (v := 39) hi_190_0 rfl ?_
  refine mm_20 (v := .ref 46) hS hi_190_1 rfl ?_
  refine am_e2 (v := 39) hi_190_4 rfl ?_
  refine mm_20 (v := .int (f 15)) hS hi_190_5 rfl ?_
  refine am_e1 (v := kd) hi_190_8 rfl ?_
  refine mm_26 hS ma_16 hi_190_9 (by decide) (by omega) (by omega) (fun h => nomatch h) ?_
  intro S0 hS1
  refine am_e2 (v := 39) hi_190_10 rfl ?_
  refine mm_20 (v := .ref 47) hS1 hi_190_11 rfl ?_
  refine am_e2 (v := 39) hi_190_14 rfl ?_
  refine mm_20 (v := .int (f 15)) hS1 hi_190_15 rfl ?_
  refine am_e1 (v := cd) hi_190_18 rfl ?_
  refine mm_26 hS1 ma_17 hi_190_19 (by decide) (by omega) (by omega) (fun h => nomatch h) ?_
  intro S2 hS3
  refine am_e2 (v := 39) hi_190_20 rfl ?_
  refine mm_20 (v := .ref 48) hS3 hi_190_21 rfl ?_
  refine am_e2 (v := 39) hi_190_24 rfl ?_
  refine mm_20 (v := .int (f 15)) hS3 hi_190_25 rfl ?_
  refine am_e1 (v := wd) hi_190_28 rfl ?_
  refine mm_26 hS3 ma_18 hi_190_29 (by decide) (by omega) (by omega) (fun h => nomatch h) ?_
  intro S4 hS5
  refine am_e2 (v := 39) hi_190_30 rfl ?_
  refine am_e7 hi_190_31 ?_
  refine mm_20 (v := .int (f 15)) hS5 hi_190_32 rfl ?_
  refine am_e0 hi_190_35 ?_
  obtain ⟨z6, hz6, tz6⟩ := am_addI (x := f 15) (y := 1) (m := (f 15).toInt) (n := 1) rfl (by decide) (by omega) (by omega)
  refine am_e10 (z := z6) hi_190_36 hz6 ?_
  refine mm_21 (v := z6) hS5 hi_190_37 rfl (Nat.le_of_ble_eq_true rfl) ms_15 ?_
  intro S7 hS8
  refine am_e35 hi_190_40 ?_
  exact ⟨z6, _, rfl, hS8, (rj_value hR hk3 hk1), (by show z6.toInt = (f 15).toInt + 1; omega), (by intro j hj; simp only [List.mem_cons, List.not_mem_nil, or_false, not_or] at hj; simp only [upg, hj, if_false])⟩
theorem ct_count {sc : Nat × (Nat → Int32)} {d : Nat} {S0 S : am_S} {f : Nat → Int32} {g : Nat → Nat → Int32} (hS : MS S0 S f g) (p0 : 0 ≤ (f 32).toInt) (p1 : (f 32).toInt ≤ 63) : am_E (am_PP sc) (d + 0) 197 0 [some (.ref 39)] [] S (am_N fun v S1 => (∃ r : Int32, v = some (.int r) ∧ MS S0 S1 f g)) := by
  refine am_e2 (v := 39) hi_197_0 rfl ?_
  refine mm_20 (v := .int (f 24)) hS hi_197_1 rfl ?_
  refine am_e2 (v := 39) hi_197_4 rfl ?_
  refine mm_20 (v := .ref 59) hS hi_197_5 rfl ?_
  refine am_e2 (v := 39) hi_197_8 rfl ?_
  refine mm_20 (v := .int (f 32)) hS hi_197_9 rfl ?_
  refine mm_25 hS ma_34 hi_197_12 (by decide) (by omega) (by omega) ?_
  show am_E _ _ _ _ [some (.ref 39)] [.int (g 34 (f 32).toNatClampNeg), .int (f 24)] _ _
  obtain ⟨z0, hz0⟩ : ∃ z, am_bin 1 (f 24) (g 34 (f 32).toNatClampNeg) = z := ⟨_, rfl⟩
  refine am_e10 (z := z0) hi_197_13 hz0 ?_
  refine am_e33 hi_197_14 ?_
  exact ⟨z0, rfl, hS⟩
theorem ct_keep {sc : Nat × (Nat → Int32)} {d : Nat} {S0 S : am_S} {f : Nat → Int32} {g : Nat → Nat → Int32} {k : Int32} {n : Int32} {w : Int32} {gs : List mg_E} {bc : List (List Nat)} {fl : List Nat} {fk : Int} {pj : List Nat} (hS : MS S0 S f g) (hR : RJ f g gs bc fl fk pj) (p0 : 0 ≤ (f 20).toInt) (p1 : (f 20).toInt ≤ 16383) : am_E (am_PP sc) (d + 0) 239 0 [some (.ref 39), some (.int k), some (.int n), some (.int w)] [] S (am_N fun v S1 => (∃ z : Int32, ∃ g' : Nat → Nat → Int32, v = none ∧ MS S0 S1 (upd f 20 z) g' ∧ (RJ (upd f 20 z) g' gs bc fl fk pj) ∧ (z.toInt = (f 20).toInt + 1) ∧ (∀ j, j ∉ [21, 22, 23] → g' j = g j))) := by
  refine am_e2 (v := 39) hi_239_0 rfl ?_
  refine mm_20 (v := .ref 49) hS hi_239_1 rfl ?_
  refine am_e2 (v := 39) hi_239_4 rfl ?_
  refine mm_20 (v := .int (f 20)) hS hi_239_5 rfl ?_
  refine am_e1 (v := k) hi_239_8 rfl ?_
  refine mm_26 hS ma_21 hi_239_9 (by decide) (by omega) (by omega) (fun h => nomatch h) ?_
  intro S0 hS1
  refine am_e2 (v := 39) hi_239_10 rfl ?_
  refine mm_20 (v := .ref 50) hS1 hi_239_11 rfl ?_
  refine am_e2 (v := 39) hi_239_14 rfl ?_
  refine mm_20 (v := .int (f 20)) hS1 hi_239_15 rfl ?_
  refine am_e1 (v := n) hi_239_18 rfl ?_
  refine mm_26 hS1 ma_22 hi_239_19 (by decide) (by omega) (by omega) (fun h => nomatch h) ?_
  intro S2 hS3
  refine am_e2 (v := 39) hi_239_20 rfl ?_
  refine mm_20 (v := .ref 51) hS3 hi_239_21 rfl ?_
  refine am_e2 (v := 39) hi_239_24 rfl ?_
  refine mm_20 (v := .int (f 20)) hS3 hi_239_25 rfl ?_
  refine am_e1 (v := w) hi_239_28 rfl ?_
  refine mm_26 hS3 ma_23 hi_239_29 (by decide) (by omega) (by omega) (fun h => nomatch h) ?_
  intro S4 hS5
  refine am_e2 (v := 39) hi_239_30 rfl ?_
  refine am_e7 hi_239_31 ?_
  refine mm_20 (v := .int (f 20)) hS5 hi_239_32 rfl ?_
  refine am_e0 hi_239_35 ?_
  obtain ⟨z6, hz6, tz6⟩ := am_addI (x := f 20) (y := 1) (m := (f 20).toInt) (n := 1) rfl (by decide) (by omega) (by omega)
  refine am_e10 (z := z6) hi_239_36 hz6 ?_
  refine mm_21 (v := z6) hS5 hi_239_37 rfl (Nat.le_of_ble_eq_true rfl) ms_20 ?_
  intro S7 hS8
  refine am_e35 hi_239_40 ?_
  exact ⟨z6, _, rfl, hS8, hR, (by show z6.toInt = (f 20).toInt + 1; omega), (by intro j hj; simp only [List.mem_cons, List.not_mem_nil, or_false, not_or] at hj; simp only [upg, hj, if_false])⟩
