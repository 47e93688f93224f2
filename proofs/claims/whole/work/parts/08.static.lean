def jN : Nat := 130
def jSHl : List (Nat × Nat) := [(7, 8), (2, 17), (100, 8), (100, 8), (100, 4), (100, 4), (100, 16), (100, 24), (100, 8), (101, 100), (101, 100), (2, 17), (100, 8), (100, 8), (100, 4), (100, 4), (100, 16), (100, 24), (100, 8), (101, 100), (101, 100), (3, 19), (100, 8), (100, 8), (100, 5), (100, 6), (100, 6), (5, 11), (100, 4), (100, 256), (100, 256), (100, 85), (102, 85), (6, 8), (6, 8), (4, 7), (103, 64), (100, 8), (100, 6), (100, 6), (6, 8), (6, 8), (6, 8), (6, 8), (6, 8), (6, 8), (6, 8), (6, 8), (6, 8), (6, 8), (6, 8), (6, 8), (6, 8), (6, 8), (6, 8), (6, 8), (6, 8), (6, 8), (6, 8), (6, 8), (6, 8), (6, 8), (6, 8), (6, 8), (6, 8), (6, 8), (6, 8), (6, 8), (6, 8), (6, 8), (6, 8), (6, 8), (6, 8), (6, 8), (6, 8), (6, 8), (6, 8), (6, 8), (6, 8), (6, 8), (6, 8), (6, 8), (6, 8), (6, 8), (6, 8), (6, 8), (6, 8), (6, 8), (6, 8), (6, 8), (6, 8), (6, 8), (6, 8), (6, 8), (6, 8), (6, 8), (6, 8), (6, 8), (6, 8), (6, 8), (6, 8), (6, 8), (6, 8), (6, 8), (0, 3), (103, 8), (100, 8), (6, 8), (6, 8), (6, 8), (6, 8), (6, 8), (6, 8), (6, 8), (6, 8), (1, 5), (100, 20), (8, 31), (100, 916), (100, 916), (100, 4), (102, 64), (100, 256), (100, 256), (100, 100), (102, 100), (100, 6), (100, 6), (100, 2), (100, 20)]
def jSH (k : Nat) : Nat × Nat := jSHl.getD k (0, 0)
def jMRl : List (List (Nat × Nat)) := [[(0, 1), (1, 11), (3, 21), (4, 27), (5, 35), (6, 104), (7, 115)], [(2, 2), (3, 3), (5, 4), (6, 5), (7, 6), (9, 7), (11, 8), (13, 9), (16, 10)], [], [], [], [], [], [], [], [], [], [(2, 12), (3, 13), (5, 14), (6, 15), (7, 16), (9, 17), (11, 18), (13, 19), (16, 20)], [], [], [], [], [], [], [], [], [], [(0, 22), (1, 23), (16, 24), (17, 25), (18, 26)], [], [], [], [], [], [(3, 28), (4, 29), (5, 30), (7, 31), (8, 32), (9, 33), (10, 34)], [], [], [], [], [], [], [], [(0, 27), (1, 36), (2, 37), (3, 38), (4, 39)], [(0, 40), (1, 41), (2, 42), (3, 43), (4, 44), (5, 45), (6, 46), (7, 47), (8, 48), (9, 49), (10, 50), (11, 51), (12, 52), (13, 53), (14, 54), (15, 55), (16, 56), (17, 57), (18, 58), (19, 59), (20, 60), (21, 61), (22, 62), (23, 63), (24, 64), (25, 65), (26, 66), (27, 67), (28, 68), (29, 69), (30, 70), (31, 71), (32, 72), (33, 73), (34, 74), (35, 75), (36, 76), (37, 77), (38, 78), (39, 79), (40, 80), (41, 81), (42, 82), (43, 83), (44, 84), (45, 85), (46, 86), (47, 87), (48, 88), (49, 89), (50, 90), (51, 91), (52, 92), (53, 93), (54, 94), (55, 95), (56, 96), (57, 97), (58, 98), (59, 99), (60, 100), (61, 101), (62, 102), (63, 103)], [], [], [], [], [], [], [], [], [], [], [], [], [], [], [], [], [], [], [], [], [], [], [], [], [], [], [], [], [], [], [], [], [], [], [], [], [], [], [], [], [], [], [], [], [], [], [], [], [], [], [], [], [], [], [], [], [], [], [], [], [], [], [], [], [], [], [], [(0, 27), (1, 105), (2, 106)], [(0, 107), (1, 108), (2, 109), (3, 110), (4, 111), (5, 112), (6, 113), (7, 114)], [], [], [], [], [], [], [], [], [], [(0, 116)], [], [(1, 118), (2, 119), (9, 120), (10, 121), (13, 122), (14, 123), (16, 124), (17, 125), (21, 126), (22, 127), (24, 128), (26, 129)], [], [], [], [], [], [], [], [], [], [], [], []]
def jMR (k j : Nat) : Option Nat := (jMRl.getD k []).lookup j
theorem jsh_0 : jSH 0 = (7, 8) := by decide +kernel
theorem jlt_0 : 0 < jN := by decide +kernel
theorem jmr_0_0 : jMR 0 0 = some 1 := by decide +kernel
theorem jmr_0_1 : jMR 0 1 = some 11 := by decide +kernel
theorem jmr_0_3 : jMR 0 3 = some 21 := by decide +kernel
theorem jmr_0_4 : jMR 0 4 = some 27 := by decide +kernel
theorem jmr_0_5 : jMR 0 5 = some 35 := by decide +kernel
theorem jmr_0_6 : jMR 0 6 = some 104 := by decide +kernel
theorem jmr_0_7 : jMR 0 7 = some 115 := by decide +kernel
theorem jsh_1 : jSH 1 = (2, 17) := by decide +kernel
theorem jlt_1 : 1 < jN := by decide +kernel
theorem jmr_1_2 : jMR 1 2 = some 2 := by decide +kernel
theorem jmr_1_3 : jMR 1 3 = some 3 := by decide +kernel
theorem jmr_1_5 : jMR 1 5 = some 4 := by decide +kernel
theorem jmr_1_6 : jMR 1 6 = some 5 := by decide +kernel
theorem jmr_1_7 : jMR 1 7 = some 6 := by decide +kernel
theorem jmr_1_9 : jMR 1 9 = some 7 := by decide +kernel
theorem jmr_1_11 : jMR 1 11 = some 8 := by decide +kernel
theorem jmr_1_13 : jMR 1 13 = some 9 := by decide +kernel
theorem jmr_1_16 : jMR 1 16 = some 10 := by decide +kernel
theorem jsh_2 : jSH 2 = (100, 8) := by decide +kernel
theorem jlt_2 : 2 < jN := by decide +kernel
theorem jsh_3 : jSH 3 = (100, 8) := by decide +kernel
theorem jlt_3 : 3 < jN := by decide +kernel
theorem jsh_4 : jSH 4 = (100, 4) := by decide +kernel
theorem jlt_4 : 4 < jN := by decide +kernel
theorem jsh_5 : jSH 5 = (100, 4) := by decide +kernel
theorem jlt_5 : 5 < jN := by decide +kernel
theorem jsh_6 : jSH 6 = (100, 16) := by decide +kernel
theorem jlt_6 : 6 < jN := by decide +kernel
theorem jsh_7 : jSH 7 = (100, 24) := by decide +kernel
theorem jlt_7 : 7 < jN := by decide +kernel
theorem jsh_8 : jSH 8 = (100, 8) := by decide +kernel
theorem jlt_8 : 8 < jN := by decide +kernel
theorem jsh_9 : jSH 9 = (101, 100) := by decide +kernel
theorem jlt_9 : 9 < jN := by decide +kernel
theorem jsh_10 : jSH 10 = (101, 100) := by decide +kernel
theorem jlt_10 : 10 < jN := by decide +kernel
theorem jsh_11 : jSH 11 = (2, 17) := by decide +kernel
theorem jlt_11 : 11 < jN := by decide +kernel
theorem jmr_11_2 : jMR 11 2 = some 12 := by decide +kernel
theorem jmr_11_3 : jMR 11 3 = some 13 := by decide +kernel
theorem jmr_11_5 : jMR 11 5 = some 14 := by decide +kernel
theorem jmr_11_6 : jMR 11 6 = some 15 := by decide +kernel
theorem jmr_11_7 : jMR 11 7 = some 16 := by decide +kernel
theorem jmr_11_9 : jMR 11 9 = some 17 := by decide +kernel
theorem jmr_11_11 : jMR 11 11 = some 18 := by decide +kernel
theorem jmr_11_13 : jMR 11 13 = some 19 := by decide +kernel
theorem jmr_11_16 : jMR 11 16 = some 20 := by decide +kernel
theorem jsh_12 : jSH 12 = (100, 8) := by decide +kernel
theorem jlt_12 : 12 < jN := by decide +kernel
theorem jsh_13 : jSH 13 = (100, 8) := by decide +kernel
theorem jlt_13 : 13 < jN := by decide +kernel
theorem jsh_14 : jSH 14 = (100, 4) := by decide +kernel
theorem jlt_14 : 14 < jN := by decide +kernel
theorem jsh_15 : jSH 15 = (100, 4) := by decide +kernel
theorem jlt_15 : 15 < jN := by decide +kernel
theorem jsh_16 : jSH 16 = (100, 16) := by decide +kernel
theorem jlt_16 : 16 < jN := by decide +kernel
theorem jsh_17 : jSH 17 = (100, 24) := by decide +kernel
theorem jlt_17 : 17 < jN := by decide +kernel
theorem jsh_18 : jSH 18 = (100, 8) := by decide +kernel
theorem jlt_18 : 18 < jN := by decide +kernel
theorem jsh_19 : jSH 19 = (101, 100) := by decide +kernel
theorem jlt_19 : 19 < jN := by decide +kernel
theorem jsh_20 : jSH 20 = (101, 100) := by decide +kernel
theorem jlt_20 : 20 < jN := by decide +kernel
theorem jsh_21 : jSH 21 = (3, 19) := by decide +kernel
theorem jlt_21 : 21 < jN := by decide +kernel
theorem jmr_21_0 : jMR 21 0 = some 22 := by decide +kernel
theorem jmr_21_1 : jMR 21 1 = some 23 := by decide +kernel
theorem jmr_21_16 : jMR 21 16 = some 24 := by decide +kernel
theorem jmr_21_17 : jMR 21 17 = some 25 := by decide +kernel
theorem jmr_21_18 : jMR 21 18 = some 26 := by decide +kernel
theorem jsh_22 : jSH 22 = (100, 8) := by decide +kernel
theorem jlt_22 : 22 < jN := by decide +kernel
theorem jsh_23 : jSH 23 = (100, 8) := by decide +kernel
theorem jlt_23 : 23 < jN := by decide +kernel
theorem jsh_24 : jSH 24 = (100, 5) := by decide +kernel
theorem jlt_24 : 24 < jN := by decide +kernel
theorem jsh_25 : jSH 25 = (100, 6) := by decide +kernel
theorem jlt_25 : 25 < jN := by decide +kernel
theorem jsh_26 : jSH 26 = (100, 6) := by decide +kernel
theorem jlt_26 : 26 < jN := by decide +kernel
theorem jsh_27 : jSH 27 = (5, 11) := by decide +kernel
theorem jlt_27 : 27 < jN := by decide +kernel
theorem jmr_27_3 : jMR 27 3 = some 28 := by decide +kernel
theorem jmr_27_4 : jMR 27 4 = some 29 := by decide +kernel
theorem jmr_27_5 : jMR 27 5 = some 30 := by decide +kernel
theorem jmr_27_7 : jMR 27 7 = some 31 := by decide +kernel
theorem jmr_27_8 : jMR 27 8 = some 32 := by decide +kernel
theorem jmr_27_9 : jMR 27 9 = some 33 := by decide +kernel
theorem jmr_27_10 : jMR 27 10 = some 34 := by decide +kernel
theorem jsh_28 : jSH 28 = (100, 4) := by decide +kernel
theorem jlt_28 : 28 < jN := by decide +kernel
theorem jsh_29 : jSH 29 = (100, 256) := by decide +kernel
theorem jlt_29 : 29 < jN := by decide +kernel
theorem jsh_30 : jSH 30 = (100, 256) := by decide +kernel
theorem jlt_30 : 30 < jN := by decide +kernel
theorem jsh_31 : jSH 31 = (100, 85) := by decide +kernel
theorem jlt_31 : 31 < jN := by decide +kernel
theorem jsh_32 : jSH 32 = (102, 85) := by decide +kernel
theorem jlt_32 : 32 < jN := by decide +kernel
theorem jsh_33 : jSH 33 = (6, 8) := by decide +kernel
theorem jlt_33 : 33 < jN := by decide +kernel
theorem jsh_34 : jSH 34 = (6, 8) := by decide +kernel
theorem jlt_34 : 34 < jN := by decide +kernel
theorem jsh_35 : jSH 35 = (4, 7) := by decide +kernel
theorem jlt_35 : 35 < jN := by decide +kernel
theorem jmr_35_0 : jMR 35 0 = some 27 := by decide +kernel
theorem jmr_35_1 : jMR 35 1 = some 36 := by decide +kernel
theorem jmr_35_2 : jMR 35 2 = some 37 := by decide +kernel
theorem jmr_35_3 : jMR 35 3 = some 38 := by decide +kernel
theorem jmr_35_4 : jMR 35 4 = some 39 := by decide +kernel
theorem jsh_36 : jSH 36 = (103, 64) := by decide +kernel
theorem jlt_36 : 36 < jN := by decide +kernel
theorem jsh_37 : jSH 37 = (100, 8) := by decide +kernel
theorem jlt_37 : 37 < jN := by decide +kernel
theorem jsh_38 : jSH 38 = (100, 6) := by decide +kernel
theorem jlt_38 : 38 < jN := by decide +kernel
theorem jsh_39 : jSH 39 = (100, 6) := by decide +kernel
theorem jlt_39 : 39 < jN := by decide +kernel
theorem jsh_104 : jSH 104 = (0, 3) := by decide +kernel
theorem jlt_104 : 104 < jN := by decide +kernel
theorem jmr_104_0 : jMR 104 0 = some 27 := by decide +kernel
theorem jmr_104_1 : jMR 104 1 = some 105 := by decide +kernel
theorem jmr_104_2 : jMR 104 2 = some 106 := by decide +kernel
theorem jsh_105 : jSH 105 = (103, 8) := by decide +kernel
theorem jlt_105 : 105 < jN := by decide +kernel
theorem jsh_106 : jSH 106 = (100, 8) := by decide +kernel
theorem jlt_106 : 106 < jN := by decide +kernel
theorem jsh_115 : jSH 115 = (1, 5) := by decide +kernel
theorem jlt_115 : 115 < jN := by decide +kernel
theorem jmr_115_0 : jMR 115 0 = some 116 := by decide +kernel
theorem jsh_116 : jSH 116 = (100, 20) := by decide +kernel
theorem jlt_116 : 116 < jN := by decide +kernel
theorem jsh_117 : jSH 117 = (8, 31) := by decide +kernel
theorem jlt_117 : 117 < jN := by decide +kernel
theorem jmr_117_1 : jMR 117 1 = some 118 := by decide +kernel
theorem jmr_117_2 : jMR 117 2 = some 119 := by decide +kernel
theorem jmr_117_9 : jMR 117 9 = some 120 := by decide +kernel
theorem jmr_117_10 : jMR 117 10 = some 121 := by decide +kernel
theorem jmr_117_13 : jMR 117 13 = some 122 := by decide +kernel
theorem jmr_117_14 : jMR 117 14 = some 123 := by decide +kernel
theorem jmr_117_16 : jMR 117 16 = some 124 := by decide +kernel
theorem jmr_117_17 : jMR 117 17 = some 125 := by decide +kernel
theorem jmr_117_21 : jMR 117 21 = some 126 := by decide +kernel
theorem jmr_117_22 : jMR 117 22 = some 127 := by decide +kernel
theorem jmr_117_24 : jMR 117 24 = some 128 := by decide +kernel
theorem jmr_117_26 : jMR 117 26 = some 129 := by decide +kernel
theorem jsh_118 : jSH 118 = (100, 916) := by decide +kernel
theorem jlt_118 : 118 < jN := by decide +kernel
theorem jsh_119 : jSH 119 = (100, 916) := by decide +kernel
theorem jlt_119 : 119 < jN := by decide +kernel
theorem jsh_120 : jSH 120 = (100, 4) := by decide +kernel
theorem jlt_120 : 120 < jN := by decide +kernel
theorem jsh_121 : jSH 121 = (102, 64) := by decide +kernel
theorem jlt_121 : 121 < jN := by decide +kernel
theorem jsh_122 : jSH 122 = (100, 256) := by decide +kernel
theorem jlt_122 : 122 < jN := by decide +kernel
theorem jsh_123 : jSH 123 = (100, 256) := by decide +kernel
theorem jlt_123 : 123 < jN := by decide +kernel
theorem jsh_124 : jSH 124 = (100, 100) := by decide +kernel
theorem jlt_124 : 124 < jN := by decide +kernel
theorem jsh_125 : jSH 125 = (102, 100) := by decide +kernel
theorem jlt_125 : 125 < jN := by decide +kernel
theorem jsh_126 : jSH 126 = (100, 6) := by decide +kernel
theorem jlt_126 : 126 < jN := by decide +kernel
theorem jsh_127 : jSH 127 = (100, 6) := by decide +kernel
theorem jlt_127 : 127 < jN := by decide +kernel
theorem jsh_128 : jSH 128 = (100, 2) := by decide +kernel
theorem jlt_128 : 128 < jN := by decide +kernel
theorem jsh_129 : jSH 129 = (100, 20) := by decide +kernel
theorem jlt_129 : 129 < jN := by decide +kernel
theorem jrf_0_0 : jref 0 0 = true := by decide +kernel
theorem jrf_0_1 : jref 0 1 = true := by decide +kernel
theorem jrf_0_2 : jref 0 2 = true := by decide +kernel
theorem jrf_1_0 : jref 1 0 = true := by decide +kernel
theorem jrf_1_1 : jref 1 1 = false := by decide +kernel
theorem jrf_1_2 : jref 1 2 = false := by decide +kernel
theorem jrf_1_3 : jref 1 3 = false := by decide +kernel
theorem jrf_1_4 : jref 1 4 = false := by decide +kernel
theorem jrf_2_0 : jref 2 0 = false := by decide +kernel
theorem jrf_2_1 : jref 2 1 = false := by decide +kernel
theorem jrf_2_2 : jref 2 2 = true := by decide +kernel
theorem jrf_2_3 : jref 2 3 = true := by decide +kernel
theorem jrf_2_4 : jref 2 4 = false := by decide +kernel
theorem jrf_2_5 : jref 2 5 = true := by decide +kernel
theorem jrf_2_6 : jref 2 6 = true := by decide +kernel
theorem jrf_2_7 : jref 2 7 = true := by decide +kernel
theorem jrf_2_8 : jref 2 8 = false := by decide +kernel
theorem jrf_2_9 : jref 2 9 = true := by decide +kernel
theorem jrf_2_10 : jref 2 10 = false := by decide +kernel
theorem jrf_2_11 : jref 2 11 = true := by decide +kernel
theorem jrf_2_12 : jref 2 12 = false := by decide +kernel
theorem jrf_2_13 : jref 2 13 = true := by decide +kernel
theorem jrf_2_14 : jref 2 14 = false := by decide +kernel
theorem jrf_2_15 : jref 2 15 = false := by decide +kernel
theorem jrf_2_16 : jref 2 16 = true := by decide +kernel
theorem jrf_3_0 : jref 3 0 = true := by decide +kernel
theorem jrf_3_1 : jref 3 1 = true := by decide +kernel
theorem jrf_3_2 : jref 3 2 = false := by decide +kernel
theorem jrf_3_3 : jref 3 3 = false := by decide +kernel
theorem jrf_3_4 : jref 3 4 = false := by decide +kernel
theorem jrf_3_5 : jref 3 5 = false := by decide +kernel
theorem jrf_3_6 : jref 3 6 = false := by decide +kernel
theorem jrf_3_7 : jref 3 7 = false := by decide +kernel
theorem jrf_3_8 : jref 3 8 = false := by decide +kernel
theorem jrf_3_9 : jref 3 9 = false := by decide +kernel
theorem jrf_3_10 : jref 3 10 = false := by decide +kernel
theorem jrf_3_11 : jref 3 11 = false := by decide +kernel
theorem jrf_3_12 : jref 3 12 = false := by decide +kernel
theorem jrf_3_13 : jref 3 13 = false := by decide +kernel
theorem jrf_3_14 : jref 3 14 = false := by decide +kernel
theorem jrf_3_15 : jref 3 15 = false := by decide +kernel
theorem jrf_3_16 : jref 3 16 = true := by decide +kernel
theorem jrf_3_17 : jref 3 17 = true := by decide +kernel
theorem jrf_3_18 : jref 3 18 = true := by decide +kernel
theorem jrf_4_0 : jref 4 0 = true := by decide +kernel
theorem jrf_4_1 : jref 4 1 = true := by decide +kernel
theorem jrf_4_2 : jref 4 2 = true := by decide +kernel
theorem jrf_4_3 : jref 4 3 = true := by decide +kernel
theorem jrf_4_4 : jref 4 4 = true := by decide +kernel
theorem jrf_4_5 : jref 4 5 = false := by decide +kernel
theorem jrf_4_6 : jref 4 6 = false := by decide +kernel
theorem jrf_5_0 : jref 5 0 = false := by decide +kernel
theorem jrf_5_1 : jref 5 1 = false := by decide +kernel
theorem jrf_5_2 : jref 5 2 = false := by decide +kernel
theorem jrf_5_3 : jref 5 3 = true := by decide +kernel
theorem jrf_5_4 : jref 5 4 = true := by decide +kernel
theorem jrf_5_5 : jref 5 5 = true := by decide +kernel
theorem jrf_5_6 : jref 5 6 = false := by decide +kernel
theorem jrf_5_7 : jref 5 7 = true := by decide +kernel
theorem jrf_5_8 : jref 5 8 = true := by decide +kernel
theorem jrf_5_9 : jref 5 9 = true := by decide +kernel
theorem jrf_5_10 : jref 5 10 = true := by decide +kernel
theorem jrf_6_0 : jref 6 0 = false := by decide +kernel
theorem jrf_6_1 : jref 6 1 = false := by decide +kernel
theorem jrf_6_2 : jref 6 2 = false := by decide +kernel
theorem jrf_6_3 : jref 6 3 = false := by decide +kernel
theorem jrf_6_4 : jref 6 4 = false := by decide +kernel
theorem jrf_6_5 : jref 6 5 = false := by decide +kernel
theorem jrf_6_6 : jref 6 6 = false := by decide +kernel
theorem jrf_6_7 : jref 6 7 = false := by decide +kernel
theorem jrf_7_0 : jref 7 0 = true := by decide +kernel
theorem jrf_7_1 : jref 7 1 = true := by decide +kernel
theorem jrf_7_2 : jref 7 2 = false := by decide +kernel
theorem jrf_7_3 : jref 7 3 = true := by decide +kernel
theorem jrf_7_4 : jref 7 4 = true := by decide +kernel
theorem jrf_7_5 : jref 7 5 = true := by decide +kernel
theorem jrf_7_6 : jref 7 6 = true := by decide +kernel
theorem jrf_7_7 : jref 7 7 = true := by decide +kernel
theorem jrf_8_0 : jref 8 0 = false := by decide +kernel
theorem jrf_8_1 : jref 8 1 = true := by decide +kernel
theorem jrf_8_2 : jref 8 2 = true := by decide +kernel
theorem jrf_8_3 : jref 8 3 = false := by decide +kernel
theorem jrf_8_4 : jref 8 4 = false := by decide +kernel
theorem jrf_8_5 : jref 8 5 = false := by decide +kernel
theorem jrf_8_6 : jref 8 6 = false := by decide +kernel
theorem jrf_8_7 : jref 8 7 = false := by decide +kernel
theorem jrf_8_8 : jref 8 8 = false := by decide +kernel
theorem jrf_8_9 : jref 8 9 = true := by decide +kernel
theorem jrf_8_10 : jref 8 10 = true := by decide +kernel
theorem jrf_8_11 : jref 8 11 = false := by decide +kernel
theorem jrf_8_12 : jref 8 12 = false := by decide +kernel
theorem jrf_8_13 : jref 8 13 = true := by decide +kernel
theorem jrf_8_14 : jref 8 14 = true := by decide +kernel
theorem jrf_8_15 : jref 8 15 = false := by decide +kernel
theorem jrf_8_16 : jref 8 16 = true := by decide +kernel
theorem jrf_8_17 : jref 8 17 = true := by decide +kernel
theorem jrf_8_18 : jref 8 18 = false := by decide +kernel
theorem jrf_8_19 : jref 8 19 = false := by decide +kernel
theorem jrf_8_20 : jref 8 20 = false := by decide +kernel
theorem jrf_8_21 : jref 8 21 = true := by decide +kernel
theorem jrf_8_22 : jref 8 22 = true := by decide +kernel
theorem jrf_8_23 : jref 8 23 = false := by decide +kernel
theorem jrf_8_24 : jref 8 24 = true := by decide +kernel
theorem jrf_8_25 : jref 8 25 = false := by decide +kernel
theorem jrf_8_26 : jref 8 26 = true := by decide +kernel
theorem jrf_8_27 : jref 8 27 = false := by decide +kernel
theorem jrf_8_28 : jref 8 28 = false := by decide +kernel
theorem jrf_8_29 : jref 8 29 = false := by decide +kernel
theorem jrf_8_30 : jref 8 30 = false := by decide +kernel
theorem w_439 : (Cond.methodLink "OtherwiseCourt$Law" 70 ⟨"java/lang/Math", "min", "(II)I"⟩) ∈ gTbl := gTbl_mem 439 (by decide +kernel) (by decide +kernel)
theorem w_442 : (Cond.methodLink "OtherwiseCourt$Law" 76 ⟨"java/lang/Math", "max", "(II)I"⟩) ∈ gTbl := gTbl_mem 442 (by decide +kernel) (by decide +kernel)
theorem w_641 : (Cond.methodLink "OtherwiseCourt$Sitting" 99 ⟨"java/lang/Math", "min", "(II)I"⟩) ∈ gTbl := gTbl_mem 641 (by decide +kernel) (by decide +kernel)
theorem w_642 : (Cond.methodLink "OtherwiseCourt$Sitting" 93 ⟨"java/lang/Math", "max", "(II)I"⟩) ∈ gTbl := gTbl_mem 642 (by decide +kernel) (by decide +kernel)
theorem w_659 : (Cond.constant "java/lang/Integer" 265 (1431655765 : Int32)) ∈ gTbl := gTbl_mem 659 (by decide +kernel) (by decide +kernel)
theorem w_660 : (Cond.constant "java/lang/Integer" 266 (858993459 : Int32)) ∈ gTbl := gTbl_mem 660 (by decide +kernel) (by decide +kernel)
theorem w_661 : (Cond.constant "java/lang/Integer" 267 (252645135 : Int32)) ∈ gTbl := gTbl_mem 661 (by decide +kernel) (by decide +kernel)
theorem w_828 : (Cond.methodLink "OtherwiseCourt$Coins" 32 ⟨"java/lang/Math", "min", "(II)I"⟩) ∈ gTbl := gTbl_mem 828 (by decide +kernel) (by decide +kernel)
/-- a Tally's address -/
def jT (k : Nat) : Prop := k = 33 ∨ k = 34 ∨ (40 ≤ k ∧ k < 104) ∨ (107 ≤ k ∧ k < 115)
theorem jT_all : ∀ k, k < 130 → (k = 33 ∨ k = 34 ∨ (40 ≤ k ∧ k < 104) ∨ (107 ≤ k ∧ k < 115)) → jSH k = (6, 8) := by decide +kernel
theorem jT_lt {k : Nat} (h : jT k) : k < jN := by unfold jT at h; show k < 130; omega
theorem jT_sh {k : Nat} (h : jT k) : jSH k = (6, 8) := jT_all k (jT_lt h) h
theorem mr_36_all : ∀ j, j < 64 → jMR 36 j = some (40 + j) := by decide +kernel
theorem mr_105_all : ∀ j, j < 8 → jMR 105 j = some (107 + j) := by decide +kernel
theorem vp_lt {i : Int32} {N : Nat} (h : vp_in i N) : i.toNatClampNeg < N := Nat.not_le.mp fun q => h (Or.inr q)
theorem jT_40 {i : Int32} (h : vp_in i 64) : jT (40 + i.toNatClampNeg) := by have := vp_lt h; unfold jT; omega
theorem jT_107 {i : Int32} (h : vp_in i 8) : jT (107 + i.toNatClampNeg) := by have := vp_lt h; unfold jT; omega
theorem jT_33 : jT 33 := Or.inl rfl
theorem jT_34 : jT 34 := Or.inr (Or.inl rfl)
theorem vp_lit {i : Int32} {N : Nat} (h : (decide (¬ i < 0) && decide (i.toNatClampNeg < N)) = true) : vp_in i N := by
  simp only [Bool.and_eq_true, decide_eq_true_eq] at h
  intro q
  rcases q with q | q
  · exact h.1 q
  · omega
theorem ite_t {c : Prop} [Decidable c] {A B : Prop} (hc : c) (h : if c then A else B) : A := by rwa [if_pos hc] at h
theorem ite_f {c : Prop} [Decidable c] {A B : Prop} (hc : ¬ c) (h : if c then A else B) : B := by rwa [if_neg hc] at h
theorem ite_i {c : Prop} [Decidable c] {A B : Prop} (ha : c → A) (hb : ¬ c → B) : if c then A else B := by by_cases h : c; · rw [if_pos h]; exact ha h
                                                                                                           · rw [if_neg h]; exact hb h
theorem ite_ti {c : Prop} [Decidable c] {A B : Prop} (hc : c) (h : A) : if c then A else B := by rwa [if_pos hc]
theorem ite_fi {c : Prop} [Decidable c] {A B : Prop} (hc : ¬ c) (h : B) : if c then A else B := by rwa [if_neg hc]
def jQi (P : Int32 → jM → Prop) : jP := fun v n sh M r => ∃ x, v = some (.int x) ∧ n = jN ∧ sh = jSH ∧ r = jMR ∧ P x M
def jQl (P : Int64 → jM → Prop) : jP := fun v n sh M r => ∃ x, v = some (.long x) ∧ n = jN ∧ sh = jSH ∧ r = jMR ∧ P x M
def jQr (P : Nat → jM → Prop) : jP := fun v n sh M r => ∃ x, v = some (.ref x) ∧ n = jN ∧ sh = jSH ∧ r = jMR ∧ P x M
def jQv (P : jM → Prop) : jP := fun v n sh M r => v = none ∧ n = jN ∧ sh = jSH ∧ r = jMR ∧ P M
def CI (G : jGT) (d : Nat) (md : jMD) (A : List Value) (M : jM) (P : Int32 → jM → Prop) : Prop := Con G d md A jN jSH M jMR 0 0 (jQi P)
def CL (G : jGT) (d : Nat) (md : jMD) (A : List Value) (M : jM) (P : Int64 → jM → Prop) : Prop := Con G d md A jN jSH M jMR 0 0 (jQl P)
def CR (G : jGT) (d : Nat) (md : jMD) (A : List Value) (M : jM) (P : Nat → jM → Prop) : Prop := Con G d md A jN jSH M jMR 0 0 (jQr P)
def CV (G : jGT) (d : Nat) (md : jMD) (A : List Value) (M : jM) (P : jM → Prop) : Prop := Con G d md A jN jSH M jMR 0 0 (jQv P)
theorem nz {x : Int32} (h : x = 0 ∨ x = 1) : narrow .boolean (.int x) = .int x := by rcases h with h | h <;> subst h <;> decide +kernel
theorem jLv.setL {G : jGT} {md : jMD} {lv lv' : List (Option Value)} {ls ls' : Array Slot} (h : jLv G md lv ls) (i : Nat) {v : Value} (hlen : lv'.length = lv.length)
    (hprev : ∀ a, i = a + 1 → ∀ w, lv'[a]? = some w → jn2 w = true) (hother : ∀ j, j ≠ i → j ≠ i + 1 → lv'[j]? = lv[j]?) (hi : ∀ w, lv'[i]? = some (some w) → w = v) (hi2 : ∀ w, lv'[i + 1]? = some (some w) → False)
    (h2 : lv_has ls' md.2.2.2.1 ((i, jrn (jad G) v) :: (jtoL (jad G) 0 lv).filter (fun q => !(q.1 == i) && (!(q.1 == i + 1) && !(q.1 + 1 == i && q.2.category == 2))))) : jLv G md lv' ls' := by
  refine ⟨⟨h2.1, h2.2.1, fun q hq => h2.2.2 q ?_⟩, hlen.trans h.2⟩
  obtain ⟨j, w, h3, rfl⟩ := jtoL_mem _ _ _ _ hq
  rw [Nat.zero_add] at hq ⊢
  by_cases hj : j = i
  · subst hj
    rw [hi w h3]
    exact List.mem_cons_self
  · by_cases hj2 : j = i + 1
    · subst hj2
      exact (hi2 w h3).elim
    · refine List.mem_cons_of_mem _ (List.mem_filter.mpr ⟨?_, ?_⟩)
      · have h4 := jtoL_get (jad G) lv 0 j w ((hother j hj hj2).symm.trans h3)
        rwa [Nat.zero_add] at h4
      · simp only [Bool.and_eq_true, Bool.not_eq_true', beq_eq_false_iff_ne, ne_eq, Bool.and_eq_false_iff]
        refine ⟨hj, hj2, ?_⟩
        by_cases hi1 : j + 1 = i
        · right
          have h5 := hprev j hi1.symm _ h3
          rw [jrn_cat]
          simpa [jn2] using h5
        · exact Or.inl hi1
section KR
variable {G : jGT} {d : Nat} {md md' : jMD} {pc i k : Nat} {lv : List (Option Value)} {st As rest : List Value} {M : jM} {post : jP}
theorem K_callVI {P : Int32 → jM → Prop} {b ci N : Nat} (hd : decode md.2.2.1 pc = .ok (.invokevirtual i, 3)) (hv : jVL md.1 i md' k) (hb : b < jN) (hs : jSH b = (ci, N)) (q : vw_C) (hq : vwCl[ci]? = some q) (hqc : md'.2.1.cls = q.1) (hC : CI G d md' (.ref b :: As) M P) (hk : As.length = k) (hst : st = As.reverse ++ .ref b :: rest) (hrest : (rest.map fun v => v.category).sum ≤ 8) (kk : ∀ (x : Int32) (M1 : jM), P x M1 → J G (d + 1) md (pc + 3) lv (.int x :: rest) jN jSH M1 jMR 0 0 0 0 post) : J G (d + 1) md pc lv st jN jSH M jMR 0 0 0 0 post :=
  J_callV hd hv hC hk hst (Nat.le_refl _) hb hs q hq hqc hrest (Nat.le_refl _) (Nat.le_refl _) fun v n' sh' M' r' hp => by
  obtain ⟨x, rfl, rfl, rfl, rfl, hp⟩ := hp
  exact kk x M' hp
theorem K_callTI {P : Int32 → jM → Prop} (hd : decode md.2.2.1 pc = .ok (.invokevirtual i, 3)) (hv : jVL md.1 i md' k) (t : Nat) (ht : t < 5) (hqc : md'.2.1.cls = RJ0) (hC : CI G d md' (.ref (3000 + t) :: As) M P) (hk : As.length = k) (hst : st = As.reverse ++ .ref (3000 + t) :: rest) (hrest : (rest.map fun v => v.category).sum ≤ 8) (kk : ∀ (x : Int32) (M1 : jM), P x M1 → J G (d + 1) md (pc + 3) lv (.int x :: rest) jN jSH M1 jMR 0 0 0 0 post) : J G (d + 1) md pc lv st jN jSH M jMR 0 0 0 0 post :=
  J_callVS hd hv hC hk hst (Nat.le_refl _) ht hqc hrest (Nat.le_refl _) (Nat.le_refl _) fun v n' sh' M' r' hp => by
  obtain ⟨x, rfl, rfl, rfl, rfl, hp⟩ := hp
  exact kk x M' hp
theorem K_callSI {P : Int32 → jM → Prop} (hd : decode md.2.2.1 pc = .ok (.invokestatic i, 3)) (hv : jSL md.1 i md' k) (hC : CI G d md' As M P) (hk : As.length = k) (hst : st = As.reverse ++ rest) (hrest : (rest.map fun v => v.category).sum ≤ 8) (kk : ∀ (x : Int32) (M1 : jM), P x M1 → J G (d + 1) md (pc + 3) lv (.int x :: rest) jN jSH M1 jMR 0 0 0 0 post) : J G (d + 1) md pc lv st jN jSH M jMR 0 0 0 0 post :=
  J_callS hd hv hC hk hst (Nat.le_refl _) hrest (Nat.le_refl _) (Nat.le_refl _) fun v n' sh' M' r' hp => by
  obtain ⟨x, rfl, rfl, rfl, rfl, hp⟩ := hp
  exact kk x M' hp
theorem K_callVL {P : Int64 → jM → Prop} {b ci N : Nat} (hd : decode md.2.2.1 pc = .ok (.invokevirtual i, 3)) (hv : jVL md.1 i md' k) (hb : b < jN) (hs : jSH b = (ci, N)) (q : vw_C) (hq : vwCl[ci]? = some q) (hqc : md'.2.1.cls = q.1) (hC : CL G d md' (.ref b :: As) M P) (hk : As.length = k) (hst : st = As.reverse ++ .ref b :: rest) (hrest : (rest.map fun v => v.category).sum ≤ 8) (kk : ∀ (x : Int64) (M1 : jM), P x M1 → J G (d + 1) md (pc + 3) lv (.long x :: rest) jN jSH M1 jMR 0 0 0 0 post) : J G (d + 1) md pc lv st jN jSH M jMR 0 0 0 0 post :=
  J_callV hd hv hC hk hst (Nat.le_refl _) hb hs q hq hqc hrest (Nat.le_refl _) (Nat.le_refl _) fun v n' sh' M' r' hp => by
  obtain ⟨x, rfl, rfl, rfl, rfl, hp⟩ := hp
  exact kk x M' hp
theorem K_callTL {P : Int64 → jM → Prop} (hd : decode md.2.2.1 pc = .ok (.invokevirtual i, 3)) (hv : jVL md.1 i md' k) (t : Nat) (ht : t < 5) (hqc : md'.2.1.cls = RJ0) (hC : CL G d md' (.ref (3000 + t) :: As) M P) (hk : As.length = k) (hst : st = As.reverse ++ .ref (3000 + t) :: rest) (hrest : (rest.map fun v => v.category).sum ≤ 8) (kk : ∀ (x : Int64) (M1 : jM), P x M1 → J G (d + 1) md (pc + 3) lv (.long x :: rest) jN jSH M1 jMR 0 0 0 0 post) : J G (d + 1) md pc lv st jN jSH M jMR 0 0 0 0 post :=
  J_callVS hd hv hC hk hst (Nat.le_refl _) ht hqc hrest (Nat.le_refl _) (Nat.le_refl _) fun v n' sh' M' r' hp => by
  obtain ⟨x, rfl, rfl, rfl, rfl, hp⟩ := hp
  exact kk x M' hp
theorem K_callSL {P : Int64 → jM → Prop} (hd : decode md.2.2.1 pc = .ok (.invokestatic i, 3)) (hv : jSL md.1 i md' k) (hC : CL G d md' As M P) (hk : As.length = k) (hst : st = As.reverse ++ rest) (hrest : (rest.map fun v => v.category).sum ≤ 8) (kk : ∀ (x : Int64) (M1 : jM), P x M1 → J G (d + 1) md (pc + 3) lv (.long x :: rest) jN jSH M1 jMR 0 0 0 0 post) : J G (d + 1) md pc lv st jN jSH M jMR 0 0 0 0 post :=
  J_callS hd hv hC hk hst (Nat.le_refl _) hrest (Nat.le_refl _) (Nat.le_refl _) fun v n' sh' M' r' hp => by
  obtain ⟨x, rfl, rfl, rfl, rfl, hp⟩ := hp
  exact kk x M' hp
theorem K_callVR {P : Nat → jM → Prop} {b ci N : Nat} (hd : decode md.2.2.1 pc = .ok (.invokevirtual i, 3)) (hv : jVL md.1 i md' k) (hb : b < jN) (hs : jSH b = (ci, N)) (q : vw_C) (hq : vwCl[ci]? = some q) (hqc : md'.2.1.cls = q.1) (hC : CR G d md' (.ref b :: As) M P) (hk : As.length = k) (hst : st = As.reverse ++ .ref b :: rest) (hrest : (rest.map fun v => v.category).sum ≤ 8) (kk : ∀ (x : Nat) (M1 : jM), P x M1 → J G (d + 1) md (pc + 3) lv (.ref x :: rest) jN jSH M1 jMR 0 0 0 0 post) : J G (d + 1) md pc lv st jN jSH M jMR 0 0 0 0 post :=
  J_callV hd hv hC hk hst (Nat.le_refl _) hb hs q hq hqc hrest (Nat.le_refl _) (Nat.le_refl _) fun v n' sh' M' r' hp => by
  obtain ⟨x, rfl, rfl, rfl, rfl, hp⟩ := hp
  exact kk x M' hp
theorem K_callTR {P : Nat → jM → Prop} (hd : decode md.2.2.1 pc = .ok (.invokevirtual i, 3)) (hv : jVL md.1 i md' k) (t : Nat) (ht : t < 5) (hqc : md'.2.1.cls = RJ0) (hC : CR G d md' (.ref (3000 + t) :: As) M P) (hk : As.length = k) (hst : st = As.reverse ++ .ref (3000 + t) :: rest) (hrest : (rest.map fun v => v.category).sum ≤ 8) (kk : ∀ (x : Nat) (M1 : jM), P x M1 → J G (d + 1) md (pc + 3) lv (.ref x :: rest) jN jSH M1 jMR 0 0 0 0 post) : J G (d + 1) md pc lv st jN jSH M jMR 0 0 0 0 post :=
  J_callVS hd hv hC hk hst (Nat.le_refl _) ht hqc hrest (Nat.le_refl _) (Nat.le_refl _) fun v n' sh' M' r' hp => by
  obtain ⟨x, rfl, rfl, rfl, rfl, hp⟩ := hp
  exact kk x M' hp
theorem K_callSR {P : Nat → jM → Prop} (hd : decode md.2.2.1 pc = .ok (.invokestatic i, 3)) (hv : jSL md.1 i md' k) (hC : CR G d md' As M P) (hk : As.length = k) (hst : st = As.reverse ++ rest) (hrest : (rest.map fun v => v.category).sum ≤ 8) (kk : ∀ (x : Nat) (M1 : jM), P x M1 → J G (d + 1) md (pc + 3) lv (.ref x :: rest) jN jSH M1 jMR 0 0 0 0 post) : J G (d + 1) md pc lv st jN jSH M jMR 0 0 0 0 post :=
  J_callS hd hv hC hk hst (Nat.le_refl _) hrest (Nat.le_refl _) (Nat.le_refl _) fun v n' sh' M' r' hp => by
  obtain ⟨x, rfl, rfl, rfl, rfl, hp⟩ := hp
  exact kk x M' hp
theorem K_callVV {P : jM → Prop} {b ci N : Nat} (hd : decode md.2.2.1 pc = .ok (.invokevirtual i, 3)) (hv : jVL md.1 i md' k) (hb : b < jN) (hs : jSH b = (ci, N)) (q : vw_C) (hq : vwCl[ci]? = some q) (hqc : md'.2.1.cls = q.1) (hC : CV G d md' (.ref b :: As) M P) (hk : As.length = k) (hst : st = As.reverse ++ .ref b :: rest) (hrest : (rest.map fun v => v.category).sum ≤ 8) (kk : ∀ (M1 : jM), P M1 → J G (d + 1) md (pc + 3) lv rest jN jSH M1 jMR 0 0 0 0 post) : J G (d + 1) md pc lv st jN jSH M jMR 0 0 0 0 post :=
  J_callV hd hv hC hk hst (Nat.le_refl _) hb hs q hq hqc hrest (Nat.le_refl _) (Nat.le_refl _) fun v n' sh' M' r' hp => by
  obtain ⟨rfl, rfl, rfl, rfl, hp⟩ := hp
  exact kk M' hp
theorem K_callTV {P : jM → Prop} (hd : decode md.2.2.1 pc = .ok (.invokevirtual i, 3)) (hv : jVL md.1 i md' k) (t : Nat) (ht : t < 5) (hqc : md'.2.1.cls = RJ0) (hC : CV G d md' (.ref (3000 + t) :: As) M P) (hk : As.length = k) (hst : st = As.reverse ++ .ref (3000 + t) :: rest) (hrest : (rest.map fun v => v.category).sum ≤ 8) (kk : ∀ (M1 : jM), P M1 → J G (d + 1) md (pc + 3) lv rest jN jSH M1 jMR 0 0 0 0 post) : J G (d + 1) md pc lv st jN jSH M jMR 0 0 0 0 post :=
  J_callVS hd hv hC hk hst (Nat.le_refl _) ht hqc hrest (Nat.le_refl _) (Nat.le_refl _) fun v n' sh' M' r' hp => by
  obtain ⟨rfl, rfl, rfl, rfl, hp⟩ := hp
  exact kk M' hp
theorem K_callSV {P : jM → Prop} (hd : decode md.2.2.1 pc = .ok (.invokestatic i, 3)) (hv : jSL md.1 i md' k) (hC : CV G d md' As M P) (hk : As.length = k) (hst : st = As.reverse ++ rest) (hrest : (rest.map fun v => v.category).sum ≤ 8) (kk : ∀ (M1 : jM), P M1 → J G (d + 1) md (pc + 3) lv rest jN jSH M1 jMR 0 0 0 0 post) : J G (d + 1) md pc lv st jN jSH M jMR 0 0 0 0 post :=
  J_callS hd hv hC hk hst (Nat.le_refl _) hrest (Nat.le_refl _) (Nat.le_refl _) fun v n' sh' M' r' hp => by
  obtain ⟨rfl, rfl, rfl, rfl, hp⟩ := hp
  exact kk M' hp
theorem J_lstore_4 {a0 a1 a2 a3 : Option Value} {l : List (Option Value)} {b b2 : Option Value} {x : Int64} {n : Nat} {sh : jS} {r : jR} {c0 s0 mc ms : Nat} (hd : decode md.2.2.1 pc = .ok (.lstore 4, 2)) (hc1 : jn2 a3 = true) (k : J G d md (pc + 2) (a0 :: a1 :: a2 :: a3 :: some (.long x) :: none :: l) st n sh M r c0 s0 mc ms post) : J G d md pc (a0 :: a1 :: a2 :: a3 :: b :: b2 :: l) (.long x :: st) n sh M r c0 s0 mc ms post := by
  intro p e R s m args below meth c Q C X H locs ls hW hS hl hc hs
  exact lv_lstore C.1 C.2.1 hd hl.1 (hl.lt (i := 5) (by simp)) rfl (fun ls2 hl2 => k p e R s m args below meth c Q C X H locs ls2 hW hS (hl.setL (v := .long x) 4 rfl (fun a ha w hw => by (have : a = 3 := by omega); subst this; simp at hw; subst hw; exact hc1) (fun j hj hj2 => by match j with
    | 0 => rfl
    | 1 => rfl
    | 2 => rfl
    | 3 => rfl
    | 4 => exact absurd rfl hj
    | 5 => exact absurd rfl hj2
    | j + 6 => rfl) (fun w hw => by simp at hw; exact hw.symm) (fun w hw => by simp at hw) hl2) hc hs)
theorem J_lstore_5 {a0 a1 a2 a3 a4 : Option Value} {l : List (Option Value)} {b b2 : Option Value} {x : Int64} {n : Nat} {sh : jS} {r : jR} {c0 s0 mc ms : Nat} (hd : decode md.2.2.1 pc = .ok (.lstore 5, 2)) (hc1 : jn2 a4 = true) (k : J G d md (pc + 2) (a0 :: a1 :: a2 :: a3 :: a4 :: some (.long x) :: none :: l) st n sh M r c0 s0 mc ms post) : J G d md pc (a0 :: a1 :: a2 :: a3 :: a4 :: b :: b2 :: l) (.long x :: st) n sh M r c0 s0 mc ms post := by
  intro p e R s m args below meth c Q C X H locs ls hW hS hl hc hs
  exact lv_lstore C.1 C.2.1 hd hl.1 (hl.lt (i := 6) (by simp)) rfl (fun ls2 hl2 => k p e R s m args below meth c Q C X H locs ls2 hW hS (hl.setL (v := .long x) 5 rfl (fun a ha w hw => by (have : a = 4 := by omega); subst this; simp at hw; subst hw; exact hc1) (fun j hj hj2 => by match j with
    | 0 => rfl
    | 1 => rfl
    | 2 => rfl
    | 3 => rfl
    | 4 => rfl
    | 5 => exact absurd rfl hj
    | 6 => exact absurd rfl hj2
    | j + 7 => rfl) (fun w hw => by simp at hw; exact hw.symm) (fun w hw => by simp at hw) hl2) hc hs)
theorem J_lstore_6 {a0 a1 a2 a3 a4 a5 : Option Value} {l : List (Option Value)} {b b2 : Option Value} {x : Int64} {n : Nat} {sh : jS} {r : jR} {c0 s0 mc ms : Nat} (hd : decode md.2.2.1 pc = .ok (.lstore 6, 2)) (hc1 : jn2 a5 = true) (k : J G d md (pc + 2) (a0 :: a1 :: a2 :: a3 :: a4 :: a5 :: some (.long x) :: none :: l) st n sh M r c0 s0 mc ms post) : J G d md pc (a0 :: a1 :: a2 :: a3 :: a4 :: a5 :: b :: b2 :: l) (.long x :: st) n sh M r c0 s0 mc ms post := by
  intro p e R s m args below meth c Q C X H locs ls hW hS hl hc hs
  exact lv_lstore C.1 C.2.1 hd hl.1 (hl.lt (i := 7) (by simp)) rfl (fun ls2 hl2 => k p e R s m args below meth c Q C X H locs ls2 hW hS (hl.setL (v := .long x) 6 rfl (fun a ha w hw => by (have : a = 5 := by omega); subst this; simp at hw; subst hw; exact hc1) (fun j hj hj2 => by match j with
    | 0 => rfl
    | 1 => rfl
    | 2 => rfl
    | 3 => rfl
    | 4 => rfl
    | 5 => rfl
    | 6 => exact absurd rfl hj
    | 7 => exact absurd rfl hj2
    | j + 8 => rfl) (fun w hw => by simp at hw; exact hw.symm) (fun w hw => by simp at hw) hl2) hc hs)
theorem J_lstore_7 {a0 a1 a2 a3 a4 a5 a6 : Option Value} {l : List (Option Value)} {b b2 : Option Value} {x : Int64} {n : Nat} {sh : jS} {r : jR} {c0 s0 mc ms : Nat} (hd : decode md.2.2.1 pc = .ok (.lstore 7, 2)) (hc1 : jn2 a6 = true) (k : J G d md (pc + 2) (a0 :: a1 :: a2 :: a3 :: a4 :: a5 :: a6 :: some (.long x) :: none :: l) st n sh M r c0 s0 mc ms post) : J G d md pc (a0 :: a1 :: a2 :: a3 :: a4 :: a5 :: a6 :: b :: b2 :: l) (.long x :: st) n sh M r c0 s0 mc ms post := by
  intro p e R s m args below meth c Q C X H locs ls hW hS hl hc hs
  exact lv_lstore C.1 C.2.1 hd hl.1 (hl.lt (i := 8) (by simp)) rfl (fun ls2 hl2 => k p e R s m args below meth c Q C X H locs ls2 hW hS (hl.setL (v := .long x) 7 rfl (fun a ha w hw => by (have : a = 6 := by omega); subst this; simp at hw; subst hw; exact hc1) (fun j hj hj2 => by match j with
    | 0 => rfl
    | 1 => rfl
    | 2 => rfl
    | 3 => rfl
    | 4 => rfl
    | 5 => rfl
    | 6 => rfl
    | 7 => exact absurd rfl hj
    | 8 => exact absurd rfl hj2
    | j + 9 => rfl) (fun w hw => by simp at hw; exact hw.symm) (fun w hw => by simp at hw) hl2) hc hs)
theorem J_lstore_8 {a0 a1 a2 a3 a4 a5 a6 a7 : Option Value} {l : List (Option Value)} {b b2 : Option Value} {x : Int64} {n : Nat} {sh : jS} {r : jR} {c0 s0 mc ms : Nat} (hd : decode md.2.2.1 pc = .ok (.lstore 8, 2)) (hc1 : jn2 a7 = true) (k : J G d md (pc + 2) (a0 :: a1 :: a2 :: a3 :: a4 :: a5 :: a6 :: a7 :: some (.long x) :: none :: l) st n sh M r c0 s0 mc ms post) : J G d md pc (a0 :: a1 :: a2 :: a3 :: a4 :: a5 :: a6 :: a7 :: b :: b2 :: l) (.long x :: st) n sh M r c0 s0 mc ms post := by
  intro p e R s m args below meth c Q C X H locs ls hW hS hl hc hs
  exact lv_lstore C.1 C.2.1 hd hl.1 (hl.lt (i := 9) (by simp)) rfl (fun ls2 hl2 => k p e R s m args below meth c Q C X H locs ls2 hW hS (hl.setL (v := .long x) 8 rfl (fun a ha w hw => by (have : a = 7 := by omega); subst this; simp at hw; subst hw; exact hc1) (fun j hj hj2 => by match j with
    | 0 => rfl
    | 1 => rfl
    | 2 => rfl
    | 3 => rfl
    | 4 => rfl
    | 5 => rfl
    | 6 => rfl
    | 7 => rfl
    | 8 => exact absurd rfl hj
    | 9 => exact absurd rfl hj2
    | j + 10 => rfl) (fun w hw => by simp at hw; exact hw.symm) (fun w hw => by simp at hw) hl2) hc hs)
theorem J_lstore_9 {a0 a1 a2 a3 a4 a5 a6 a7 a8 : Option Value} {l : List (Option Value)} {b b2 : Option Value} {x : Int64} {n : Nat} {sh : jS} {r : jR} {c0 s0 mc ms : Nat} (hd : decode md.2.2.1 pc = .ok (.lstore 9, 2)) (hc1 : jn2 a8 = true) (k : J G d md (pc + 2) (a0 :: a1 :: a2 :: a3 :: a4 :: a5 :: a6 :: a7 :: a8 :: some (.long x) :: none :: l) st n sh M r c0 s0 mc ms post) : J G d md pc (a0 :: a1 :: a2 :: a3 :: a4 :: a5 :: a6 :: a7 :: a8 :: b :: b2 :: l) (.long x :: st) n sh M r c0 s0 mc ms post := by
  intro p e R s m args below meth c Q C X H locs ls hW hS hl hc hs
  exact lv_lstore C.1 C.2.1 hd hl.1 (hl.lt (i := 10) (by simp)) rfl (fun ls2 hl2 => k p e R s m args below meth c Q C X H locs ls2 hW hS (hl.setL (v := .long x) 9 rfl (fun a ha w hw => by (have : a = 8 := by omega); subst this; simp at hw; subst hw; exact hc1) (fun j hj hj2 => by match j with
    | 0 => rfl
    | 1 => rfl
    | 2 => rfl
    | 3 => rfl
    | 4 => rfl
    | 5 => rfl
    | 6 => rfl
    | 7 => rfl
    | 8 => rfl
    | 9 => exact absurd rfl hj
    | 10 => exact absurd rfl hj2
    | j + 11 => rfl) (fun w hw => by simp at hw; exact hw.symm) (fun w hw => by simp at hw) hl2) hc hs)
theorem J_lstore_10 {a0 a1 a2 a3 a4 a5 a6 a7 a8 a9 : Option Value} {l : List (Option Value)} {b b2 : Option Value} {x : Int64} {n : Nat} {sh : jS} {r : jR} {c0 s0 mc ms : Nat} (hd : decode md.2.2.1 pc = .ok (.lstore 10, 2)) (hc1 : jn2 a9 = true) (k : J G d md (pc + 2) (a0 :: a1 :: a2 :: a3 :: a4 :: a5 :: a6 :: a7 :: a8 :: a9 :: some (.long x) :: none :: l) st n sh M r c0 s0 mc ms post) : J G d md pc (a0 :: a1 :: a2 :: a3 :: a4 :: a5 :: a6 :: a7 :: a8 :: a9 :: b :: b2 :: l) (.long x :: st) n sh M r c0 s0 mc ms post := by
  intro p e R s m args below meth c Q C X H locs ls hW hS hl hc hs
  exact lv_lstore C.1 C.2.1 hd hl.1 (hl.lt (i := 11) (by simp)) rfl (fun ls2 hl2 => k p e R s m args below meth c Q C X H locs ls2 hW hS (hl.setL (v := .long x) 10 rfl (fun a ha w hw => by (have : a = 9 := by omega); subst this; simp at hw; subst hw; exact hc1) (fun j hj hj2 => by match j with
    | 0 => rfl
    | 1 => rfl
    | 2 => rfl
    | 3 => rfl
    | 4 => rfl
    | 5 => rfl
    | 6 => rfl
    | 7 => rfl
    | 8 => rfl
    | 9 => rfl
    | 10 => exact absurd rfl hj
    | 11 => exact absurd rfl hj2
    | j + 12 => rfl) (fun w hw => by simp at hw; exact hw.symm) (fun w hw => by simp at hw) hl2) hc hs)
theorem J_lstore_11 {a0 a1 a2 a3 a4 a5 a6 a7 a8 a9 a10 : Option Value} {l : List (Option Value)} {b b2 : Option Value} {x : Int64} {n : Nat} {sh : jS} {r : jR} {c0 s0 mc ms : Nat} (hd : decode md.2.2.1 pc = .ok (.lstore 11, 2)) (hc1 : jn2 a10 = true) (k : J G d md (pc + 2) (a0 :: a1 :: a2 :: a3 :: a4 :: a5 :: a6 :: a7 :: a8 :: a9 :: a10 :: some (.long x) :: none :: l) st n sh M r c0 s0 mc ms post) : J G d md pc (a0 :: a1 :: a2 :: a3 :: a4 :: a5 :: a6 :: a7 :: a8 :: a9 :: a10 :: b :: b2 :: l) (.long x :: st) n sh M r c0 s0 mc ms post := by
  intro p e R s m args below meth c Q C X H locs ls hW hS hl hc hs
  exact lv_lstore C.1 C.2.1 hd hl.1 (hl.lt (i := 12) (by simp)) rfl (fun ls2 hl2 => k p e R s m args below meth c Q C X H locs ls2 hW hS (hl.setL (v := .long x) 11 rfl (fun a ha w hw => by (have : a = 10 := by omega); subst this; simp at hw; subst hw; exact hc1) (fun j hj hj2 => by match j with
    | 0 => rfl
    | 1 => rfl
    | 2 => rfl
    | 3 => rfl
    | 4 => rfl
    | 5 => rfl
    | 6 => rfl
    | 7 => rfl
    | 8 => rfl
    | 9 => rfl
    | 10 => rfl
    | 11 => exact absurd rfl hj
    | 12 => exact absurd rfl hj2
    | j + 13 => rfl) (fun w hw => by simp at hw; exact hw.symm) (fun w hw => by simp at hw) hl2) hc hs)
def jcp (M : jM) (k' k n : Nat) : jM := fun a b => if a = k' then (if b < n then M k b else M k' b) else M a b
theorem K_copy {k k' t N N' n : Nat} {q : Int32} (hn : q.toNatClampNeg = n) (hd : decode md.2.2.1 pc = .ok (.invokestatic i, 3)) (hw : Cond.methodLink md.1 i arraycopyName ∈ gTbl) (hk : k < jN) (hs : jSH k = (100 + t, N)) (hk' : k' < jN) (hs' : jSH k' = (100 + t, N')) (ht : t < 2) (hq : ¬ q < 0) (hqN : q.toNatClampNeg ≤ N) (hqN' : q.toNatClampNeg ≤ N') (hd2 : 2 ≤ d)
    (hfit : t = 1 → ∀ j, j < N → fits .byte (.int (M k j)) = true) (hst : (st.map fun v => v.category).sum ≤ 8)
    (kk : J G d md (pc + 3) lv st jN jSH (jcp M k' k n) jMR 0 0 0 0 post) : J G d md pc lv (.int q :: .int 0 :: .ref k' :: .int 0 :: .ref k :: st) jN jSH M jMR 0 0 0 0 post := by
  subst hn
  exact J_copy hd hw hk hs hk' hs' ht hq hqN hqN' hd2 hfit hst kk
theorem J_ldcw {i : Nat} (v : Int32) {n : Nat} {sh : jS} {r : jR} {c0 s0 mc ms : Nat} (hd : decode md.2.2.1 pc = .ok (.ldc_w i, 3)) (hw : Cond.constant md.1 i v ∈ gTbl) (k : J G d md (pc + 3) lv (.int v :: st) n sh M r c0 s0 mc ms post) : J G d md pc lv st n sh M r c0 s0 mc ms post := by
  intro p e R s m args below meth c Q C X H locs ls hW hS hl hc hs
  exact lv_ldcw C.1 C.2.1 C.2.2.2.1 (C.2.2.2.2.1 _ hw) hd (k p e R s m args below meth c Q C X H locs ls hW hS hl hc hs)
theorem K_iret {x : Int32} {P : Int32 → jM → Prop} (hd : decode md.2.2.1 pc = .ok (.ireturn, 1)) (hr : md.2.2.2.2 = some .int) (h : P x M) : J G d md pc lv [.int x] jN jSH M jMR 0 0 0 0 (jQi P) := J_iret hd hr ⟨_, rfl, rfl, rfl, rfl, h⟩
theorem K_zret {x : Int32} {P : Int32 → jM → Prop} {ty : FieldType} (hd : decode md.2.2.1 pc = .ok (.ireturn, 1)) (hr : md.2.2.2.2 = some ty) (hn : narrow ty (.int x) = .int x) (h : P x M) : J G d md pc lv [.int x] jN jSH M jMR 0 0 0 0 (jQi P) := J_zret hd hr hn ⟨_, rfl, rfl, rfl, rfl, h⟩
theorem K_lret {x : Int64} {P : Int64 → jM → Prop} (hd : decode md.2.2.1 pc = .ok (.lreturn, 1)) (hr : md.2.2.2.2 = some .long) (h : P x M) : J G d md pc lv [.long x] jN jSH M jMR 0 0 0 0 (jQl P) := J_lret hd hr ⟨_, rfl, rfl, rfl, rfl, h⟩
theorem K_aret {x : Nat} {t : String} {P : Nat → jM → Prop} (hd : decode md.2.2.1 pc = .ok (.areturn, 1)) (hr : md.2.2.2.2 = some (.object t)) (h : P x M) : J G d md pc lv [.ref x] jN jSH M jMR 0 0 0 0 (jQr P) := J_aret hd hr ⟨_, rfl, rfl, rfl, rfl, h⟩
theorem K_ret {P : jM → Prop} (hd : decode md.2.2.1 pc = .ok (.return_, 1)) (hr : md.2.2.2.2 = none) (h : P M) : J G d md pc lv [] jN jSH M jMR 0 0 0 0 (jQv P) := J_ret hd hr ⟨rfl, rfl, rfl, rfl, h⟩
theorem K_iald {k N : Nat} {x : Int32} (j : Nat) (hj : x.toNatClampNeg = j) (hd : decode md.2.2.1 pc = .ok (.iaload, 1)) (hk : k < jN) (hs : jSH k = (100, N)) (hi : vp_in x N) (kk : J G d md (pc + 1) lv (.int (M k j) :: st) jN jSH M jMR 0 0 0 0 post) : J G d md pc lv (.int x :: .ref k :: st) jN jSH M jMR 0 0 0 0 post := by
  subst hj; exact J_iald hd hk hs hi kk
theorem K_bald {k N : Nat} {x : Int32} (j : Nat) (hj : x.toNatClampNeg = j) (hd : decode md.2.2.1 pc = .ok (.baload, 1)) (hk : k < jN) (hs : jSH k = (101, N)) (hi : vp_in x N) (kk : J G d md (pc + 1) lv (.int (M k j) :: st) jN jSH M jMR 0 0 0 0 post) : J G d md pc lv (.int x :: .ref k :: st) jN jSH M jMR 0 0 0 0 post := by
  subst hj; exact J_bald hd hk hs hi kk
theorem K_zald {k N : Nat} {x : Int32} (j : Nat) (hj : x.toNatClampNeg = j) (hd : decode md.2.2.1 pc = .ok (.baload, 1)) (hk : k < jN) (hs : jSH k = (102, N)) (hi : vp_in x N) (kk : J G d md (pc + 1) lv (.int (M k j) :: st) jN jSH M jMR 0 0 0 0 post) : J G d md pc lv (.int x :: .ref k :: st) jN jSH M jMR 0 0 0 0 post := by
  subst hj; exact J_zald hd hk hs hi kk
theorem K_iast {k N : Nat} {x y : Int32} (j : Nat) (hj : x.toNatClampNeg = j) (hd : decode md.2.2.1 pc = .ok (.iastore, 1)) (hk : k < jN) (hs : jSH k = (100, N)) (hi : vp_in x N) (kk : J G d md (pc + 1) lv st jN jSH (jup M k j y) jMR 0 0 0 0 post) : J G d md pc lv (.int y :: .int x :: .ref k :: st) jN jSH M jMR 0 0 0 0 post := by
  subst hj; exact J_iast hd hk hs hi kk
theorem K_bast {k N : Nat} {x y : Int32} (j : Nat) (hj : x.toNatClampNeg = j) (hd : decode md.2.2.1 pc = .ok (.bastore, 1)) (hk : k < jN) (hs : jSH k = (101, N)) (hi : vp_in x N) (kk : J G d md (pc + 1) lv st jN jSH (jup M k j (vp_nar .byte y)) jMR 0 0 0 0 post) : J G d md pc lv (.int y :: .int x :: .ref k :: st) jN jSH M jMR 0 0 0 0 post := by
  subst hj; exact J_bast hd hk hs hi kk
theorem K_zast {k N : Nat} {x y : Int32} (j : Nat) (hj : x.toNatClampNeg = j) (hd : decode md.2.2.1 pc = .ok (.bastore, 1)) (hk : k < jN) (hs : jSH k = (102, N)) (hi : vp_in x N) (kk : J G d md (pc + 1) lv st jN jSH (jup M k j (vp_nar .boolean y)) jMR 0 0 0 0 post) : J G d md pc lv (.int y :: .int x :: .ref k :: st) jN jSH M jMR 0 0 0 0 post := by
  subst hj; exact J_zast hd hk hs hi kk
theorem K_ialdO {k N : Nat} {f : Nat → Int32} {x : Int32} (j : Nat) (hj : x.toNatClampNeg = j) (hd : decode md.2.2.1 pc = .ok (.iaload, 1)) (hk : jold G k = some (N, f)) (hi : vp_in x N) (kk : J G d md (pc + 1) lv (.int (f j) :: st) jN jSH M jMR 0 0 0 0 post) : J G d md pc lv (.int x :: .ref k :: st) jN jSH M jMR 0 0 0 0 post := by
  subst hj; exact J_ialdO hd hk hi kk
theorem j_outr {lo hi : Int} {offs : Array Int} {x : Int32} (cs : List Int32) (hcs : ∀ i : Nat, i < offs.size → (Int32.ofInt (lo + i)) ∈ cs) (hsz : (offs.size : Int) = hi - lo + 1) (hlo : -2147483648 ≤ lo) (hhi : hi < 2147483648) (hx : ∀ c ∈ cs, x ≠ c) : x.toInt < lo ∨ hi < x.toInt := by
  by_cases h1 : x.toInt < lo
  · exact Or.inl h1
  · by_cases h2 : hi < x.toInt
    · exact Or.inr h2
    · exfalso
      have h3 := hcs (x.toInt - lo).toNat (by omega)
      have h4 : lo + ((x.toInt - lo).toNat : Int) = x.toInt := by omega
      rw [h4, Int32.ofInt_toInt] at h3
      exact hx _ h3 rfl
theorem J_tswC {n : Nat} {sh : jS} {r : jR} {c0 s0 mc ms : Nat} {dflt lo hi : Int} {offs : Array Int} {len : Nat} {x c : Int32} (hd : decode md.2.2.1 pc = .ok (.tableswitch dflt lo hi offs, len)) (hx : x = c) {off : Int} {t : Nat} (ho : (¬ c.toInt < lo) ∧ (¬ hi < c.toInt) ∧ offs[(c.toInt - lo).toNat]? = some off ∧ (pc : Int) + off = (t : Int)) (k : J G d md t lv st n sh M r c0 s0 mc ms post) : J G d md pc lv (.int x :: st) n sh M r c0 s0 mc ms post := by
  intro p e R s m args below meth c' Q C X H locs ls hW hS hl hc hs
  subst hx
  exact lv_tableIn C.1 C.2.1 hd ho.1 ho.2.1 ho.2.2.1 ho.2.2.2 (k p e R s m args below meth c' Q C X H locs ls hW hS hl hc hs)
theorem J_tswD {n : Nat} {sh : jS} {r : jR} {c0 s0 mc ms : Nat} {dflt lo hi : Int} {offs : Array Int} {len : Nat} {x : Int32} (hd : decode md.2.2.1 pc = .ok (.tableswitch dflt lo hi offs, len)) (hx : x.toInt < lo ∨ hi < x.toInt) {t : Nat} (ht : (pc : Int) + dflt = (t : Int)) (k : J G d md t lv st n sh M r c0 s0 mc ms post) : J G d md pc lv (.int x :: st) n sh M r c0 s0 mc ms post := by
  intro p e R s m args below meth c' Q C X H locs ls hW hS hl hc hs
  exact lv_tableOut C.1 C.2.1 hd hx ht (k p e R s m args below meth c' Q C X H locs ls hW hS hl hc hs)
theorem j_lswD : ∀ (ps : List (Int × Int)) (dflt x : Int), (∀ q ∈ ps, x ≠ q.1) → Op.lookupswitch.offset ps dflt x = dflt := by
  intro ps
  induction ps with
  | nil => intro dflt x h; simp [Op.lookupswitch.offset]
  | cons q ps ih =>
    intro dflt x h
    have h1 := h q List.mem_cons_self
    have h2 := ih dflt x (fun q hq => h q (List.mem_cons_of_mem _ hq))
    simp only [Op.lookupswitch.offset, List.find?_cons] at h2 ⊢
    have h3 : (q.1 == x) = false := by simpa using (Ne.symm h1)
    have h4 : (x == q.1) = false := by simpa using h1
    simp_all
end KR
