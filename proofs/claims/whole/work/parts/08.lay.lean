def zLX : List zC := [.inr (11, [.inr 1, .inl 0, .inr 2, .inr 5, .inr 21, .inr 37, .inr 40, .inr 43, .inr 45, .inr 47, .inr 52, .inr 56, .inr 63, .inr 65, .inr 66, .inl 0]), .inl (2, 1600), .inr (7, [.inl 0, .inl 0, .inr 1, .inl 0, .inl 0, .inl 0, .inl 0, .inl 0, .inl 1, .inl 0, .inl 0, .inl 0, .inr 3, .inr 4]), .inl (1, 19), .inl (1, 24), .inr (4, [.inl 0, .inl 0, .inl 0, .inl 0, .inl 0, .inr 6, .inl 0, .inr 7, .inr 8, .inl 0, .inl 0, .inl 0, .inr 9, .inr 13]), .inl (0, 4), .inl (0, 12), .inl (0, 12), .inr (2, [.inl 0, .inl 0, .inr 10, .inr 11, .inr 12]), .inl (0, 272), .inl (0, 5), .inl (0, 32), .inr (1, [.inr 14, .inr 15, .inr 16, .inr 17, .inr 18, .inr 19, .inr 20]), .inl (0, 12), .inl (0, 12), .inl (0, 12), .inl (0, 12), .inl (0, 12), .inl (0, 12), .inl (0, 12), .inr (4, [.inl 0, .inl 0, .inl 0, .inl 0, .inl 0, .inr 22, .inl 0, .inr 23, .inr 24, .inl 0, .inl 0, .inl 0, .inr 25, .inr 29]), .inl (0, 4), .inl (0, 12), .inl (0, 12), .inr (2, [.inl 0, .inl 0, .inr 26, .inr 27, .inr 28]), .inl (0, 272), .inl (0, 5), .inl (0, 32), .inr (1, [.inr 30, .inr 31, .inr 32, .inr 33, .inr 34, .inr 35, .inr 36]), .inl (0, 12), .inl (0, 12), .inl (0, 12), .inl (0, 12), .inl (0, 12), .inl (0, 12), .inl (0, 12), .inr (3, [.inl 0, .inl 0, .inl 0, .inr 38, .inr 39]), .inl (0, 12), .inl (0, 12), .inr (3, [.inl 0, .inl 0, .inl 0, .inr 41, .inr 42]), .inl (0, 12), .inl (0, 12), .inr (0, [.inl 0, .inl 0, .inl 0, .inr 44]), .inl (0, 1107), .inr (5, [.inl 0, .inr 46]), .inl (0, 297), .inr (8, [.inl 0, .inl 0, .inr 48, .inr 49, .inr 50, .inr 51]), .inl (0, 30), .inl (0, 30), .inl (0, 30), .inl (0, 30), .inr (6, [.inl 0, .inl 0, .inr 53, .inr 54, .inr 55]), .inl (0, 5), .inl (0, 5), .inl (0, 25), .inr (9, [.inl 0, .inl 0, .inl 0, .inl 0, .inr 57, .inr 58, .inr 59, .inr 60]), .inl (0, 3), .inl (0, 3), .inl (0, 108), .inr (3, [.inl 0, .inl 0, .inl 0, .inr 61, .inr 62]), .inl (0, 12), .inl (0, 12), .inr (10, [.inr 64]), .inl (0, 4), .inl (0, 4), .inl (0, 3)]
theorem oX_0 : zLX[0]? = some (.inr (11, [.inr 1, .inl 0, .inr 2, .inr 5, .inr 21, .inr 37, .inr 40, .inr 43, .inr 45, .inr 47, .inr 52, .inr 56, .inr 63, .inr 65, .inr 66, .inl 0])) := rfl
theorem gX_0_0 : zget zLX 0 0 = some (11, .inr 1) := rfl
theorem gX_0_1 : zget zLX 0 1 = some (11, .inl 0) := rfl
theorem gX_0_2 : zget zLX 0 2 = some (11, .inr 2) := rfl
theorem gX_0_3 : zget zLX 0 3 = some (11, .inr 5) := rfl
theorem gX_0_4 : zget zLX 0 4 = some (11, .inr 21) := rfl
theorem gX_0_5 : zget zLX 0 5 = some (11, .inr 37) := rfl
theorem gX_0_6 : zget zLX 0 6 = some (11, .inr 40) := rfl
theorem gX_0_7 : zget zLX 0 7 = some (11, .inr 43) := rfl
theorem gX_0_8 : zget zLX 0 8 = some (11, .inr 45) := rfl
theorem gX_0_9 : zget zLX 0 9 = some (11, .inr 47) := rfl
theorem gX_0_10 : zget zLX 0 10 = some (11, .inr 52) := rfl
theorem gX_0_11 : zget zLX 0 11 = some (11, .inr 56) := rfl
theorem gX_0_12 : zget zLX 0 12 = some (11, .inr 63) := rfl
theorem gX_0_13 : zget zLX 0 13 = some (11, .inr 65) := rfl
theorem gX_0_14 : zget zLX 0 14 = some (11, .inr 66) := rfl
theorem gX_0_15 : zget zLX 0 15 = some (11, .inl 0) := rfl
theorem aX_1 : zLX[1]? = some (.inl (2, 1600)) := rfl
theorem oX_2 : zLX[2]? = some (.inr (7, [.inl 0, .inl 0, .inr 1, .inl 0, .inl 0, .inl 0, .inl 0, .inl 0, .inl 1, .inl 0, .inl 0, .inl 0, .inr 3, .inr 4])) := rfl
theorem gX_2_0 : zget zLX 2 0 = some (7, .inl 0) := rfl
theorem gX_2_1 : zget zLX 2 1 = some (7, .inl 0) := rfl
theorem gX_2_2 : zget zLX 2 2 = some (7, .inr 1) := rfl
theorem gX_2_3 : zget zLX 2 3 = some (7, .inl 0) := rfl
theorem gX_2_4 : zget zLX 2 4 = some (7, .inl 0) := rfl
theorem gX_2_5 : zget zLX 2 5 = some (7, .inl 0) := rfl
theorem gX_2_6 : zget zLX 2 6 = some (7, .inl 0) := rfl
theorem gX_2_7 : zget zLX 2 7 = some (7, .inl 0) := rfl
theorem gX_2_8 : zget zLX 2 8 = some (7, .inl 1) := rfl
theorem gX_2_9 : zget zLX 2 9 = some (7, .inl 0) := rfl
theorem gX_2_10 : zget zLX 2 10 = some (7, .inl 0) := rfl
theorem gX_2_11 : zget zLX 2 11 = some (7, .inl 0) := rfl
theorem gX_2_12 : zget zLX 2 12 = some (7, .inr 3) := rfl
theorem gX_2_13 : zget zLX 2 13 = some (7, .inr 4) := rfl
theorem aX_3 : zLX[3]? = some (.inl (1, 19)) := rfl
theorem aX_4 : zLX[4]? = some (.inl (1, 24)) := rfl
theorem oX_5 : zLX[5]? = some (.inr (4, [.inl 0, .inl 0, .inl 0, .inl 0, .inl 0, .inr 6, .inl 0, .inr 7, .inr 8, .inl 0, .inl 0, .inl 0, .inr 9, .inr 13])) := rfl
theorem gX_5_0 : zget zLX 5 0 = some (4, .inl 0) := rfl
theorem gX_5_1 : zget zLX 5 1 = some (4, .inl 0) := rfl
theorem gX_5_2 : zget zLX 5 2 = some (4, .inl 0) := rfl
theorem gX_5_3 : zget zLX 5 3 = some (4, .inl 0) := rfl
theorem gX_5_4 : zget zLX 5 4 = some (4, .inl 0) := rfl
theorem gX_5_5 : zget zLX 5 5 = some (4, .inr 6) := rfl
theorem gX_5_6 : zget zLX 5 6 = some (4, .inl 0) := rfl
theorem gX_5_7 : zget zLX 5 7 = some (4, .inr 7) := rfl
theorem gX_5_8 : zget zLX 5 8 = some (4, .inr 8) := rfl
theorem gX_5_9 : zget zLX 5 9 = some (4, .inl 0) := rfl
theorem gX_5_10 : zget zLX 5 10 = some (4, .inl 0) := rfl
theorem gX_5_11 : zget zLX 5 11 = some (4, .inl 0) := rfl
theorem gX_5_12 : zget zLX 5 12 = some (4, .inr 9) := rfl
theorem gX_5_13 : zget zLX 5 13 = some (4, .inr 13) := rfl
theorem aX_6 : zLX[6]? = some (.inl (0, 4)) := rfl
theorem aX_7 : zLX[7]? = some (.inl (0, 12)) := rfl
theorem aX_8 : zLX[8]? = some (.inl (0, 12)) := rfl
theorem oX_9 : zLX[9]? = some (.inr (2, [.inl 0, .inl 0, .inr 10, .inr 11, .inr 12])) := rfl
theorem gX_9_0 : zget zLX 9 0 = some (2, .inl 0) := rfl
theorem gX_9_1 : zget zLX 9 1 = some (2, .inl 0) := rfl
theorem gX_9_2 : zget zLX 9 2 = some (2, .inr 10) := rfl
theorem gX_9_3 : zget zLX 9 3 = some (2, .inr 11) := rfl
theorem gX_9_4 : zget zLX 9 4 = some (2, .inr 12) := rfl
theorem aX_10 : zLX[10]? = some (.inl (0, 272)) := rfl
theorem aX_11 : zLX[11]? = some (.inl (0, 5)) := rfl
theorem aX_12 : zLX[12]? = some (.inl (0, 32)) := rfl
theorem oX_13 : zLX[13]? = some (.inr (1, [.inr 14, .inr 15, .inr 16, .inr 17, .inr 18, .inr 19, .inr 20])) := rfl
theorem gX_13_0 : zget zLX 13 0 = some (1, .inr 14) := rfl
theorem gX_13_1 : zget zLX 13 1 = some (1, .inr 15) := rfl
theorem gX_13_2 : zget zLX 13 2 = some (1, .inr 16) := rfl
theorem gX_13_3 : zget zLX 13 3 = some (1, .inr 17) := rfl
theorem gX_13_4 : zget zLX 13 4 = some (1, .inr 18) := rfl
theorem gX_13_5 : zget zLX 13 5 = some (1, .inr 19) := rfl
theorem gX_13_6 : zget zLX 13 6 = some (1, .inr 20) := rfl
theorem aX_14 : zLX[14]? = some (.inl (0, 12)) := rfl
theorem aX_15 : zLX[15]? = some (.inl (0, 12)) := rfl
theorem aX_16 : zLX[16]? = some (.inl (0, 12)) := rfl
theorem aX_17 : zLX[17]? = some (.inl (0, 12)) := rfl
theorem aX_18 : zLX[18]? = some (.inl (0, 12)) := rfl
theorem aX_19 : zLX[19]? = some (.inl (0, 12)) := rfl
theorem aX_20 : zLX[20]? = some (.inl (0, 12)) := rfl
theorem oX_21 : zLX[21]? = some (.inr (4, [.inl 0, .inl 0, .inl 0, .inl 0, .inl 0, .inr 22, .inl 0, .inr 23, .inr 24, .inl 0, .inl 0, .inl 0, .inr 25, .inr 29])) := rfl
theorem gX_21_0 : zget zLX 21 0 = some (4, .inl 0) := rfl
theorem gX_21_1 : zget zLX 21 1 = some (4, .inl 0) := rfl
theorem gX_21_2 : zget zLX 21 2 = some (4, .inl 0) := rfl
theorem gX_21_3 : zget zLX 21 3 = some (4, .inl 0) := rfl
theorem gX_21_4 : zget zLX 21 4 = some (4, .inl 0) := rfl
theorem gX_21_5 : zget zLX 21 5 = some (4, .inr 22) := rfl
theorem gX_21_6 : zget zLX 21 6 = some (4, .inl 0) := rfl
theorem gX_21_7 : zget zLX 21 7 = some (4, .inr 23) := rfl
theorem gX_21_8 : zget zLX 21 8 = some (4, .inr 24) := rfl
theorem gX_21_9 : zget zLX 21 9 = some (4, .inl 0) := rfl
theorem gX_21_10 : zget zLX 21 10 = some (4, .inl 0) := rfl
theorem gX_21_11 : zget zLX 21 11 = some (4, .inl 0) := rfl
theorem gX_21_12 : zget zLX 21 12 = some (4, .inr 25) := rfl
theorem gX_21_13 : zget zLX 21 13 = some (4, .inr 29) := rfl
theorem aX_22 : zLX[22]? = some (.inl (0, 4)) := rfl
theorem aX_23 : zLX[23]? = some (.inl (0, 12)) := rfl
theorem aX_24 : zLX[24]? = some (.inl (0, 12)) := rfl
theorem oX_25 : zLX[25]? = some (.inr (2, [.inl 0, .inl 0, .inr 26, .inr 27, .inr 28])) := rfl
theorem gX_25_0 : zget zLX 25 0 = some (2, .inl 0) := rfl
theorem gX_25_1 : zget zLX 25 1 = some (2, .inl 0) := rfl
theorem gX_25_2 : zget zLX 25 2 = some (2, .inr 26) := rfl
theorem gX_25_3 : zget zLX 25 3 = some (2, .inr 27) := rfl
theorem gX_25_4 : zget zLX 25 4 = some (2, .inr 28) := rfl
theorem aX_26 : zLX[26]? = some (.inl (0, 272)) := rfl
theorem aX_27 : zLX[27]? = some (.inl (0, 5)) := rfl
theorem aX_28 : zLX[28]? = some (.inl (0, 32)) := rfl
theorem oX_29 : zLX[29]? = some (.inr (1, [.inr 30, .inr 31, .inr 32, .inr 33, .inr 34, .inr 35, .inr 36])) := rfl
theorem gX_29_0 : zget zLX 29 0 = some (1, .inr 30) := rfl
theorem gX_29_1 : zget zLX 29 1 = some (1, .inr 31) := rfl
theorem gX_29_2 : zget zLX 29 2 = some (1, .inr 32) := rfl
theorem gX_29_3 : zget zLX 29 3 = some (1, .inr 33) := rfl
theorem gX_29_4 : zget zLX 29 4 = some (1, .inr 34) := rfl
theorem gX_29_5 : zget zLX 29 5 = some (1, .inr 35) := rfl
theorem gX_29_6 : zget zLX 29 6 = some (1, .inr 36) := rfl
theorem aX_30 : zLX[30]? = some (.inl (0, 12)) := rfl
theorem aX_31 : zLX[31]? = some (.inl (0, 12)) := rfl
theorem aX_32 : zLX[32]? = some (.inl (0, 12)) := rfl
theorem aX_33 : zLX[33]? = some (.inl (0, 12)) := rfl
theorem aX_34 : zLX[34]? = some (.inl (0, 12)) := rfl
theorem aX_35 : zLX[35]? = some (.inl (0, 12)) := rfl
theorem aX_36 : zLX[36]? = some (.inl (0, 12)) := rfl
theorem oX_37 : zLX[37]? = some (.inr (3, [.inl 0, .inl 0, .inl 0, .inr 38, .inr 39])) := rfl
theorem gX_37_0 : zget zLX 37 0 = some (3, .inl 0) := rfl
theorem gX_37_1 : zget zLX 37 1 = some (3, .inl 0) := rfl
theorem gX_37_2 : zget zLX 37 2 = some (3, .inl 0) := rfl
theorem gX_37_3 : zget zLX 37 3 = some (3, .inr 38) := rfl
theorem gX_37_4 : zget zLX 37 4 = some (3, .inr 39) := rfl
theorem aX_38 : zLX[38]? = some (.inl (0, 12)) := rfl
theorem aX_39 : zLX[39]? = some (.inl (0, 12)) := rfl
theorem oX_40 : zLX[40]? = some (.inr (3, [.inl 0, .inl 0, .inl 0, .inr 41, .inr 42])) := rfl
theorem gX_40_0 : zget zLX 40 0 = some (3, .inl 0) := rfl
theorem gX_40_1 : zget zLX 40 1 = some (3, .inl 0) := rfl
theorem gX_40_2 : zget zLX 40 2 = some (3, .inl 0) := rfl
theorem gX_40_3 : zget zLX 40 3 = some (3, .inr 41) := rfl
theorem gX_40_4 : zget zLX 40 4 = some (3, .inr 42) := rfl
theorem aX_41 : zLX[41]? = some (.inl (0, 12)) := rfl
theorem aX_42 : zLX[42]? = some (.inl (0, 12)) := rfl
theorem oX_43 : zLX[43]? = some (.inr (0, [.inl 0, .inl 0, .inl 0, .inr 44])) := rfl
theorem gX_43_0 : zget zLX 43 0 = some (0, .inl 0) := rfl
theorem gX_43_1 : zget zLX 43 1 = some (0, .inl 0) := rfl
theorem gX_43_2 : zget zLX 43 2 = some (0, .inl 0) := rfl
theorem gX_43_3 : zget zLX 43 3 = some (0, .inr 44) := rfl
theorem aX_44 : zLX[44]? = some (.inl (0, 1107)) := rfl
theorem oX_45 : zLX[45]? = some (.inr (5, [.inl 0, .inr 46])) := rfl
theorem gX_45_0 : zget zLX 45 0 = some (5, .inl 0) := rfl
theorem gX_45_1 : zget zLX 45 1 = some (5, .inr 46) := rfl
theorem aX_46 : zLX[46]? = some (.inl (0, 297)) := rfl
theorem oX_47 : zLX[47]? = some (.inr (8, [.inl 0, .inl 0, .inr 48, .inr 49, .inr 50, .inr 51])) := rfl
theorem gX_47_0 : zget zLX 47 0 = some (8, .inl 0) := rfl
theorem gX_47_1 : zget zLX 47 1 = some (8, .inl 0) := rfl
theorem gX_47_2 : zget zLX 47 2 = some (8, .inr 48) := rfl
theorem gX_47_3 : zget zLX 47 3 = some (8, .inr 49) := rfl
theorem gX_47_4 : zget zLX 47 4 = some (8, .inr 50) := rfl
theorem gX_47_5 : zget zLX 47 5 = some (8, .inr 51) := rfl
theorem aX_48 : zLX[48]? = some (.inl (0, 30)) := rfl
theorem aX_49 : zLX[49]? = some (.inl (0, 30)) := rfl
theorem aX_50 : zLX[50]? = some (.inl (0, 30)) := rfl
theorem aX_51 : zLX[51]? = some (.inl (0, 30)) := rfl
theorem oX_52 : zLX[52]? = some (.inr (6, [.inl 0, .inl 0, .inr 53, .inr 54, .inr 55])) := rfl
theorem gX_52_0 : zget zLX 52 0 = some (6, .inl 0) := rfl
theorem gX_52_1 : zget zLX 52 1 = some (6, .inl 0) := rfl
theorem gX_52_2 : zget zLX 52 2 = some (6, .inr 53) := rfl
theorem gX_52_3 : zget zLX 52 3 = some (6, .inr 54) := rfl
theorem gX_52_4 : zget zLX 52 4 = some (6, .inr 55) := rfl
theorem aX_53 : zLX[53]? = some (.inl (0, 5)) := rfl
theorem aX_54 : zLX[54]? = some (.inl (0, 5)) := rfl
theorem aX_55 : zLX[55]? = some (.inl (0, 25)) := rfl
theorem oX_56 : zLX[56]? = some (.inr (9, [.inl 0, .inl 0, .inl 0, .inl 0, .inr 57, .inr 58, .inr 59, .inr 60])) := rfl
theorem gX_56_0 : zget zLX 56 0 = some (9, .inl 0) := rfl
theorem gX_56_1 : zget zLX 56 1 = some (9, .inl 0) := rfl
theorem gX_56_2 : zget zLX 56 2 = some (9, .inl 0) := rfl
theorem gX_56_3 : zget zLX 56 3 = some (9, .inl 0) := rfl
theorem gX_56_4 : zget zLX 56 4 = some (9, .inr 57) := rfl
theorem gX_56_5 : zget zLX 56 5 = some (9, .inr 58) := rfl
theorem gX_56_6 : zget zLX 56 6 = some (9, .inr 59) := rfl
theorem gX_56_7 : zget zLX 56 7 = some (9, .inr 60) := rfl
theorem aX_57 : zLX[57]? = some (.inl (0, 3)) := rfl
theorem aX_58 : zLX[58]? = some (.inl (0, 3)) := rfl
theorem aX_59 : zLX[59]? = some (.inl (0, 108)) := rfl
theorem oX_60 : zLX[60]? = some (.inr (3, [.inl 0, .inl 0, .inl 0, .inr 61, .inr 62])) := rfl
theorem gX_60_0 : zget zLX 60 0 = some (3, .inl 0) := rfl
theorem gX_60_1 : zget zLX 60 1 = some (3, .inl 0) := rfl
theorem gX_60_2 : zget zLX 60 2 = some (3, .inl 0) := rfl
theorem gX_60_3 : zget zLX 60 3 = some (3, .inr 61) := rfl
theorem gX_60_4 : zget zLX 60 4 = some (3, .inr 62) := rfl
theorem aX_61 : zLX[61]? = some (.inl (0, 12)) := rfl
theorem aX_62 : zLX[62]? = some (.inl (0, 12)) := rfl
theorem oX_63 : zLX[63]? = some (.inr (10, [.inr 64])) := rfl
theorem gX_63_0 : zget zLX 63 0 = some (10, .inr 64) := rfl
theorem aX_64 : zLX[64]? = some (.inl (0, 4)) := rfl
theorem aX_65 : zLX[65]? = some (.inl (0, 4)) := rfl
theorem aX_66 : zLX[66]? = some (.inl (0, 3)) := rfl
def zLM : List zC := [.inr (12, [.inr 1, .inl 0, .inl 0, .inl 0, .inl 0, .inl 0, .inl 0, .inl 0, .inl 0, .inl 1, .inr 2, .inr 3, .inr 4, .inr 5, .inr 6, .inr 7, .inr 8, .inl 0, .inl 0, .inl 0, .inl 0, .inl 0, .inl 0, .inl 0, .inr 9, .inr 10, .inr 11, .inr 12, .inr 13, .inr 14, .inr 15, .inr 16, .inr 17, .inr 18, .inl 0, .inl 0, .inl 0, .inl 0, .inl 0, .inl 0, .inl 0, .inl 0, .inl 0, .inl 0, .inl 0, .inl 0, .inl 0, .inl 0, .inl 0, .inl 0, .inl 0, .inl 0, .inl 0, .inr 19, .inr 20, .inr 21, .inl 0, .inl 0, .inr 22, .inr 23, .inl 0, .inr 24, .inr 25, .inr 26, .inr 27, .inl 0, .inl 0, .inr 28, .inr 29, .inr 30, .inr 31, .inr 32, .inl 0, .inl 0, .inr 33, .inr 34, .inr 35, .inr 36, .inr 37]), .inl (0, 1600), .inl (1, 19), .inl (0, 320), .inl (0, 320), .inl (0, 320), .inl (0, 320), .inl (0, 160), .inl (0, 64), .inl (0, 5), .inl (0, 4), .inl (0, 4), .inl (0, 12), .inl (0, 12), .inl (0, 12), .inl (0, 12), .inl (3, 4), .inl (3, 4), .inl (0, 96), .inl (0, 99), .inl (0, 99), .inl (0, 3960), .inl (0, 3), .inl (0, 3), .inl (0, 3), .inl (0, 3), .inl (0, 3), .inl (0, 3), .inl (0, 30), .inl (0, 30), .inl (0, 30), .inl (0, 30), .inl (3, 30), .inl (0, 5), .inl (0, 5), .inl (0, 25), .inl (3, 3), .inl (0, 297)]
theorem oM_0 : zLM[0]? = some (.inr (12, [.inr 1, .inl 0, .inl 0, .inl 0, .inl 0, .inl 0, .inl 0, .inl 0, .inl 0, .inl 1, .inr 2, .inr 3, .inr 4, .inr 5, .inr 6, .inr 7, .inr 8, .inl 0, .inl 0, .inl 0, .inl 0, .inl 0, .inl 0, .inl 0, .inr 9, .inr 10, .inr 11, .inr 12, .inr 13, .inr 14, .inr 15, .inr 16, .inr 17, .inr 18, .inl 0, .inl 0, .inl 0, .inl 0, .inl 0, .inl 0, .inl 0, .inl 0, .inl 0, .inl 0, .inl 0, .inl 0, .inl 0, .inl 0, .inl 0, .inl 0, .inl 0, .inl 0, .inl 0, .inr 19, .inr 20, .inr 21, .inl 0, .inl 0, .inr 22, .inr 23, .inl 0, .inr 24, .inr 25, .inr 26, .inr 27, .inl 0, .inl 0, .inr 28, .inr 29, .inr 30, .inr 31, .inr 32, .inl 0, .inl 0, .inr 33, .inr 34, .inr 35, .inr 36, .inr 37])) := rfl
theorem gM_0_0 : zget zLM 0 0 = some (12, .inr 1) := rfl
theorem gM_0_1 : zget zLM 0 1 = some (12, .inl 0) := rfl
theorem gM_0_2 : zget zLM 0 2 = some (12, .inl 0) := rfl
theorem gM_0_3 : zget zLM 0 3 = some (12, .inl 0) := rfl
theorem gM_0_4 : zget zLM 0 4 = some (12, .inl 0) := rfl
theorem gM_0_5 : zget zLM 0 5 = some (12, .inl 0) := rfl
theorem gM_0_6 : zget zLM 0 6 = some (12, .inl 0) := rfl
theorem gM_0_7 : zget zLM 0 7 = some (12, .inl 0) := rfl
theorem gM_0_8 : zget zLM 0 8 = some (12, .inl 0) := rfl
theorem gM_0_9 : zget zLM 0 9 = some (12, .inl 1) := rfl
theorem gM_0_10 : zget zLM 0 10 = some (12, .inr 2) := rfl
theorem gM_0_11 : zget zLM 0 11 = some (12, .inr 3) := rfl
theorem gM_0_12 : zget zLM 0 12 = some (12, .inr 4) := rfl
theorem gM_0_13 : zget zLM 0 13 = some (12, .inr 5) := rfl
theorem gM_0_14 : zget zLM 0 14 = some (12, .inr 6) := rfl
theorem gM_0_15 : zget zLM 0 15 = some (12, .inr 7) := rfl
theorem gM_0_16 : zget zLM 0 16 = some (12, .inr 8) := rfl
theorem gM_0_17 : zget zLM 0 17 = some (12, .inl 0) := rfl
theorem gM_0_18 : zget zLM 0 18 = some (12, .inl 0) := rfl
theorem gM_0_19 : zget zLM 0 19 = some (12, .inl 0) := rfl
theorem gM_0_20 : zget zLM 0 20 = some (12, .inl 0) := rfl
theorem gM_0_21 : zget zLM 0 21 = some (12, .inl 0) := rfl
theorem gM_0_22 : zget zLM 0 22 = some (12, .inl 0) := rfl
theorem gM_0_23 : zget zLM 0 23 = some (12, .inl 0) := rfl
theorem gM_0_24 : zget zLM 0 24 = some (12, .inr 9) := rfl
theorem gM_0_25 : zget zLM 0 25 = some (12, .inr 10) := rfl
theorem gM_0_26 : zget zLM 0 26 = some (12, .inr 11) := rfl
theorem gM_0_27 : zget zLM 0 27 = some (12, .inr 12) := rfl
theorem gM_0_28 : zget zLM 0 28 = some (12, .inr 13) := rfl
theorem gM_0_29 : zget zLM 0 29 = some (12, .inr 14) := rfl
theorem gM_0_30 : zget zLM 0 30 = some (12, .inr 15) := rfl
theorem gM_0_31 : zget zLM 0 31 = some (12, .inr 16) := rfl
theorem gM_0_32 : zget zLM 0 32 = some (12, .inr 17) := rfl
theorem gM_0_33 : zget zLM 0 33 = some (12, .inr 18) := rfl
theorem gM_0_34 : zget zLM 0 34 = some (12, .inl 0) := rfl
theorem gM_0_35 : zget zLM 0 35 = some (12, .inl 0) := rfl
theorem gM_0_36 : zget zLM 0 36 = some (12, .inl 0) := rfl
theorem gM_0_37 : zget zLM 0 37 = some (12, .inl 0) := rfl
theorem gM_0_38 : zget zLM 0 38 = some (12, .inl 0) := rfl
theorem gM_0_39 : zget zLM 0 39 = some (12, .inl 0) := rfl
theorem gM_0_40 : zget zLM 0 40 = some (12, .inl 0) := rfl
theorem gM_0_41 : zget zLM 0 41 = some (12, .inl 0) := rfl
theorem gM_0_42 : zget zLM 0 42 = some (12, .inl 0) := rfl
theorem gM_0_43 : zget zLM 0 43 = some (12, .inl 0) := rfl
theorem gM_0_44 : zget zLM 0 44 = some (12, .inl 0) := rfl
theorem gM_0_45 : zget zLM 0 45 = some (12, .inl 0) := rfl
theorem gM_0_46 : zget zLM 0 46 = some (12, .inl 0) := rfl
theorem gM_0_47 : zget zLM 0 47 = some (12, .inl 0) := rfl
theorem gM_0_48 : zget zLM 0 48 = some (12, .inl 0) := rfl
theorem gM_0_49 : zget zLM 0 49 = some (12, .inl 0) := rfl
theorem gM_0_50 : zget zLM 0 50 = some (12, .inl 0) := rfl
theorem gM_0_51 : zget zLM 0 51 = some (12, .inl 0) := rfl
theorem gM_0_52 : zget zLM 0 52 = some (12, .inl 0) := rfl
theorem gM_0_53 : zget zLM 0 53 = some (12, .inr 19) := rfl
theorem gM_0_54 : zget zLM 0 54 = some (12, .inr 20) := rfl
theorem gM_0_55 : zget zLM 0 55 = some (12, .inr 21) := rfl
theorem gM_0_56 : zget zLM 0 56 = some (12, .inl 0) := rfl
theorem gM_0_57 : zget zLM 0 57 = some (12, .inl 0) := rfl
theorem gM_0_58 : zget zLM 0 58 = some (12, .inr 22) := rfl
theorem gM_0_59 : zget zLM 0 59 = some (12, .inr 23) := rfl
theorem gM_0_60 : zget zLM 0 60 = some (12, .inl 0) := rfl
theorem gM_0_61 : zget zLM 0 61 = some (12, .inr 24) := rfl
theorem gM_0_62 : zget zLM 0 62 = some (12, .inr 25) := rfl
theorem gM_0_63 : zget zLM 0 63 = some (12, .inr 26) := rfl
theorem gM_0_64 : zget zLM 0 64 = some (12, .inr 27) := rfl
theorem gM_0_65 : zget zLM 0 65 = some (12, .inl 0) := rfl
theorem gM_0_66 : zget zLM 0 66 = some (12, .inl 0) := rfl
theorem gM_0_67 : zget zLM 0 67 = some (12, .inr 28) := rfl
theorem gM_0_68 : zget zLM 0 68 = some (12, .inr 29) := rfl
theorem gM_0_69 : zget zLM 0 69 = some (12, .inr 30) := rfl
theorem gM_0_70 : zget zLM 0 70 = some (12, .inr 31) := rfl
theorem gM_0_71 : zget zLM 0 71 = some (12, .inr 32) := rfl
theorem gM_0_72 : zget zLM 0 72 = some (12, .inl 0) := rfl
theorem gM_0_73 : zget zLM 0 73 = some (12, .inl 0) := rfl
theorem gM_0_74 : zget zLM 0 74 = some (12, .inr 33) := rfl
theorem gM_0_75 : zget zLM 0 75 = some (12, .inr 34) := rfl
theorem gM_0_76 : zget zLM 0 76 = some (12, .inr 35) := rfl
theorem gM_0_77 : zget zLM 0 77 = some (12, .inr 36) := rfl
theorem gM_0_78 : zget zLM 0 78 = some (12, .inr 37) := rfl
theorem aM_1 : zLM[1]? = some (.inl (0, 1600)) := rfl
theorem aM_2 : zLM[2]? = some (.inl (1, 19)) := rfl
theorem aM_3 : zLM[3]? = some (.inl (0, 320)) := rfl
theorem aM_4 : zLM[4]? = some (.inl (0, 320)) := rfl
theorem aM_5 : zLM[5]? = some (.inl (0, 320)) := rfl
theorem aM_6 : zLM[6]? = some (.inl (0, 320)) := rfl
theorem aM_7 : zLM[7]? = some (.inl (0, 160)) := rfl
theorem aM_8 : zLM[8]? = some (.inl (0, 64)) := rfl
theorem aM_9 : zLM[9]? = some (.inl (0, 5)) := rfl
theorem aM_10 : zLM[10]? = some (.inl (0, 4)) := rfl
theorem aM_11 : zLM[11]? = some (.inl (0, 4)) := rfl
theorem aM_12 : zLM[12]? = some (.inl (0, 12)) := rfl
theorem aM_13 : zLM[13]? = some (.inl (0, 12)) := rfl
theorem aM_14 : zLM[14]? = some (.inl (0, 12)) := rfl
theorem aM_15 : zLM[15]? = some (.inl (0, 12)) := rfl
theorem aM_16 : zLM[16]? = some (.inl (3, 4)) := rfl
theorem aM_17 : zLM[17]? = some (.inl (3, 4)) := rfl
theorem aM_18 : zLM[18]? = some (.inl (0, 96)) := rfl
theorem aM_19 : zLM[19]? = some (.inl (0, 99)) := rfl
theorem aM_20 : zLM[20]? = some (.inl (0, 99)) := rfl
theorem aM_21 : zLM[21]? = some (.inl (0, 3960)) := rfl
theorem aM_22 : zLM[22]? = some (.inl (0, 3)) := rfl
theorem aM_23 : zLM[23]? = some (.inl (0, 3)) := rfl
theorem aM_24 : zLM[24]? = some (.inl (0, 3)) := rfl
theorem aM_25 : zLM[25]? = some (.inl (0, 3)) := rfl
theorem aM_26 : zLM[26]? = some (.inl (0, 3)) := rfl
theorem aM_27 : zLM[27]? = some (.inl (0, 3)) := rfl
theorem aM_28 : zLM[28]? = some (.inl (0, 30)) := rfl
theorem aM_29 : zLM[29]? = some (.inl (0, 30)) := rfl
theorem aM_30 : zLM[30]? = some (.inl (0, 30)) := rfl
theorem aM_31 : zLM[31]? = some (.inl (0, 30)) := rfl
theorem aM_32 : zLM[32]? = some (.inl (3, 30)) := rfl
theorem aM_33 : zLM[33]? = some (.inl (0, 5)) := rfl
theorem aM_34 : zLM[34]? = some (.inl (0, 5)) := rfl
theorem aM_35 : zLM[35]? = some (.inl (0, 25)) := rfl
theorem aM_36 : zLM[36]? = some (.inl (3, 3)) := rfl
theorem aM_37 : zLM[37]? = some (.inl (0, 297)) := rfl
def zLH : List zC := [.inr (4, [.inl 0, .inl 0, .inl 0, .inl 0, .inl 0, .inr 1, .inl 0, .inr 2, .inr 3, .inl 0, .inl 0, .inl 0, .inr 4, .inr 8]), .inl (0, 4), .inl (0, 12), .inl (0, 12), .inr (2, [.inl 0, .inl 0, .inr 5, .inr 6, .inr 7]), .inl (0, 272), .inl (0, 5), .inl (0, 32), .inr (1, [.inr 9, .inr 10, .inr 11, .inr 12, .inr 13, .inr 14, .inr 15]), .inl (0, 12), .inl (0, 12), .inl (0, 12), .inl (0, 12), .inl (0, 12), .inl (0, 12), .inl (0, 12)]
theorem oH_0 : zLH[0]? = some (.inr (4, [.inl 0, .inl 0, .inl 0, .inl 0, .inl 0, .inr 1, .inl 0, .inr 2, .inr 3, .inl 0, .inl 0, .inl 0, .inr 4, .inr 8])) := rfl
theorem gH_0_0 : zget zLH 0 0 = some (4, .inl 0) := rfl
theorem gH_0_1 : zget zLH 0 1 = some (4, .inl 0) := rfl
theorem gH_0_2 : zget zLH 0 2 = some (4, .inl 0) := rfl
theorem gH_0_3 : zget zLH 0 3 = some (4, .inl 0) := rfl
theorem gH_0_4 : zget zLH 0 4 = some (4, .inl 0) := rfl
theorem gH_0_5 : zget zLH 0 5 = some (4, .inr 1) := rfl
theorem gH_0_6 : zget zLH 0 6 = some (4, .inl 0) := rfl
theorem gH_0_7 : zget zLH 0 7 = some (4, .inr 2) := rfl
theorem gH_0_8 : zget zLH 0 8 = some (4, .inr 3) := rfl
theorem gH_0_9 : zget zLH 0 9 = some (4, .inl 0) := rfl
theorem gH_0_10 : zget zLH 0 10 = some (4, .inl 0) := rfl
theorem gH_0_11 : zget zLH 0 11 = some (4, .inl 0) := rfl
theorem gH_0_12 : zget zLH 0 12 = some (4, .inr 4) := rfl
theorem gH_0_13 : zget zLH 0 13 = some (4, .inr 8) := rfl
theorem aH_1 : zLH[1]? = some (.inl (0, 4)) := rfl
theorem aH_2 : zLH[2]? = some (.inl (0, 12)) := rfl
theorem aH_3 : zLH[3]? = some (.inl (0, 12)) := rfl
theorem oH_4 : zLH[4]? = some (.inr (2, [.inl 0, .inl 0, .inr 5, .inr 6, .inr 7])) := rfl
theorem gH_4_0 : zget zLH 4 0 = some (2, .inl 0) := rfl
theorem gH_4_1 : zget zLH 4 1 = some (2, .inl 0) := rfl
theorem gH_4_2 : zget zLH 4 2 = some (2, .inr 5) := rfl
theorem gH_4_3 : zget zLH 4 3 = some (2, .inr 6) := rfl
theorem gH_4_4 : zget zLH 4 4 = some (2, .inr 7) := rfl
theorem aH_5 : zLH[5]? = some (.inl (0, 272)) := rfl
theorem aH_6 : zLH[6]? = some (.inl (0, 5)) := rfl
theorem aH_7 : zLH[7]? = some (.inl (0, 32)) := rfl
theorem oH_8 : zLH[8]? = some (.inr (1, [.inr 9, .inr 10, .inr 11, .inr 12, .inr 13, .inr 14, .inr 15])) := rfl
theorem gH_8_0 : zget zLH 8 0 = some (1, .inr 9) := rfl
theorem gH_8_1 : zget zLH 8 1 = some (1, .inr 10) := rfl
theorem gH_8_2 : zget zLH 8 2 = some (1, .inr 11) := rfl
theorem gH_8_3 : zget zLH 8 3 = some (1, .inr 12) := rfl
theorem gH_8_4 : zget zLH 8 4 = some (1, .inr 13) := rfl
theorem gH_8_5 : zget zLH 8 5 = some (1, .inr 14) := rfl
theorem gH_8_6 : zget zLH 8 6 = some (1, .inr 15) := rfl
theorem aH_9 : zLH[9]? = some (.inl (0, 12)) := rfl
theorem aH_10 : zLH[10]? = some (.inl (0, 12)) := rfl
theorem aH_11 : zLH[11]? = some (.inl (0, 12)) := rfl
theorem aH_12 : zLH[12]? = some (.inl (0, 12)) := rfl
theorem aH_13 : zLH[13]? = some (.inl (0, 12)) := rfl
theorem aH_14 : zLH[14]? = some (.inl (0, 12)) := rfl
theorem aH_15 : zLH[15]? = some (.inl (0, 12)) := rfl
def zLR : List zC := [.inr (7, [.inl 0, .inl 0, .inr 900, .inl 0, .inl 0, .inl 0, .inl 0, .inl 0, .inl 1, .inl 0, .inl 0, .inl 0, .inr 1, .inr 2]), .inl (1, 19), .inl (1, 24)]
theorem oR_0 : zLR[0]? = some (.inr (7, [.inl 0, .inl 0, .inr 900, .inl 0, .inl 0, .inl 0, .inl 0, .inl 0, .inl 1, .inl 0, .inl 0, .inl 0, .inr 1, .inr 2])) := rfl
theorem gR_0_0 : zget zLR 0 0 = some (7, .inl 0) := rfl
theorem gR_0_1 : zget zLR 0 1 = some (7, .inl 0) := rfl
theorem gR_0_2 : zget zLR 0 2 = some (7, .inr 900) := rfl
theorem gR_0_3 : zget zLR 0 3 = some (7, .inl 0) := rfl
theorem gR_0_4 : zget zLR 0 4 = some (7, .inl 0) := rfl
theorem gR_0_5 : zget zLR 0 5 = some (7, .inl 0) := rfl
theorem gR_0_6 : zget zLR 0 6 = some (7, .inl 0) := rfl
theorem gR_0_7 : zget zLR 0 7 = some (7, .inl 0) := rfl
theorem gR_0_8 : zget zLR 0 8 = some (7, .inl 1) := rfl
theorem gR_0_9 : zget zLR 0 9 = some (7, .inl 0) := rfl
theorem gR_0_10 : zget zLR 0 10 = some (7, .inl 0) := rfl
theorem gR_0_11 : zget zLR 0 11 = some (7, .inl 0) := rfl
theorem gR_0_12 : zget zLR 0 12 = some (7, .inr 1) := rfl
theorem gR_0_13 : zget zLR 0 13 = some (7, .inr 2) := rfl
theorem aR_1 : zLR[1]? = some (.inl (1, 19)) := rfl
theorem aR_2 : zLR[2]? = some (.inl (1, 24)) := rfl
def zN : Nat := 10000
def zRD : Nat := 80
abbrev zin (i : Int32) (n : Nat) : Prop := ¬ (i < 0 ∨ n ≤ i.toNatClampNeg)
abbrev znb (x : Int32) : Prop := x = 0 ∨ x = 1
abbrev zcinB (sp dp n : Int32) (n0 n1 : Nat) : Prop := ¬ sp < 0 ∧ ¬ dp < 0 ∧ ¬ n < 0 ∧ sp.toNatClampNeg + n.toNatClampNeg ≤ n0 ∧ dp.toNatClampNeg + n.toNatClampNeg ≤ n1
theorem znb_n {x : Int32} (h : znb x) : narrow .boolean (.int x) = .int x := by rcases h with rfl | rfl <;> rfl
theorem znb_f {x : Int32} (h : znb x) : fits .boolean (.int x) = true := by rcases h with rfl | rfl <;> rfl
def zrem (x y : Int32) : Int32 := x - x / y * y
def zushr (x y : Int32) : Int32 := (x.toUInt32 >>> (y.toUInt32 &&& 31)).toInt32
theorem zt_some {α : Type} {c : Prop} [Decidable c] {a b : Option α} {y : α} (hc : c) (h : (if c then a else b) = some y) : a = some y := by rwa [if_pos hc] at h
theorem ze_some {α : Type} {c : Prop} [Decidable c] {a b : Option α} {y : α} (hc : ¬ c) (h : (if c then a else b) = some y) : b = some y := by rwa [if_neg hc] at h
section ZV
variable {Ly : List zC} {l : Launch} {own : String} {cc : ByteArray} {nL : Nat} {ret : Option FieldType} {kd : Nat} {r : Option Value} {S1 S S2 : zS} {pc : Nat} {lo lo' : List (Nat × Value)} {st st0 : List Value}
theorem z_top {x v : Int32} (hv : v = x) (k : WA Ly l own cc nL ret kd r S1 pc lo (.int v :: st) S) : WA Ly l own cc nL ret kd r S1 pc lo (.int x :: st) S := hv ▸ k
theorem zrem_fold {x y : Int32} (k : WA Ly l own cc nL ret kd r S1 pc lo (.int (zrem x y) :: st) S) : WA Ly l own cc nL ret kd r S1 pc lo (.int (x - x / y * y) :: st) S := k
theorem z_callVi {y : MethodName} {cc' : ByteArray} {nL' n kd' idx b ci N : Nat} {ks : List (Nat ⊕ Nat)} {T : u_T} {ret' : Option FieldType} {x : Int32} (as : List Value) (hd : decode cc pc = .ok (.invokevirtual idx, 3)) (hl0 : Cond.methodLink own idx y ∈ ztbl) (hm : zMv y cc' nL' ret' n) (hk : kd' + 1 ≤ kd) (hb : Ly[b]? = some (.inr (ci, ks))) (hC : vwCl[ci]? = some (y.cls, T, N)) (hc : zMet Ly l y cc' nL' ret' kd' (.ref b :: as) S (some (.int x)) S2) (hn : as.length = n) (hst : st0 = as.reverse ++ .ref b :: st) (hw : (st.map fun v => v.category).sum ≤ 8) (k : WA Ly l own cc nL ret kd r S1 (pc + 3) lo (.int x :: st) S2) : WA Ly l own cc nL ret kd r S1 pc lo st0 S := z_callV as hd hl0 hm hk hb hC hc hn hst hw k
theorem z_callSi {y : MethodName} {cc' : ByteArray} {nL' n kd' idx : Nat} {ret' : Option FieldType} {x : Int32} (as : List Value) (hd : decode cc pc = .ok (.invokestatic idx, 3)) (hl0 : Cond.methodLink own idx y ∈ ztbl) (hm : zMs y cc' nL' ret' n) (hk : kd' + 1 ≤ kd) (hc : zMet Ly l y cc' nL' ret' kd' as S (some (.int x)) S2) (hn : as.length = n) (hst : st0 = as.reverse ++ st) (hw : (st.map fun v => v.category).sum ≤ 8) (k : WA Ly l own cc nL ret kd r S1 (pc + 3) lo (.int x :: st) S2) : WA Ly l own cc nL ret kd r S1 pc lo st0 S := z_callS as hd hl0 hm hk hc hn hst hw k
theorem z_callVv {y : MethodName} {cc' : ByteArray} {nL' n kd' idx b ci N : Nat} {ks : List (Nat ⊕ Nat)} {T : u_T} {ret' : Option FieldType} (as : List Value) (hd : decode cc pc = .ok (.invokevirtual idx, 3)) (hl0 : Cond.methodLink own idx y ∈ ztbl) (hm : zMv y cc' nL' ret' n) (hk : kd' + 1 ≤ kd) (hb : Ly[b]? = some (.inr (ci, ks))) (hC : vwCl[ci]? = some (y.cls, T, N)) (hc : zMet Ly l y cc' nL' ret' kd' (.ref b :: as) S none S2) (hn : as.length = n) (hst : st0 = as.reverse ++ .ref b :: st) (hw : (st.map fun v => v.category).sum ≤ 8) (k : WA Ly l own cc nL ret kd r S1 (pc + 3) lo st S2) : WA Ly l own cc nL ret kd r S1 pc lo st0 S := z_callV as hd hl0 hm hk hb hC hc hn hst hw k
theorem z_callSv {y : MethodName} {cc' : ByteArray} {nL' n kd' idx : Nat} {ret' : Option FieldType} (as : List Value) (hd : decode cc pc = .ok (.invokestatic idx, 3)) (hl0 : Cond.methodLink own idx y ∈ ztbl) (hm : zMs y cc' nL' ret' n) (hk : kd' + 1 ≤ kd) (hc : zMet Ly l y cc' nL' ret' kd' as S none S2) (hn : as.length = n) (hst : st0 = as.reverse ++ st) (hw : (st.map fun v => v.category).sum ≤ 8) (k : WA Ly l own cc nL ret kd r S1 (pc + 3) lo st S2) : WA Ly l own cc nL ret kd r S1 pc lo st0 S := z_callS as hd hl0 hm hk hc hn hst hw k
end ZV
theorem zci_m8 : Int32.ofInt (-8) = (-8) := by decide
theorem zci_m1 : Int32.ofInt (-1) = (-1) := by decide
theorem zci_0 : Int32.ofInt 0 = 0 := by decide
theorem zci_1 : Int32.ofInt 1 = 1 := by decide
theorem zci_2 : Int32.ofInt 2 = 2 := by decide
theorem zci_3 : Int32.ofInt 3 = 3 := by decide
theorem zci_4 : Int32.ofInt 4 = 4 := by decide
theorem zci_5 : Int32.ofInt 5 = 5 := by decide
theorem zcb_m100 : (Int8.ofInt (-100)).toInt32 = (-100) := by decide
theorem zcb_m16 : (Int8.ofInt (-16)).toInt32 = (-16) := by decide
theorem zcb_m15 : (Int8.ofInt (-15)).toInt32 = (-15) := by decide
theorem zcb_m14 : (Int8.ofInt (-14)).toInt32 = (-14) := by decide
theorem zcb_m13 : (Int8.ofInt (-13)).toInt32 = (-13) := by decide
theorem zcb_m12 : (Int8.ofInt (-12)).toInt32 = (-12) := by decide
theorem zcb_m11 : (Int8.ofInt (-11)).toInt32 = (-11) := by decide
theorem zcb_m10 : (Int8.ofInt (-10)).toInt32 = (-10) := by decide
theorem zcb_m9 : (Int8.ofInt (-9)).toInt32 = (-9) := by decide
theorem zcb_m8 : (Int8.ofInt (-8)).toInt32 = (-8) := by decide
theorem zcb_m7 : (Int8.ofInt (-7)).toInt32 = (-7) := by decide
theorem zcb_m6 : (Int8.ofInt (-6)).toInt32 = (-6) := by decide
theorem zcb_m5 : (Int8.ofInt (-5)).toInt32 = (-5) := by decide
theorem zcb_m4 : (Int8.ofInt (-4)).toInt32 = (-4) := by decide
theorem zcb_m3 : (Int8.ofInt (-3)).toInt32 = (-3) := by decide
theorem zcb_m2 : (Int8.ofInt (-2)).toInt32 = (-2) := by decide
theorem zcb_6 : (Int8.ofInt 6).toInt32 = 6 := by decide
theorem zcb_7 : (Int8.ofInt 7).toInt32 = 7 := by decide
theorem zcb_8 : (Int8.ofInt 8).toInt32 = 8 := by decide
theorem zcb_9 : (Int8.ofInt 9).toInt32 = 9 := by decide
theorem zcb_10 : (Int8.ofInt 10).toInt32 = 10 := by decide
theorem zcb_11 : (Int8.ofInt 11).toInt32 = 11 := by decide
theorem zcb_12 : (Int8.ofInt 12).toInt32 = 12 := by decide
theorem zcb_13 : (Int8.ofInt 13).toInt32 = 13 := by decide
theorem zcb_14 : (Int8.ofInt 14).toInt32 = 14 := by decide
theorem zcb_15 : (Int8.ofInt 15).toInt32 = 15 := by decide
theorem zcb_16 : (Int8.ofInt 16).toInt32 = 16 := by decide
theorem zcb_17 : (Int8.ofInt 17).toInt32 = 17 := by decide
theorem zcb_18 : (Int8.ofInt 18).toInt32 = 18 := by decide
theorem zcb_19 : (Int8.ofInt 19).toInt32 = 19 := by decide
theorem zcb_20 : (Int8.ofInt 20).toInt32 = 20 := by decide
theorem zcb_21 : (Int8.ofInt 21).toInt32 = 21 := by decide
theorem zcb_24 : (Int8.ofInt 24).toInt32 = 24 := by decide
theorem zcb_25 : (Int8.ofInt 25).toInt32 = 25 := by decide
theorem zcb_27 : (Int8.ofInt 27).toInt32 = 27 := by decide
theorem zcb_30 : (Int8.ofInt 30).toInt32 = 30 := by decide
theorem zcb_32 : (Int8.ofInt 32).toInt32 = 32 := by decide
theorem zcb_36 : (Int8.ofInt 36).toInt32 = 36 := by decide
theorem zcb_37 : (Int8.ofInt 37).toInt32 = 37 := by decide
theorem zcb_38 : (Int8.ofInt 38).toInt32 = 38 := by decide
theorem zcb_40 : (Int8.ofInt 40).toInt32 = 40 := by decide
theorem zcb_41 : (Int8.ofInt 41).toInt32 = 41 := by decide
theorem zcb_42 : (Int8.ofInt 42).toInt32 = 42 := by decide
theorem zcb_43 : (Int8.ofInt 43).toInt32 = 43 := by decide
theorem zcb_45 : (Int8.ofInt 45).toInt32 = 45 := by decide
theorem zcb_47 : (Int8.ofInt 47).toInt32 = 47 := by decide
theorem zcb_48 : (Int8.ofInt 48).toInt32 = 48 := by decide
theorem zcb_57 : (Int8.ofInt 57).toInt32 = 57 := by decide
theorem zcb_59 : (Int8.ofInt 59).toInt32 = 59 := by decide
theorem zcb_60 : (Int8.ofInt 60).toInt32 = 60 := by decide
theorem zcb_61 : (Int8.ofInt 61).toInt32 = 61 := by decide
theorem zcb_62 : (Int8.ofInt 62).toInt32 = 62 := by decide
theorem zcb_63 : (Int8.ofInt 63).toInt32 = 63 := by decide
theorem zcb_64 : (Int8.ofInt 64).toInt32 = 64 := by decide
theorem zcb_71 : (Int8.ofInt 71).toInt32 = 71 := by decide
theorem zcb_72 : (Int8.ofInt 72).toInt32 = 72 := by decide
theorem zcb_96 : (Int8.ofInt 96).toInt32 = 96 := by decide
theorem zcb_97 : (Int8.ofInt 97).toInt32 = 97 := by decide
theorem zcb_98 : (Int8.ofInt 98).toInt32 = 98 := by decide
theorem zcb_99 : (Int8.ofInt 99).toInt32 = 99 := by decide
theorem zcb_100 : (Int8.ofInt 100).toInt32 = 100 := by decide
theorem zcb_108 : (Int8.ofInt 108).toInt32 = 108 := by decide
theorem zcb_122 : (Int8.ofInt 122).toInt32 = 122 := by decide
theorem zcb_124 : (Int8.ofInt 124).toInt32 = 124 := by decide
theorem zcs_m1000 : (Int16.ofInt (-1000)).toInt32 = (-1000) := by decide
theorem zcs_137 : (Int16.ofInt 137).toInt32 = 137 := by decide
theorem zcs_160 : (Int16.ofInt 160).toInt32 = 160 := by decide
theorem zcs_255 : (Int16.ofInt 255).toInt32 = 255 := by decide
theorem zcs_272 : (Int16.ofInt 272).toInt32 = 272 := by decide
theorem zcs_297 : (Int16.ofInt 297).toInt32 = 297 := by decide
theorem zcs_320 : (Int16.ofInt 320).toInt32 = 320 := by decide
theorem zcs_999 : (Int16.ofInt 999).toInt32 = 999 := by decide
theorem zcs_1000 : (Int16.ofInt 1000).toInt32 = 1000 := by decide
theorem zcs_1107 : (Int16.ofInt 1107).toInt32 = 1107 := by decide
theorem zcs_1600 : (Int16.ofInt 1600).toInt32 = 1600 := by decide
theorem zcs_3861 : (Int16.ofInt 3861).toInt32 = 3861 := by decide
theorem zcs_3960 : (Int16.ofInt 3960).toInt32 = 3960 := by decide
