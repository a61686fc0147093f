section RD
variable {h : zH} {n b : Nat} {xs : Nat → Int32}
theorem ob_0 (F : Fr h n b xs) : zob h n 11 = true := zob_of (fr_0 F)
theorem rd_0_0 (F : Fr h n b xs) : gR h n 11 0 = some (n + 1) := gR_of (fr_0 F) rfl
theorem rd_0_1 (F : Fr h n b xs) : gR h n 11 1 = some (n + 2) := gR_of (fr_0 F) rfl
theorem rd_0_2 (F : Fr h n b xs) : gR h n 11 2 = some (n + 3) := gR_of (fr_0 F) rfl
theorem rd_0_3 (F : Fr h n b xs) : gR h n 11 3 = some (n + 6) := gR_of (fr_0 F) rfl
theorem rd_0_4 (F : Fr h n b xs) : gR h n 11 4 = some (n + 10) := gR_of (fr_0 F) rfl
theorem rd_0_5 (F : Fr h n b xs) : gR h n 11 5 = some (n + 14) := gR_of (fr_0 F) rfl
theorem rd_0_6 (F : Fr h n b xs) : gR h n 11 6 = some (n + 20) := gR_of (fr_0 F) rfl
theorem rd_0_7 (F : Fr h n b xs) : gR h n 11 7 = some (n + 25) := gR_of (fr_0 F) rfl
theorem rd_0_8 (F : Fr h n b xs) : gR h n 11 8 = some (n + 30) := gR_of (fr_0 F) rfl
theorem rd_0_9 (F : Fr h n b xs) : gR h n 11 9 = some (n + 33) := gR_of (fr_0 F) rfl
theorem rd_0_10 (F : Fr h n b xs) : gI h n 11 10 = some 0 := gI_of (fr_0 F) rfl
theorem rd_0_11 (F : Fr h n b xs) : gI h n 11 11 = some 0 := gI_of (fr_0 F) rfl
theorem rd_0_12 (F : Fr h n b xs) : gI h n 11 12 = some (-1) := gI_of (fr_0 F) rfl
theorem ob_2 (F : Fr h n b xs) : zob h (n + 2) 8 = true := zob_of (fr_2 F)
theorem rd_2_0 (F : Fr h n b xs) : gI h (n + 2) 8 0 = some 0 := gI_of (fr_2 F) rfl
theorem rd_2_1 (F : Fr h n b xs) : gI h (n + 2) 8 1 = some 0 := gI_of (fr_2 F) rfl
theorem rd_2_2 (F : Fr h n b xs) : gI h (n + 2) 8 2 = some 0 := gI_of (fr_2 F) rfl
theorem rd_2_3 (F : Fr h n b xs) : gI h (n + 2) 8 3 = some 0 := gI_of (fr_2 F) rfl
theorem rd_2_4 (F : Fr h n b xs) : gI h (n + 2) 8 4 = some 0 := gI_of (fr_2 F) rfl
theorem rd_2_5 (F : Fr h n b xs) : gI h (n + 2) 8 5 = some 0 := gI_of (fr_2 F) rfl
theorem rd_2_6 (F : Fr h n b xs) : gI h (n + 2) 8 6 = some 0 := gI_of (fr_2 F) rfl
theorem ob_3 (F : Fr h n b xs) : zob h (n + 3) 9 = true := zob_of (fr_3 F)
theorem rd_3_0 (F : Fr h n b xs) : gR h (n + 3) 9 0 = some (n + 4) := gR_of (fr_3 F) rfl
theorem rd_3_1 (F : Fr h n b xs) : gR h (n + 3) 9 1 = some (n + 5) := gR_of (fr_3 F) rfl
theorem rd_3_2 (F : Fr h n b xs) : gI h (n + 3) 9 2 = some 0 := gI_of (fr_3 F) rfl
theorem rd_3_3 (F : Fr h n b xs) : gI h (n + 3) 9 3 = some 0 := gI_of (fr_3 F) rfl
theorem rd_3_4 (F : Fr h n b xs) : gI h (n + 3) 9 4 = some 0 := gI_of (fr_3 F) rfl
theorem rd_3_5 (F : Fr h n b xs) : gI h (n + 3) 9 5 = some 0 := gI_of (fr_3 F) rfl
theorem rd_3_6 (F : Fr h n b xs) : gI h (n + 3) 9 6 = some 0 := gI_of (fr_3 F) rfl
theorem rd_3_7 (F : Fr h n b xs) : gL h (n + 3) 9 7 = some 0 := gL_of (fr_3 F) rfl
theorem ob_6 (F : Fr h n b xs) : zob h (n + 6) 7 = true := zob_of (fr_6 F)
theorem rd_6_0 (F : Fr h n b xs) : gR h (n + 6) 7 0 = some (n + 7) := gR_of (fr_6 F) rfl
theorem rd_6_1 (F : Fr h n b xs) : gR h (n + 6) 7 1 = some (n + 8) := gR_of (fr_6 F) rfl
theorem rd_6_2 (F : Fr h n b xs) : gR h (n + 6) 7 2 = some (n + 9) := gR_of (fr_6 F) rfl
theorem rd_6_4 (F : Fr h n b xs) : gI h (n + 6) 7 4 = some 0 := gI_of (fr_6 F) rfl
theorem rd_6_5 (F : Fr h n b xs) : gI h (n + 6) 7 5 = some 0 := gI_of (fr_6 F) rfl
theorem rd_6_6 (F : Fr h n b xs) : gI h (n + 6) 7 6 = some 0 := gI_of (fr_6 F) rfl
theorem rd_6_7 (F : Fr h n b xs) : gI h (n + 6) 7 7 = some 0 := gI_of (fr_6 F) rfl
theorem rd_6_8 (F : Fr h n b xs) : gI h (n + 6) 7 8 = some 0 := gI_of (fr_6 F) rfl
theorem ob_10 (F : Fr h n b xs) : zob h (n + 10) 1 = true := zob_of (fr_10 F)
theorem rd_10_0 (F : Fr h n b xs) : gR h (n + 10) 1 0 = some (n + 11) := gR_of (fr_10 F) rfl
theorem rd_10_1 (F : Fr h n b xs) : gR h (n + 10) 1 1 = some (n + 12) := gR_of (fr_10 F) rfl
theorem rd_10_2 (F : Fr h n b xs) : gR h (n + 10) 1 2 = some (n + 13) := gR_of (fr_10 F) rfl
theorem rd_10_3 (F : Fr h n b xs) : gI h (n + 10) 1 3 = some 0 := gI_of (fr_10 F) rfl
theorem rd_10_4 (F : Fr h n b xs) : gI h (n + 10) 1 4 = some 0 := gI_of (fr_10 F) rfl
theorem rd_10_5 (F : Fr h n b xs) : gI h (n + 10) 1 5 = some 0 := gI_of (fr_10 F) rfl
theorem rd_10_6 (F : Fr h n b xs) : gI h (n + 10) 1 6 = some 0 := gI_of (fr_10 F) rfl
theorem rd_10_7 (F : Fr h n b xs) : gI h (n + 10) 1 7 = some 0 := gI_of (fr_10 F) rfl
theorem rd_10_8 (F : Fr h n b xs) : gI h (n + 10) 1 8 = some 0 := gI_of (fr_10 F) rfl
theorem rd_10_9 (F : Fr h n b xs) : gI h (n + 10) 1 9 = some 0 := gI_of (fr_10 F) rfl
theorem rd_10_10 (F : Fr h n b xs) : gI h (n + 10) 1 10 = some 0 := gI_of (fr_10 F) rfl
theorem ob_14 (F : Fr h n b xs) : zob h (n + 14) 0 = true := zob_of (fr_14 F)
theorem rd_14_0 (F : Fr h n b xs) : gR h (n + 14) 0 0 = some (n + 15) := gR_of (fr_14 F) rfl
theorem rd_14_1 (F : Fr h n b xs) : gR h (n + 14) 0 1 = some (n + 16) := gR_of (fr_14 F) rfl
theorem rd_14_2 (F : Fr h n b xs) : gR h (n + 14) 0 2 = some (n + 17) := gR_of (fr_14 F) rfl
theorem rd_14_3 (F : Fr h n b xs) : gR h (n + 14) 0 3 = some (n + 18) := gR_of (fr_14 F) rfl
theorem rd_14_4 (F : Fr h n b xs) : gR h (n + 14) 0 4 = some (n + 19) := gR_of (fr_14 F) rfl
theorem rd_14_5 (F : Fr h n b xs) : gI h (n + 14) 0 5 = some 0 := gI_of (fr_14 F) rfl
theorem rd_14_6 (F : Fr h n b xs) : gI h (n + 14) 0 6 = some 0 := gI_of (fr_14 F) rfl
theorem ob_20 (F : Fr h n b xs) : zob h (n + 20) 2 = true := zob_of (fr_20 F)
theorem rd_20_0 (F : Fr h n b xs) : gR h (n + 20) 2 0 = some (n + 21) := gR_of (fr_20 F) rfl
theorem rd_20_1 (F : Fr h n b xs) : gR h (n + 20) 2 1 = some (n + 22) := gR_of (fr_20 F) rfl
theorem rd_20_2 (F : Fr h n b xs) : gR h (n + 20) 2 2 = some (n + 23) := gR_of (fr_20 F) rfl
theorem rd_20_3 (F : Fr h n b xs) : gR h (n + 20) 2 3 = some (n + 24) := gR_of (fr_20 F) rfl
theorem rd_20_4 (F : Fr h n b xs) : gI h (n + 20) 2 4 = some 0 := gI_of (fr_20 F) rfl
theorem rd_20_5 (F : Fr h n b xs) : gI h (n + 20) 2 5 = some 0 := gI_of (fr_20 F) rfl
theorem rd_20_6 (F : Fr h n b xs) : gI h (n + 20) 2 6 = some 0 := gI_of (fr_20 F) rfl
theorem rd_20_7 (F : Fr h n b xs) : gI h (n + 20) 2 7 = some 0 := gI_of (fr_20 F) rfl
theorem ob_25 (F : Fr h n b xs) : zob h (n + 25) 3 = true := zob_of (fr_25 F)
theorem rd_25_0 (F : Fr h n b xs) : gR h (n + 25) 3 0 = some (n + 26) := gR_of (fr_25 F) rfl
theorem rd_25_1 (F : Fr h n b xs) : gR h (n + 25) 3 1 = some (n + 27) := gR_of (fr_25 F) rfl
theorem rd_25_2 (F : Fr h n b xs) : gR h (n + 25) 3 2 = some (n + 28) := gR_of (fr_25 F) rfl
theorem rd_25_3 (F : Fr h n b xs) : gR h (n + 25) 3 3 = some (n + 29) := gR_of (fr_25 F) rfl
theorem rd_25_4 (F : Fr h n b xs) : gI h (n + 25) 3 4 = some 0 := gI_of (fr_25 F) rfl
theorem rd_25_5 (F : Fr h n b xs) : gI h (n + 25) 3 5 = some 0 := gI_of (fr_25 F) rfl
theorem rd_25_6 (F : Fr h n b xs) : gI h (n + 25) 3 6 = some 0 := gI_of (fr_25 F) rfl
theorem ob_30 (F : Fr h n b xs) : zob h (n + 30) 5 = true := zob_of (fr_30 F)
theorem rd_30_0 (F : Fr h n b xs) : gR h (n + 30) 5 0 = some (n + 31) := gR_of (fr_30 F) rfl
theorem rd_30_1 (F : Fr h n b xs) : gR h (n + 30) 5 1 = some (n + 32) := gR_of (fr_30 F) rfl
theorem ob_33 (F : Fr h n b xs) : zob h (n + 33) 10 = true := zob_of (fr_33 F)
theorem rd_33_0 (F : Fr h n b xs) : gR h (n + 33) 10 0 = some (n + 34) := gR_of (fr_33 F) rfl
theorem rd_33_1 (F : Fr h n b xs) : gR h (n + 33) 10 1 = some (n + 35) := gR_of (fr_33 F) rfl
theorem rd_33_2 (F : Fr h n b xs) : gR h (n + 33) 10 2 = some (n + 36) := gR_of (fr_33 F) rfl
theorem rd_33_3 (F : Fr h n b xs) : gR h (n + 33) 10 3 = some (n + 37) := gR_of (fr_33 F) rfl
theorem rd_33_4 (F : Fr h n b xs) : gR h (n + 33) 10 4 = some (n + 38) := gR_of (fr_33 F) rfl
theorem rd_33_5 (F : Fr h n b xs) : gR h (n + 33) 10 5 = some (n + 39) := gR_of (fr_33 F) rfl
theorem rd_33_6 (F : Fr h n b xs) : gR h (n + 33) 10 6 = some (n + 40) := gR_of (fr_33 F) rfl
theorem rd_33_7 (F : Fr h n b xs) : gR h (n + 33) 10 7 = some (n + 41) := gR_of (fr_33 F) rfl
theorem rd_33_8 (F : Fr h n b xs) : gI h (n + 33) 10 8 = some 1 := gI_of (fr_33 F) rfl
theorem rd_33_9 (F : Fr h n b xs) : gI h (n + 33) 10 9 = some 0 := gI_of (fr_33 F) rfl
theorem rd_33_10 (F : Fr h n b xs) : gI h (n + 33) 10 10 = some 0 := gI_of (fr_33 F) rfl
theorem ob_42 (F : G h n b xs) : zob h (n + 42) 12 = true := zob_of (fr_42 F)
theorem rd_42_0 (F : G h n b xs) : gI h (n + 42) 12 0 = some 0 := gI_of (fr_42 F) rfl
theorem rd_42_1 (F : G h n b xs) : gR h (n + 42) 12 1 = some (n + 43) := gR_of (fr_42 F) rfl
theorem rd_42_2 (F : G h n b xs) : gI h (n + 42) 12 2 = some 0 := gI_of (fr_42 F) rfl
theorem rd_42_3 (F : G h n b xs) : gI h (n + 42) 12 3 = some 0 := gI_of (fr_42 F) rfl
theorem rd_42_4 (F : G h n b xs) : gR h (n + 42) 12 4 = some (n + 44) := gR_of (fr_42 F) rfl
theorem rd_42_5 (F : G h n b xs) : gR h (n + 42) 12 5 = some (n + 45) := gR_of (fr_42 F) rfl
theorem rd_42_6 (F : G h n b xs) : gR h (n + 42) 12 6 = some (n + 46) := gR_of (fr_42 F) rfl
theorem rd_42_7 (F : G h n b xs) : gI h (n + 42) 12 7 = some 0 := gI_of (fr_42 F) rfl
theorem rd_42_8 (F : G h n b xs) : gI h (n + 42) 12 8 = some 0 := gI_of (fr_42 F) rfl
theorem rd_42_9 (F : G h n b xs) : gR h (n + 42) 12 9 = some (n + 47) := gR_of (fr_42 F) rfl
theorem rd_42_10 (F : G h n b xs) : gI h (n + 42) 12 10 = some 0 := gI_of (fr_42 F) rfl
theorem rd_42_11 (F : G h n b xs) : gR h (n + 42) 12 11 = some (n + 48) := gR_of (fr_42 F) rfl
theorem rd_42_12 (F : G h n b xs) : gR h (n + 42) 12 12 = some (n + 49) := gR_of (fr_42 F) rfl
theorem rd_42_13 (F : G h n b xs) : gR h (n + 42) 12 13 = some (n + 50) := gR_of (fr_42 F) rfl
theorem rd_42_14 (F : G h n b xs) : gR h (n + 42) 12 14 = some (n + 51) := gR_of (fr_42 F) rfl
theorem rd_42_15 (F : G h n b xs) : gR h (n + 42) 12 15 = some (n + 52) := gR_of (fr_42 F) rfl
theorem rd_42_16 (F : G h n b xs) : gR h (n + 42) 12 16 = some (n + 53) := gR_of (fr_42 F) rfl
theorem rd_42_17 (F : G h n b xs) : gI h (n + 42) 12 17 = some 0 := gI_of (fr_42 F) rfl
theorem rd_42_18 (F : G h n b xs) : gR h (n + 42) 12 18 = some (n + 54) := gR_of (fr_42 F) rfl
theorem rd_42_19 (F : G h n b xs) : gI h (n + 42) 12 19 = some 0 := gI_of (fr_42 F) rfl
theorem rd_42_20 (F : G h n b xs) : gR h (n + 42) 12 20 = some (n + 55) := gR_of (fr_42 F) rfl
theorem rd_42_21 (F : G h n b xs) : gR h (n + 42) 12 21 = some (n + 56) := gR_of (fr_42 F) rfl
theorem rd_42_22 (F : G h n b xs) : gR h (n + 42) 12 22 = some (n + 57) := gR_of (fr_42 F) rfl
theorem rd_42_23 (F : G h n b xs) : gR h (n + 42) 12 23 = some (n + 58) := gR_of (fr_42 F) rfl
theorem rd_42_24 (F : G h n b xs) : gR h (n + 42) 12 24 = some (n + 59) := gR_of (fr_42 F) rfl
theorem rd_42_25 (F : G h n b xs) : gI h (n + 42) 12 25 = some 0 := gI_of (fr_42 F) rfl
theorem rd_42_26 (F : G h n b xs) : gI h (n + 42) 12 26 = some (-1) := gI_of (fr_42 F) rfl
theorem rd_42_27 (F : G h n b xs) : gI h (n + 42) 12 27 = some 0 := gI_of (fr_42 F) rfl
theorem rd_42_28 (F : G h n b xs) : gR h (n + 42) 12 28 = some (n + 60) := gR_of (fr_42 F) rfl
theorem rd_42_29 (F : G h n b xs) : gR h (n + 42) 12 29 = some (n + 61) := gR_of (fr_42 F) rfl
theorem rd_42_30 (F : G h n b xs) : gR h (n + 42) 12 30 = some (n + 62) := gR_of (fr_42 F) rfl
theorem rd_42_31 (F : G h n b xs) : gR h (n + 42) 12 31 = some (n + 63) := gR_of (fr_42 F) rfl
theorem rd_42_32 (F : G h n b xs) : gR h (n + 42) 12 32 = some (n + 64) := gR_of (fr_42 F) rfl
theorem rd_42_33 (F : G h n b xs) : gR h (n + 42) 12 33 = some (n + 65) := gR_of (fr_42 F) rfl
theorem rd_42_34 (F : G h n b xs) : gR h (n + 42) 12 34 = some (n + 66) := gR_of (fr_42 F) rfl
theorem rd_42_35 (F : G h n b xs) : gR h (n + 42) 12 35 = some (n + 67) := gR_of (fr_42 F) rfl
theorem rd_42_36 (F : G h n b xs) : gR h (n + 42) 12 36 = some (n + 68) := gR_of (fr_42 F) rfl
theorem rd_42_37 (F : G h n b xs) : gR h (n + 42) 12 37 = some (n + 69) := gR_of (fr_42 F) rfl
theorem rd_42_38 (F : G h n b xs) : gR h (n + 42) 12 38 = some (n + 70) := gR_of (fr_42 F) rfl
theorem rd_42_39 (F : G h n b xs) : gR h (n + 42) 12 39 = some (n + 71) := gR_of (fr_42 F) rfl
theorem rd_42_40 (F : G h n b xs) : gR h (n + 42) 12 40 = some (n + 72) := gR_of (fr_42 F) rfl
theorem rd_42_41 (F : G h n b xs) : gR h (n + 42) 12 41 = some (n + 73) := gR_of (fr_42 F) rfl
theorem rd_42_42 (F : G h n b xs) : gI h (n + 42) 12 42 = some 0 := gI_of (fr_42 F) rfl
theorem rd_42_43 (F : G h n b xs) : gI h (n + 42) 12 43 = some 0 := gI_of (fr_42 F) rfl
theorem rd_42_44 (F : G h n b xs) : gI h (n + 42) 12 44 = some 0 := gI_of (fr_42 F) rfl
theorem rd_42_45 (F : G h n b xs) : gI h (n + 42) 12 45 = some 0 := gI_of (fr_42 F) rfl
theorem rd_42_46 (F : G h n b xs) : gI h (n + 42) 12 46 = some 0 := gI_of (fr_42 F) rfl
theorem rd_42_47 (F : G h n b xs) : gI h (n + 42) 12 47 = some 0 := gI_of (fr_42 F) rfl
theorem rd_42_48 (F : G h n b xs) : gI h (n + 42) 12 48 = some 0 := gI_of (fr_42 F) rfl
theorem rd_42_49 (F : G h n b xs) : gI h (n + 42) 12 49 = some 0 := gI_of (fr_42 F) rfl
theorem rd_42_50 (F : G h n b xs) : gR h (n + 42) 12 50 = some (n + 74) := gR_of (fr_42 F) rfl
theorem rd_42_51 (F : G h n b xs) : gR h (n + 42) 12 51 = some (n + 75) := gR_of (fr_42 F) rfl
theorem rd_42_52 (F : G h n b xs) : gR h (n + 42) 12 52 = some (n + 76) := gR_of (fr_42 F) rfl
theorem rd_42_53 (F : G h n b xs) : gR h (n + 42) 12 53 = some (n + 77) := gR_of (fr_42 F) rfl
theorem rd_42_54 (F : G h n b xs) : gR h (n + 42) 12 54 = some (n + 78) := gR_of (fr_42 F) rfl
theorem rd_42_55 (F : G h n b xs) : gR h (n + 42) 12 55 = some (n + 79) := gR_of (fr_42 F) rfl
theorem rd_42_56 (F : G h n b xs) : gR h (n + 42) 12 56 = some (n + 80) := gR_of (fr_42 F) rfl
theorem rd_42_57 (F : G h n b xs) : gR h (n + 42) 12 57 = some (n + 81) := gR_of (fr_42 F) rfl
theorem rd_42_58 (F : G h n b xs) : gR h (n + 42) 12 58 = some (n + 82) := gR_of (fr_42 F) rfl
theorem rd_42_59 (F : G h n b xs) : gR h (n + 42) 12 59 = some (n + 83) := gR_of (fr_42 F) rfl
theorem rd_42_60 (F : G h n b xs) : gR h (n + 42) 12 60 = some (n + 84) := gR_of (fr_42 F) rfl
theorem rd_42_61 (F : G h n b xs) : gR h (n + 42) 12 61 = some (n + 85) := gR_of (fr_42 F) rfl
theorem rd_42_62 (F : G h n b xs) : gR h (n + 42) 12 62 = some (n + 86) := gR_of (fr_42 F) rfl
theorem rd_42_63 (F : G h n b xs) : gI h (n + 42) 12 63 = some 0 := gI_of (fr_42 F) rfl
theorem rd_42_64 (F : G h n b xs) : gI h (n + 42) 12 64 = some 0 := gI_of (fr_42 F) rfl
theorem rd_42_65 (F : G h n b xs) : gI h (n + 42) 12 65 = some 0 := gI_of (fr_42 F) rfl
theorem rd_42_66 (F : G h n b xs) : gR h (n + 42) 12 66 = some (n + 87) := gR_of (fr_42 F) rfl
theorem rd_42_67 (F : G h n b xs) : gI h (n + 42) 12 67 = some 0 := gI_of (fr_42 F) rfl
theorem rd_42_68 (F : G h n b xs) : gR h (n + 42) 12 68 = some (n + 88) := gR_of (fr_42 F) rfl
theorem rd_42_69 (F : G h n b xs) : gR h (n + 42) 12 69 = some (n + 89) := gR_of (fr_42 F) rfl
theorem rd_42_70 (F : G h n b xs) : gR h (n + 42) 12 70 = some (n + 90) := gR_of (fr_42 F) rfl
theorem rd_42_71 (F : G h n b xs) : gR h (n + 42) 12 71 = some (n + 91) := gR_of (fr_42 F) rfl
theorem rd_42_72 (F : G h n b xs) : gR h (n + 42) 12 72 = some (n + 92) := gR_of (fr_42 F) rfl
theorem rd_42_73 (F : G h n b xs) : gR h (n + 42) 12 73 = some (n + 93) := gR_of (fr_42 F) rfl
theorem rd_42_74 (F : G h n b xs) : gR h (n + 42) 12 74 = some (n + 94) := gR_of (fr_42 F) rfl
theorem rd_42_75 (F : G h n b xs) : gR h (n + 42) 12 75 = some (n + 95) := gR_of (fr_42 F) rfl
theorem rd_42_76 (F : G h n b xs) : gI h (n + 42) 12 76 = some 0 := gI_of (fr_42 F) rfl
theorem rd_42_77 (F : G h n b xs) : gR h (n + 42) 12 77 = some (n + 96) := gR_of (fr_42 F) rfl
theorem rd_42_78 (F : G h n b xs) : gR h (n + 42) 12 78 = some (n + 97) := gR_of (fr_42 F) rfl
theorem rd_42_79 (F : G h n b xs) : gR h (n + 42) 12 79 = some (n + 98) := gR_of (fr_42 F) rfl
theorem sd_1 (F : G h n b xs) : aI h b 1 = some (xs 1) := sc_at F (by decide : 1 < 8)
theorem sd_2 (F : G h n b xs) : aI h b 2 = some (xs 2) := sc_at F (by decide : 2 < 8)
theorem sd_3 (F : G h n b xs) : aI h b 3 = some (xs 3) := sc_at F (by decide : 3 < 8)
theorem sd_4 (F : G h n b xs) : aI h b 4 = some (xs 4) := sc_at F (by decide : 4 < 8)
theorem sd_5 (F : G h n b xs) : aI h b 5 = some (xs 5) := sc_at F (by decide : 5 < 8)
theorem sd_6 (F : G h n b xs) : aI h b 6 = some (xs 6) := sc_at F (by decide : 6 < 8)
theorem sd_7 (F : G h n b xs) : aI h b 7 = some (xs 7) := sc_at F (by decide : 7 < 8)
theorem w12_eq (v lo hi : Int32) : p_X12_within v lo hi = if lo ≤ v ∧ v ≤ hi then 1 else 0 := by
  unfold p_X12_within
  have e1 : v < lo ↔ ¬ lo ≤ v := by rw [Int32.not_le]
  have e2 : hi < v ↔ ¬ v ≤ hi := by rw [Int32.not_le]
  by_cases h1 : lo ≤ v <;> by_cases h2 : v ≤ hi <;> simp [e1, e2, h1, h2]
theorem ite01 {p : Prop} [Decidable p] : ((if p then (1 : Int32) else 0) = 0) = ¬ p := by
  by_cases h : p <;> simp [h]
theorem w11 (v lo hi : Int32) : (p_X11_within v lo hi = 0) = ¬ (lo ≤ v ∧ v ≤ hi) := by rw [within_eq, ite01]
theorem w12 (v lo hi : Int32) : (p_X12_within v lo hi = 0) = ¬ (lo ≤ v ∧ v ≤ hi) := by rw [w12_eq, ite01]
theorem rZ_w (v lo hi : Int32) : rZ0 (p_X12_within v lo hi) = some (if lo ≤ v ∧ v ≤ hi then 1 else 0) := by
  rw [w12_eq]
  by_cases h : lo ≤ v ∧ v ≤ hi
  · rw [if_pos h]; rfl
  · rw [if_neg h]; rfl
theorem mOf {N : Nat} (F : Fr h n b xs) (v : Int32) : f_X11_meetingOf N n v h = some none := by
  unfold f_X11_meetingOf
  by_cases h1 : v < 0
  · rw [if_pos h1]
  · rw [if_neg h1, rd_0_10 F]
    show (if (0 : Int32) ≤ v then some none else _) = _
    rw [if_pos (Int32.not_lt.mp h1)]
theorem isM {N : Nat} (F : G h n b xs) (v : Int32) : f_X12_isMeeting N (n + 42) v h = some 0 := by
  unfold f_X12_isMeeting
  by_cases h1 : v < 0
  · rw [if_pos h1]
  · rw [if_neg h1, rd_42_27 F]
    show (if (0 : Int32) ≤ v then some 0 else _) = _
    rw [if_pos (Int32.not_lt.mp h1)]
theorem vNow {N : Nat} (F : Fr h n b xs) : f_X11_viewNow N n h = some 0 := by
  unfold f_X11_viewNow
  rw [rd_0_12 F, rd_0_11 F]
  rfl
theorem vYear {N : Nat} (F : G h n b xs) : f_X12_viewYear N (n + 42) h = some 0 := by
  unfold f_X12_viewYear
  rw [rd_42_26 F, rd_42_25 F]
  rfl
end RD
