/-! links by program -/
theorem w_m1 : w32 (-1) = (-1) := by decide
theorem w_0 : w32 0 = 0 := by decide
theorem w_1 : w32 1 = 1 := by decide
theorem w_2 : w32 2 = 2 := by decide
theorem w_3 : w32 3 = 3 := by decide
theorem w_4 : w32 4 = 4 := by decide
theorem w_5 : w32 5 = 5 := by decide
theorem w_6 : w32 6 = 6 := by decide
theorem w_7 : w32 7 = 7 := by decide
theorem w_8 : w32 8 = 8 := by decide
theorem w_9 : w32 9 = 9 := by decide
theorem w_10 : w32 10 = 10 := by decide
theorem w_11 : w32 11 = 11 := by decide
theorem w_12 : w32 12 = 12 := by decide
theorem w_15 : w32 15 = 15 := by decide
theorem w_16 : w32 16 = 16 := by decide
theorem w_20 : w32 20 = 20 := by decide
theorem w_21 : w32 21 = 21 := by decide
theorem w_22 : w32 22 = 22 := by decide
theorem w_24 : w32 24 = 24 := by decide
theorem w_25 : w32 25 = 25 := by decide
theorem w_26 : w32 26 = 26 := by decide
theorem w_32 : w32 32 = 32 := by decide
theorem w_33 : w32 33 = 33 := by decide
theorem w_37 : w32 37 = 37 := by decide
theorem w_40 : w32 40 = 40 := by decide
theorem w_42 : w32 42 = 42 := by decide
theorem w_43 : w32 43 = 43 := by decide
theorem w_45 : w32 45 = 45 := by decide
theorem w_47 : w32 47 = 47 := by decide
theorem w_48 : w32 48 = 48 := by decide
theorem w_57 : w32 57 = 57 := by decide
theorem w_58 : w32 58 = 58 := by decide
theorem w_63 : w32 63 = 63 := by decide
theorem w_64 : w32 64 = 64 := by decide
theorem w_65 : w32 65 = 65 := by decide
theorem w_67 : w32 67 = 67 := by decide
theorem w_68 : w32 68 = 68 := by decide
theorem w_69 : w32 69 = 69 := by decide
theorem w_70 : w32 70 = 70 := by decide
theorem w_71 : w32 71 = 71 := by decide
theorem w_76 : w32 76 = 76 := by decide
theorem w_77 : w32 77 = 77 := by decide
theorem w_79 : w32 79 = 79 := by decide
theorem w_80 : w32 80 = 80 := by decide
theorem w_81 : w32 81 = 81 := by decide
theorem w_82 : w32 82 = 82 := by decide
theorem w_83 : w32 83 = 83 := by decide
theorem w_84 : w32 84 = 84 := by decide
theorem w_85 : w32 85 = 85 := by decide
theorem w_86 : w32 86 = 86 := by decide
theorem w_88 : w32 88 = 88 := by decide
theorem w_90 : w32 90 = 90 := by decide
theorem w_97 : w32 97 = 97 := by decide
theorem w_100 : w32 100 = 100 := by decide
theorem w_122 : w32 122 = 122 := by decide
theorem w_123 : w32 123 = 123 := by decide
theorem w_125 : w32 125 = 125 := by decide
theorem w_126 : w32 126 = 126 := by decide
theorem w_127 : w32 127 = 127 := by decide
theorem w_128 : w32 128 = 128 := by decide
theorem w_192 : w32 192 = 192 := by decide
theorem w_200 : w32 200 = 200 := by decide
theorem w_240 : w32 240 = 240 := by decide
theorem w_250 : w32 250 = 250 := by decide
theorem w_255 : w32 255 = 255 := by decide
theorem w_300 : w32 300 = 300 := by decide
theorem w_384 : w32 384 = 384 := by decide
theorem w_500 : w32 500 = 500 := by decide
theorem w_640 : w32 640 = 640 := by decide
theorem w_1000 : w32 1000 = 1000 := by decide
theorem w_3072 : w32 3072 = 3072 := by decide
theorem w_4096 : w32 4096 = 4096 := by decide
theorem w_5000 : w32 5000 = 5000 := by decide
theorem w_15360 : w32 15360 = 15360 := by decide
theorem w_20000 : w32 20000 = 20000 := by decide
theorem w_24576 : w32 24576 = 24576 := by decide
theorem w_27648 : w32 27648 = 27648 := by decide
theorem w_100000 : w32 100000 = 100000 := by decide
theorem w_1000000 : w32 1000000 = 1000000 := by decide
theorem w_2000000 : w32 2000000 = 2000000 := by decide
theorem b8w_6 : (Int8.ofInt 6).toInt32 = Int32.ofInt 6 := by decide
theorem b8w_7 : (Int8.ofInt 7).toInt32 = Int32.ofInt 7 := by decide
theorem b8w_8 : (Int8.ofInt 8).toInt32 = Int32.ofInt 8 := by decide
theorem b8w_9 : (Int8.ofInt 9).toInt32 = Int32.ofInt 9 := by decide
theorem b8w_10 : (Int8.ofInt 10).toInt32 = Int32.ofInt 10 := by decide
theorem b8w_11 : (Int8.ofInt 11).toInt32 = Int32.ofInt 11 := by decide
theorem b8w_12 : (Int8.ofInt 12).toInt32 = Int32.ofInt 12 := by decide
theorem b8w_16 : (Int8.ofInt 16).toInt32 = Int32.ofInt 16 := by decide
theorem b8w_20 : (Int8.ofInt 20).toInt32 = Int32.ofInt 20 := by decide
theorem b8w_21 : (Int8.ofInt 21).toInt32 = Int32.ofInt 21 := by decide
theorem b8w_22 : (Int8.ofInt 22).toInt32 = Int32.ofInt 22 := by decide
theorem b8w_24 : (Int8.ofInt 24).toInt32 = Int32.ofInt 24 := by decide
theorem b8w_25 : (Int8.ofInt 25).toInt32 = Int32.ofInt 25 := by decide
theorem b8w_26 : (Int8.ofInt 26).toInt32 = Int32.ofInt 26 := by decide
theorem b8w_32 : (Int8.ofInt 32).toInt32 = Int32.ofInt 32 := by decide
theorem b8w_33 : (Int8.ofInt 33).toInt32 = Int32.ofInt 33 := by decide
theorem b8w_37 : (Int8.ofInt 37).toInt32 = Int32.ofInt 37 := by decide
theorem b8w_40 : (Int8.ofInt 40).toInt32 = Int32.ofInt 40 := by decide
theorem b8w_42 : (Int8.ofInt 42).toInt32 = Int32.ofInt 42 := by decide
theorem b8w_43 : (Int8.ofInt 43).toInt32 = Int32.ofInt 43 := by decide
theorem b8w_45 : (Int8.ofInt 45).toInt32 = Int32.ofInt 45 := by decide
theorem b8w_47 : (Int8.ofInt 47).toInt32 = Int32.ofInt 47 := by decide
theorem b8w_48 : (Int8.ofInt 48).toInt32 = Int32.ofInt 48 := by decide
theorem b8w_57 : (Int8.ofInt 57).toInt32 = Int32.ofInt 57 := by decide
theorem b8w_58 : (Int8.ofInt 58).toInt32 = Int32.ofInt 58 := by decide
theorem b8w_63 : (Int8.ofInt 63).toInt32 = Int32.ofInt 63 := by decide
theorem b8w_64 : (Int8.ofInt 64).toInt32 = Int32.ofInt 64 := by decide
theorem b8w_65 : (Int8.ofInt 65).toInt32 = Int32.ofInt 65 := by decide
theorem b8w_67 : (Int8.ofInt 67).toInt32 = Int32.ofInt 67 := by decide
theorem b8w_68 : (Int8.ofInt 68).toInt32 = Int32.ofInt 68 := by decide
theorem b8w_69 : (Int8.ofInt 69).toInt32 = Int32.ofInt 69 := by decide
theorem b8w_70 : (Int8.ofInt 70).toInt32 = Int32.ofInt 70 := by decide
theorem b8w_71 : (Int8.ofInt 71).toInt32 = Int32.ofInt 71 := by decide
theorem b8w_76 : (Int8.ofInt 76).toInt32 = Int32.ofInt 76 := by decide
theorem b8w_77 : (Int8.ofInt 77).toInt32 = Int32.ofInt 77 := by decide
theorem b8w_79 : (Int8.ofInt 79).toInt32 = Int32.ofInt 79 := by decide
theorem b8w_80 : (Int8.ofInt 80).toInt32 = Int32.ofInt 80 := by decide
theorem b8w_81 : (Int8.ofInt 81).toInt32 = Int32.ofInt 81 := by decide
theorem b8w_82 : (Int8.ofInt 82).toInt32 = Int32.ofInt 82 := by decide
theorem b8w_83 : (Int8.ofInt 83).toInt32 = Int32.ofInt 83 := by decide
theorem b8w_84 : (Int8.ofInt 84).toInt32 = Int32.ofInt 84 := by decide
theorem b8w_85 : (Int8.ofInt 85).toInt32 = Int32.ofInt 85 := by decide
theorem b8w_86 : (Int8.ofInt 86).toInt32 = Int32.ofInt 86 := by decide
theorem b8w_88 : (Int8.ofInt 88).toInt32 = Int32.ofInt 88 := by decide
theorem b8w_90 : (Int8.ofInt 90).toInt32 = Int32.ofInt 90 := by decide
theorem b8w_97 : (Int8.ofInt 97).toInt32 = Int32.ofInt 97 := by decide
theorem b8w_100 : (Int8.ofInt 100).toInt32 = Int32.ofInt 100 := by decide
theorem b8w_122 : (Int8.ofInt 122).toInt32 = Int32.ofInt 122 := by decide
theorem b8w_123 : (Int8.ofInt 123).toInt32 = Int32.ofInt 123 := by decide
theorem b8w_125 : (Int8.ofInt 125).toInt32 = Int32.ofInt 125 := by decide
theorem b8w_126 : (Int8.ofInt 126).toInt32 = Int32.ofInt 126 := by decide
theorem b8w_127 : (Int8.ofInt 127).toInt32 = Int32.ofInt 127 := by decide
theorem s16w_128 : (Int16.ofInt 128).toInt32 = Int32.ofInt 128 := by decide
theorem s16w_192 : (Int16.ofInt 192).toInt32 = Int32.ofInt 192 := by decide
theorem s16w_200 : (Int16.ofInt 200).toInt32 = Int32.ofInt 200 := by decide
theorem s16w_240 : (Int16.ofInt 240).toInt32 = Int32.ofInt 240 := by decide
theorem s16w_250 : (Int16.ofInt 250).toInt32 = Int32.ofInt 250 := by decide
theorem s16w_255 : (Int16.ofInt 255).toInt32 = Int32.ofInt 255 := by decide
theorem s16w_300 : (Int16.ofInt 300).toInt32 = Int32.ofInt 300 := by decide
theorem s16w_384 : (Int16.ofInt 384).toInt32 = Int32.ofInt 384 := by decide
theorem s16w_500 : (Int16.ofInt 500).toInt32 = Int32.ofInt 500 := by decide
theorem s16w_640 : (Int16.ofInt 640).toInt32 = Int32.ofInt 640 := by decide
theorem s16w_1000 : (Int16.ofInt 1000).toInt32 = Int32.ofInt 1000 := by decide
theorem s16w_3072 : (Int16.ofInt 3072).toInt32 = Int32.ofInt 3072 := by decide
theorem s16w_4096 : (Int16.ofInt 4096).toInt32 = Int32.ofInt 4096 := by decide
theorem s16w_5000 : (Int16.ofInt 5000).toInt32 = Int32.ofInt 5000 := by decide
theorem s16w_15360 : (Int16.ofInt 15360).toInt32 = Int32.ofInt 15360 := by decide
theorem s16w_20000 : (Int16.ofInt 20000).toInt32 = Int32.ofInt 20000 := by decide
theorem s16w_24576 : (Int16.ofInt 24576).toInt32 = Int32.ofInt 24576 := by decide
theorem s16w_27648 : (Int16.ofInt 27648).toInt32 = Int32.ofInt 27648 := by decide
def g_S : List gH := [.inr (0, [some (some 1), some (some 5), some (some 37), some (some 40), some (some 46)]), .inr (1, [some (some 2), some (some 3), some (some 4), none]), .inl (0, 300), .inl (0, 300), .inl (0, 8), .inr (2, [some (some 6), some (some 10), some (some 15), some (some 18), some (some 20), some (some 21), some (some 28), some (some 34), none, none, none, none, none]), .inr (1, [some (some 7), some (some 8), some (some 9), none]), .inl (0, 300), .inl (0, 300), .inl (0, 8), .inr (3, [some (some 11), some (some 12), some (some 13), some (some 14), none]), .inl (0, 21), .inl (0, 21), .inl (0, 21), .inl (0, 21), .inr (4, [some (some 16), some (some 17)]), .inl (3, 48), .inl (0, 64), .inr (5, [some (some 19), none]), .inl (0, 32), .inl (0, 26), .inr (6, [some (some 22), some (some 23), some (some 24), some (some 25), some (some 26), some (some 27), none]), .inl (0, 5), .inl (0, 5), .inl (0, 5), .inl (0, 5), .inl (0, 5), .inl (3, 240), .inr (7, [some (some 29), some (some 30), some (some 31), some (some 32), some (some 33), none, none, none]), .inl (0, 200), .inl (0, 200), .inl (1, 200), .inl (0, 25), .inl (0, 25), .inr (8, [some (some 35), some (some 36), none, none]), .inl (3, 384), .inl (3, 48), .inr (9, [some (some 38), some (some 39), none, none, none, none, none, none]), .inl (0, 32), .inl (1, 32), .inr (10, [some (some 37), some (some 41), some (some 42), some (some 43), some (some 44), some (some 45), none, none, none, none, none, none]), .inl (0, 4), .inl (0, 4), .inl (1, 4), .inl (1, 4), .inl (0, 4), .inr (11, [some (some 47), none, some (some 48)]), .inl (0, 128), .inl (0, 8), .inr (12, [none, some (some 50), some (some 51), none, none, none, none, none, none, none, none, none, none, none, some (some 52), some (some 53), some (some 54), none, some (some 55), some (some 56), some (some 57), some (some 58), none, none, none, none, none, none, none, some (some 59), some (some 60), some (some 61), none, some (some 62), some (some 63), some (some 64), none, some (some 65), some (some 66), none, none, none, none, none, none, none, none, none, some (some 67), some (some 68), some (some 69), some (some 70), some (some 71), some (some 72), some (some 73)]), .inl (0, 300), .inl (0, 300), .inl (0, 33), .inl (0, 26), .inl (1, 33), .inl (0, 22), .inl (0, 22), .inl (0, 22), .inl (0, 22), .inl (0, 200), .inl (0, 200), .inl (1, 200), .inl (0, 25), .inl (1, 15360), .inl (1, 27648), .inl (1, 3072), .inl (0, 640), .inl (0, 4), .inl (0, 4), .inl (0, 4), .inl (0, 40), .inl (1, 4), .inl (1, 4), .inl (1, 40), .inl (3, 1)]
theorem g_S_ne : g_S ≠ [] := by intro h; cases h
theorem sh_0 : g_S[0]? = some (.inr (0, [some (some 1), some (some 5), some (some 37), some (some 40), some (some 46)])) := rfl
theorem sh_1 : g_S[1]? = some (.inr (1, [some (some 2), some (some 3), some (some 4), none])) := rfl
theorem sh_2 : g_S[2]? = some (.inl (0, 300)) := rfl
theorem sh_3 : g_S[3]? = some (.inl (0, 300)) := rfl
theorem sh_4 : g_S[4]? = some (.inl (0, 8)) := rfl
theorem sh_5 : g_S[5]? = some (.inr (2, [some (some 6), some (some 10), some (some 15), some (some 18), some (some 20), some (some 21), some (some 28), some (some 34), none, none, none, none, none])) := rfl
theorem sh_6 : g_S[6]? = some (.inr (1, [some (some 7), some (some 8), some (some 9), none])) := rfl
theorem sh_7 : g_S[7]? = some (.inl (0, 300)) := rfl
theorem sh_8 : g_S[8]? = some (.inl (0, 300)) := rfl
theorem sh_9 : g_S[9]? = some (.inl (0, 8)) := rfl
theorem sh_10 : g_S[10]? = some (.inr (3, [some (some 11), some (some 12), some (some 13), some (some 14), none])) := rfl
theorem sh_11 : g_S[11]? = some (.inl (0, 21)) := rfl
theorem sh_12 : g_S[12]? = some (.inl (0, 21)) := rfl
theorem sh_13 : g_S[13]? = some (.inl (0, 21)) := rfl
theorem sh_14 : g_S[14]? = some (.inl (0, 21)) := rfl
theorem sh_15 : g_S[15]? = some (.inr (4, [some (some 16), some (some 17)])) := rfl
theorem sh_16 : g_S[16]? = some (.inl (3, 48)) := rfl
theorem sh_17 : g_S[17]? = some (.inl (0, 64)) := rfl
theorem sh_18 : g_S[18]? = some (.inr (5, [some (some 19), none])) := rfl
theorem sh_19 : g_S[19]? = some (.inl (0, 32)) := rfl
theorem sh_20 : g_S[20]? = some (.inl (0, 26)) := rfl
theorem sh_21 : g_S[21]? = some (.inr (6, [some (some 22), some (some 23), some (some 24), some (some 25), some (some 26), some (some 27), none])) := rfl
theorem sh_22 : g_S[22]? = some (.inl (0, 5)) := rfl
theorem sh_23 : g_S[23]? = some (.inl (0, 5)) := rfl
theorem sh_24 : g_S[24]? = some (.inl (0, 5)) := rfl
theorem sh_25 : g_S[25]? = some (.inl (0, 5)) := rfl
theorem sh_26 : g_S[26]? = some (.inl (0, 5)) := rfl
theorem sh_27 : g_S[27]? = some (.inl (3, 240)) := rfl
theorem sh_28 : g_S[28]? = some (.inr (7, [some (some 29), some (some 30), some (some 31), some (some 32), some (some 33), none, none, none])) := rfl
theorem sh_29 : g_S[29]? = some (.inl (0, 200)) := rfl
theorem sh_30 : g_S[30]? = some (.inl (0, 200)) := rfl
theorem sh_31 : g_S[31]? = some (.inl (1, 200)) := rfl
theorem sh_32 : g_S[32]? = some (.inl (0, 25)) := rfl
theorem sh_33 : g_S[33]? = some (.inl (0, 25)) := rfl
theorem sh_34 : g_S[34]? = some (.inr (8, [some (some 35), some (some 36), none, none])) := rfl
theorem sh_35 : g_S[35]? = some (.inl (3, 384)) := rfl
theorem sh_36 : g_S[36]? = some (.inl (3, 48)) := rfl
theorem sh_37 : g_S[37]? = some (.inr (9, [some (some 38), some (some 39), none, none, none, none, none, none])) := rfl
theorem sh_38 : g_S[38]? = some (.inl (0, 32)) := rfl
theorem sh_39 : g_S[39]? = some (.inl (1, 32)) := rfl
theorem sh_40 : g_S[40]? = some (.inr (10, [some (some 37), some (some 41), some (some 42), some (some 43), some (some 44), some (some 45), none, none, none, none, none, none])) := rfl
theorem sh_41 : g_S[41]? = some (.inl (0, 4)) := rfl
theorem sh_42 : g_S[42]? = some (.inl (0, 4)) := rfl
theorem sh_43 : g_S[43]? = some (.inl (1, 4)) := rfl
theorem sh_44 : g_S[44]? = some (.inl (1, 4)) := rfl
theorem sh_45 : g_S[45]? = some (.inl (0, 4)) := rfl
theorem sh_46 : g_S[46]? = some (.inr (11, [some (some 47), none, some (some 48)])) := rfl
theorem sh_47 : g_S[47]? = some (.inl (0, 128)) := rfl
theorem sh_48 : g_S[48]? = some (.inl (0, 8)) := rfl
theorem sh_49 : g_S[49]? = some (.inr (12, [none, some (some 50), some (some 51), none, none, none, none, none, none, none, none, none, none, none, some (some 52), some (some 53), some (some 54), none, some (some 55), some (some 56), some (some 57), some (some 58), none, none, none, none, none, none, none, some (some 59), some (some 60), some (some 61), none, some (some 62), some (some 63), some (some 64), none, some (some 65), some (some 66), none, none, none, none, none, none, none, none, none, some (some 67), some (some 68), some (some 69), some (some 70), some (some 71), some (some 72), some (some 73)])) := rfl
theorem sh_50 : g_S[50]? = some (.inl (0, 300)) := rfl
theorem sh_51 : g_S[51]? = some (.inl (0, 300)) := rfl
theorem sh_52 : g_S[52]? = some (.inl (0, 33)) := rfl
theorem sh_53 : g_S[53]? = some (.inl (0, 26)) := rfl
theorem sh_54 : g_S[54]? = some (.inl (1, 33)) := rfl
theorem sh_55 : g_S[55]? = some (.inl (0, 22)) := rfl
theorem sh_56 : g_S[56]? = some (.inl (0, 22)) := rfl
theorem sh_57 : g_S[57]? = some (.inl (0, 22)) := rfl
theorem sh_58 : g_S[58]? = some (.inl (0, 22)) := rfl
theorem sh_59 : g_S[59]? = some (.inl (0, 200)) := rfl
theorem sh_60 : g_S[60]? = some (.inl (0, 200)) := rfl
theorem sh_61 : g_S[61]? = some (.inl (1, 200)) := rfl
theorem sh_62 : g_S[62]? = some (.inl (0, 25)) := rfl
theorem sh_63 : g_S[63]? = some (.inl (1, 15360)) := rfl
theorem sh_64 : g_S[64]? = some (.inl (1, 27648)) := rfl
theorem sh_65 : g_S[65]? = some (.inl (1, 3072)) := rfl
theorem sh_66 : g_S[66]? = some (.inl (0, 640)) := rfl
theorem sh_67 : g_S[67]? = some (.inl (0, 4)) := rfl
theorem sh_68 : g_S[68]? = some (.inl (0, 4)) := rfl
theorem sh_69 : g_S[69]? = some (.inl (0, 4)) := rfl
theorem sh_70 : g_S[70]? = some (.inl (0, 40)) := rfl
theorem sh_71 : g_S[71]? = some (.inl (1, 4)) := rfl
theorem sh_72 : g_S[72]? = some (.inl (1, 4)) := rfl
theorem sh_73 : g_S[73]? = some (.inl (1, 40)) := rfl
theorem sh_74 : g_S[74]? = some (.inl (3, 1)) := rfl
theorem fl_0_10 : g_fl "BandPress" 10 0 0 := ⟨R_0, F_0, 5, rfl, by decide, Or.inl (g_Tm 451 (by decide +kernel) rfl)⟩
theorem fl_0_19 : g_fl "BandPress" 19 0 1 := ⟨R_0, F_0, 5, rfl, by decide, Or.inl (g_Tm 452 (by decide +kernel) rfl)⟩
theorem fl_0_26 : g_fl "BandPress" 26 0 2 := ⟨R_0, F_0, 5, rfl, by decide, Or.inl (g_Tm 453 (by decide +kernel) rfl)⟩
theorem fl_0_35 : g_fl "BandPress" 35 0 3 := ⟨R_0, F_0, 5, rfl, by decide, Or.inl (g_Tm 454 (by decide +kernel) rfl)⟩
theorem fl_0_42 : g_fl "BandPress" 42 0 4 := ⟨R_0, F_0, 5, rfl, by decide, Or.inl (g_Tm 455 (by decide +kernel) rfl)⟩
theorem fl_0_83 : g_fl "BandPress" 83 2 7 := ⟨R_2, F_2, 13, rfl, by decide, Or.inl (g_Tm 310 (by decide +kernel) rfl)⟩
theorem fl_0_87 : g_fl "BandPress" 87 8 2 := ⟨R_8, F_8, 4, rfl, by decide, Or.inl (g_Tm 285 (by decide +kernel) rfl)⟩
theorem fl_0_97 : g_fl "BandPress" 97 2 9 := ⟨R_2, F_2, 13, rfl, by decide, Or.inl (g_Tm 314 (by decide +kernel) rfl)⟩
theorem fl_0_100 : g_fl "BandPress" 100 2 8 := ⟨R_2, F_2, 13, rfl, by decide, Or.inl (g_Tm 312 (by decide +kernel) rfl)⟩
theorem fl_0_103 : g_fl "BandPress" 103 2 10 := ⟨R_2, F_2, 13, rfl, by decide, Or.inl (g_Tm 316 (by decide +kernel) rfl)⟩
theorem fl_0_106 : g_fl "BandPress" 106 2 11 := ⟨R_2, F_2, 13, rfl, by decide, Or.inl (g_Tm 318 (by decide +kernel) rfl)⟩
theorem fl_0_109 : g_fl "BandPress" 109 8 3 := ⟨R_8, F_8, 4, rfl, by decide, Or.inl (g_Tm 286 (by decide +kernel) rfl)⟩
theorem fl_0_112 : g_fl "BandPress" 112 2 3 := ⟨R_2, F_2, 13, rfl, by decide, Or.inl (g_Tm 302 (by decide +kernel) rfl)⟩
theorem fl_0_116 : g_fl "BandPress" 116 5 1 := ⟨R_5, F_5, 2, rfl, by decide, Or.inl (g_Tm 199 (by decide +kernel) rfl)⟩
theorem fl_0_121 : g_fl "BandPress" 121 2 6 := ⟨R_2, F_2, 13, rfl, by decide, Or.inl (g_Tm 308 (by decide +kernel) rfl)⟩
theorem fl_0_125 : g_fl "BandPress" 125 7 5 := ⟨R_7, F_7, 8, rfl, by decide, Or.inl (g_Tm 254 (by decide +kernel) rfl)⟩
theorem fl_0_128 : g_fl "BandPress" 128 2 5 := ⟨R_2, F_2, 13, rfl, by decide, Or.inl (g_Tm 306 (by decide +kernel) rfl)⟩
theorem fl_0_144 : g_fl "BandPress" 144 2 4 := ⟨R_2, F_2, 13, rfl, by decide, Or.inl (g_Tm 304 (by decide +kernel) rfl)⟩
theorem fl_0_160 : g_fl "BandPress" 160 11 1 := ⟨R_11, F_11, 3, rfl, by decide, Or.inl (g_Tm 442 (by decide +kernel) rfl)⟩
theorem fl_0_161 : g_fl "BandPress" 161 11 0 := ⟨R_11, F_11, 3, rfl, by decide, Or.inl (g_Tm 440 (by decide +kernel) rfl)⟩
theorem fl_0_172 : g_fl "BandPress" 172 10 3 := ⟨R_10, F_10, 12, rfl, by decide, Or.inl (g_Tm 394 (by decide +kernel) rfl)⟩
theorem fl_0_179 : g_fl "BandPress" 179 10 7 := ⟨R_10, F_10, 12, rfl, by decide, Or.inl (g_Tm 400 (by decide +kernel) rfl)⟩
theorem fl_0_182 : g_fl "BandPress" 182 10 8 := ⟨R_10, F_10, 12, rfl, by decide, Or.inl (g_Tm 402 (by decide +kernel) rfl)⟩
theorem fl_0_186 : g_fl "BandPress" 186 10 1 := ⟨R_10, F_10, 12, rfl, by decide, Or.inl (g_Tm 390 (by decide +kernel) rfl)⟩
theorem fl_0_189 : g_fl "BandPress" 189 10 2 := ⟨R_10, F_10, 12, rfl, by decide, Or.inl (g_Tm 392 (by decide +kernel) rfl)⟩
theorem fl_0_192 : g_fl "BandPress" 192 9 2 := ⟨R_9, F_9, 8, rfl, by decide, Or.inl (g_Tm 357 (by decide +kernel) rfl)⟩
theorem fl_0_195 : g_fl "BandPress" 195 9 0 := ⟨R_9, F_9, 8, rfl, by decide, Or.inl (g_Tm 354 (by decide +kernel) rfl)⟩
theorem fl_0_207 : g_fl "BandPress" 207 10 6 := ⟨R_10, F_10, 12, rfl, by decide, Or.inl (g_Tm 398 (by decide +kernel) rfl)⟩
theorem fl_0_210 : g_fl "BandPress" 210 9 3 := ⟨R_9, F_9, 8, rfl, by decide, Or.inl (g_Tm 360 (by decide +kernel) rfl)⟩
theorem fl_0_213 : g_fl "BandPress" 213 10 9 := ⟨R_10, F_10, 12, rfl, by decide, Or.inl (g_Tm 404 (by decide +kernel) rfl)⟩
theorem fl_0_216 : g_fl "BandPress" 216 10 10 := ⟨R_10, F_10, 12, rfl, by decide, Or.inl (g_Tm 406 (by decide +kernel) rfl)⟩
theorem fl_7_9 : g_fl "BandPress$Calls" 9 3 0 := ⟨R_3, F_3, 5, rfl, by decide, Or.inl (g_Tm 160 (by decide +kernel) rfl)⟩
theorem fl_7_15 : g_fl "BandPress$Calls" 15 3 1 := ⟨R_3, F_3, 5, rfl, by decide, Or.inl (g_Tm 161 (by decide +kernel) rfl)⟩
theorem fl_7_18 : g_fl "BandPress$Calls" 18 3 2 := ⟨R_3, F_3, 5, rfl, by decide, Or.inl (g_Tm 162 (by decide +kernel) rfl)⟩
theorem fl_7_21 : g_fl "BandPress$Calls" 21 3 3 := ⟨R_3, F_3, 5, rfl, by decide, Or.inl (g_Tm 163 (by decide +kernel) rfl)⟩
theorem fl_7_24 : g_fl "BandPress$Calls" 24 3 4 := ⟨R_3, F_3, 5, rfl, by decide, Or.inl (g_Tm 164 (by decide +kernel) rfl)⟩
theorem fl_7_28 : g_fl "BandPress$Calls" 28 1 3 := ⟨R_1, F_1, 4, rfl, by decide, Or.inl (g_Tm 134 (by decide +kernel) rfl)⟩
theorem fl_11_9 : g_fl "BandPress$Filler" 9 4 0 := ⟨R_4, F_4, 2, rfl, by decide, Or.inl (g_Tm 182 (by decide +kernel) rfl)⟩
theorem fl_11_15 : g_fl "BandPress$Filler" 15 4 1 := ⟨R_4, F_4, 2, rfl, by decide, Or.inl (g_Tm 184 (by decide +kernel) rfl)⟩
theorem fl_11_27 : g_fl "BandPress$Filler" 27 7 5 := ⟨R_7, F_7, 8, rfl, by decide, Or.inl (g_Tm 253 (by decide +kernel) rfl)⟩
theorem fl_11_33 : g_fl "BandPress$Filler" 33 7 2 := ⟨R_7, F_7, 8, rfl, by decide, Or.inl (g_Tm 249 (by decide +kernel) rfl)⟩
theorem fl_11_37 : g_fl "BandPress$Filler" 37 7 1 := ⟨R_7, F_7, 8, rfl, by decide, Or.inl (g_Tm 247 (by decide +kernel) rfl)⟩
theorem fl_11_44 : g_fl "BandPress$Filler" 44 7 0 := ⟨R_7, F_7, 8, rfl, by decide, Or.inl (g_Tm 245 (by decide +kernel) rfl)⟩
theorem fl_6_12 : g_fl "BandPress$Job" 12 2 0 := ⟨R_2, F_2, 13, rfl, by decide, Or.inl (g_Tm 298 (by decide +kernel) rfl)⟩
theorem fl_6_21 : g_fl "BandPress$Job" 21 2 1 := ⟨R_2, F_2, 13, rfl, by decide, Or.inl (g_Tm 299 (by decide +kernel) rfl)⟩
theorem fl_6_28 : g_fl "BandPress$Job" 28 2 2 := ⟨R_2, F_2, 13, rfl, by decide, Or.inl (g_Tm 300 (by decide +kernel) rfl)⟩
theorem fl_6_35 : g_fl "BandPress$Job" 35 2 3 := ⟨R_2, F_2, 13, rfl, by decide, Or.inl (g_Tm 301 (by decide +kernel) rfl)⟩
theorem fl_6_39 : g_fl "BandPress$Job" 39 2 4 := ⟨R_2, F_2, 13, rfl, by decide, Or.inl (g_Tm 303 (by decide +kernel) rfl)⟩
theorem fl_6_46 : g_fl "BandPress$Job" 46 2 5 := ⟨R_2, F_2, 13, rfl, by decide, Or.inl (g_Tm 305 (by decide +kernel) rfl)⟩
theorem fl_6_53 : g_fl "BandPress$Job" 53 2 6 := ⟨R_2, F_2, 13, rfl, by decide, Or.inl (g_Tm 307 (by decide +kernel) rfl)⟩
theorem fl_6_60 : g_fl "BandPress$Job" 60 2 7 := ⟨R_2, F_2, 13, rfl, by decide, Or.inl (g_Tm 309 (by decide +kernel) rfl)⟩
theorem fl_6_64 : g_fl "BandPress$Job" 64 2 8 := ⟨R_2, F_2, 13, rfl, by decide, Or.inl (g_Tm 311 (by decide +kernel) rfl)⟩
theorem fl_6_92 : g_fl "BandPress$Job" 92 2 9 := ⟨R_2, F_2, 13, rfl, by decide, Or.inl (g_Tm 313 (by decide +kernel) rfl)⟩
theorem fl_6_98 : g_fl "BandPress$Job" 98 2 11 := ⟨R_2, F_2, 13, rfl, by decide, Or.inl (g_Tm 317 (by decide +kernel) rfl)⟩
theorem fl_6_101 : g_fl "BandPress$Job" 101 2 12 := ⟨R_2, F_2, 13, rfl, by decide, Or.inl (g_Tm 319 (by decide +kernel) rfl)⟩
theorem fl_6_138 : g_fl "BandPress$Job" 138 5 1 := ⟨R_5, F_5, 2, rfl, by decide, Or.inl (g_Tm 200 (by decide +kernel) rfl)⟩
theorem fl_6_155 : g_fl "BandPress$Job" 155 7 5 := ⟨R_7, F_7, 8, rfl, by decide, Or.inl (g_Tm 255 (by decide +kernel) rfl)⟩
theorem fl_6_218 : g_fl "BandPress$Job" 218 8 3 := ⟨R_8, F_8, 4, rfl, by decide, Or.inl (g_Tm 288 (by decide +kernel) rfl)⟩
theorem fl_6_221 : g_fl "BandPress$Job" 221 4 0 := ⟨R_4, F_4, 2, rfl, by decide, Or.inl (g_Tm 183 (by decide +kernel) rfl)⟩
theorem fl_5_9 : g_fl "BandPress$Machine" 9 10 1 := ⟨R_10, F_10, 12, rfl, by decide, Or.inl (g_Tm 389 (by decide +kernel) rfl)⟩
theorem fl_5_15 : g_fl "BandPress$Machine" 15 10 2 := ⟨R_10, F_10, 12, rfl, by decide, Or.inl (g_Tm 391 (by decide +kernel) rfl)⟩
theorem fl_5_18 : g_fl "BandPress$Machine" 18 10 3 := ⟨R_10, F_10, 12, rfl, by decide, Or.inl (g_Tm 393 (by decide +kernel) rfl)⟩
theorem fl_5_22 : g_fl "BandPress$Machine" 22 10 4 := ⟨R_10, F_10, 12, rfl, by decide, Or.inl (g_Tm 395 (by decide +kernel) rfl)⟩
theorem fl_5_25 : g_fl "BandPress$Machine" 25 10 5 := ⟨R_10, F_10, 12, rfl, by decide, Or.inl (g_Tm 396 (by decide +kernel) rfl)⟩
theorem fl_5_28 : g_fl "BandPress$Machine" 28 10 0 := ⟨R_10, F_10, 12, rfl, by decide, Or.inl (g_Tm 388 (by decide +kernel) rfl)⟩
theorem fl_5_32 : g_fl "BandPress$Machine" 32 10 8 := ⟨R_10, F_10, 12, rfl, by decide, Or.inl (g_Tm 401 (by decide +kernel) rfl)⟩
theorem fl_5_36 : g_fl "BandPress$Machine" 36 10 11 := ⟨R_10, F_10, 12, rfl, by decide, Or.inl (g_Tm 407 (by decide +kernel) rfl)⟩
theorem fl_5_48 : g_fl "BandPress$Machine" 48 10 7 := ⟨R_10, F_10, 12, rfl, by decide, Or.inl (g_Tm 399 (by decide +kernel) rfl)⟩
theorem fl_5_52 : g_fl "BandPress$Machine" 52 10 6 := ⟨R_10, F_10, 12, rfl, by decide, Or.inl (g_Tm 397 (by decide +kernel) rfl)⟩
theorem fl_5_59 : g_fl "BandPress$Machine" 59 10 9 := ⟨R_10, F_10, 12, rfl, by decide, Or.inl (g_Tm 403 (by decide +kernel) rfl)⟩
theorem fl_5_90 : g_fl "BandPress$Machine" 90 10 10 := ⟨R_10, F_10, 12, rfl, by decide, Or.inl (g_Tm 405 (by decide +kernel) rfl)⟩
theorem fl_5_117 : g_fl "BandPress$Machine" 117 9 3 := ⟨R_9, F_9, 8, rfl, by decide, Or.inl (g_Tm 359 (by decide +kernel) rfl)⟩
theorem fl_4_9 : g_fl "BandPress$Order" 9 9 0 := ⟨R_9, F_9, 8, rfl, by decide, Or.inl (g_Tm 353 (by decide +kernel) rfl)⟩
theorem fl_4_15 : g_fl "BandPress$Order" 15 9 1 := ⟨R_9, F_9, 8, rfl, by decide, Or.inl (g_Tm 355 (by decide +kernel) rfl)⟩
theorem fl_4_19 : g_fl "BandPress$Order" 19 9 4 := ⟨R_9, F_9, 8, rfl, by decide, Or.inl (g_Tm 361 (by decide +kernel) rfl)⟩
theorem fl_4_23 : g_fl "BandPress$Order" 23 9 5 := ⟨R_9, F_9, 8, rfl, by decide, Or.inl (g_Tm 362 (by decide +kernel) rfl)⟩
theorem fl_4_27 : g_fl "BandPress$Order" 27 9 6 := ⟨R_9, F_9, 8, rfl, by decide, Or.inl (g_Tm 363 (by decide +kernel) rfl)⟩
theorem fl_4_30 : g_fl "BandPress$Order" 30 9 7 := ⟨R_9, F_9, 8, rfl, by decide, Or.inl (g_Tm 364 (by decide +kernel) rfl)⟩
theorem fl_4_33 : g_fl "BandPress$Order" 33 9 3 := ⟨R_9, F_9, 8, rfl, by decide, Or.inl (g_Tm 358 (by decide +kernel) rfl)⟩
theorem fl_4_36 : g_fl "BandPress$Order" 36 9 2 := ⟨R_9, F_9, 8, rfl, by decide, Or.inl (g_Tm 356 (by decide +kernel) rfl)⟩
theorem fl_2_9 : g_fl "BandPress$Packer" 9 11 0 := ⟨R_11, F_11, 3, rfl, by decide, Or.inl (g_Tm 439 (by decide +kernel) rfl)⟩
theorem fl_2_15 : g_fl "BandPress$Packer" 15 11 2 := ⟨R_11, F_11, 3, rfl, by decide, Or.inl (g_Tm 443 (by decide +kernel) rfl)⟩
theorem fl_2_18 : g_fl "BandPress$Packer" 18 11 1 := ⟨R_11, F_11, 3, rfl, by decide, Or.inl (g_Tm 441 (by decide +kernel) rfl)⟩
theorem fl_1_9 : g_fl "BandPress$Pages" 9 8 0 := ⟨R_8, F_8, 4, rfl, by decide, Or.inl (g_Tm 282 (by decide +kernel) rfl)⟩
theorem fl_1_15 : g_fl "BandPress$Pages" 15 8 1 := ⟨R_8, F_8, 4, rfl, by decide, Or.inl (g_Tm 283 (by decide +kernel) rfl)⟩
theorem fl_1_18 : g_fl "BandPress$Pages" 18 8 2 := ⟨R_8, F_8, 4, rfl, by decide, Or.inl (g_Tm 284 (by decide +kernel) rfl)⟩
theorem fl_1_49 : g_fl "BandPress$Pages" 49 8 3 := ⟨R_8, F_8, 4, rfl, by decide, Or.inl (g_Tm 287 (by decide +kernel) rfl)⟩
theorem fl_10_9 : g_fl "BandPress$Path" 9 7 0 := ⟨R_7, F_7, 8, rfl, by decide, Or.inl (g_Tm 244 (by decide +kernel) rfl)⟩
theorem fl_10_15 : g_fl "BandPress$Path" 15 7 1 := ⟨R_7, F_7, 8, rfl, by decide, Or.inl (g_Tm 246 (by decide +kernel) rfl)⟩
theorem fl_10_18 : g_fl "BandPress$Path" 18 7 2 := ⟨R_7, F_7, 8, rfl, by decide, Or.inl (g_Tm 248 (by decide +kernel) rfl)⟩
theorem fl_10_22 : g_fl "BandPress$Path" 22 7 3 := ⟨R_7, F_7, 8, rfl, by decide, Or.inl (g_Tm 250 (by decide +kernel) rfl)⟩
theorem fl_10_25 : g_fl "BandPress$Path" 25 7 4 := ⟨R_7, F_7, 8, rfl, by decide, Or.inl (g_Tm 251 (by decide +kernel) rfl)⟩
theorem fl_10_28 : g_fl "BandPress$Path" 28 7 5 := ⟨R_7, F_7, 8, rfl, by decide, Or.inl (g_Tm 252 (by decide +kernel) rfl)⟩
theorem fl_10_32 : g_fl "BandPress$Path" 32 7 6 := ⟨R_7, F_7, 8, rfl, by decide, Or.inl (g_Tm 256 (by decide +kernel) rfl)⟩
theorem fl_10_35 : g_fl "BandPress$Path" 35 7 7 := ⟨R_7, F_7, 8, rfl, by decide, Or.inl (g_Tm 257 (by decide +kernel) rfl)⟩
theorem fl_3_9 : g_fl "BandPress$Settings" 9 6 0 := ⟨R_6, F_6, 7, rfl, by decide, Or.inl (g_Tm 216 (by decide +kernel) rfl)⟩
theorem fl_3_15 : g_fl "BandPress$Settings" 15 6 1 := ⟨R_6, F_6, 7, rfl, by decide, Or.inl (g_Tm 217 (by decide +kernel) rfl)⟩
theorem fl_3_18 : g_fl "BandPress$Settings" 18 6 2 := ⟨R_6, F_6, 7, rfl, by decide, Or.inl (g_Tm 218 (by decide +kernel) rfl)⟩
theorem fl_3_21 : g_fl "BandPress$Settings" 21 6 3 := ⟨R_6, F_6, 7, rfl, by decide, Or.inl (g_Tm 219 (by decide +kernel) rfl)⟩
theorem fl_3_24 : g_fl "BandPress$Settings" 24 6 4 := ⟨R_6, F_6, 7, rfl, by decide, Or.inl (g_Tm 220 (by decide +kernel) rfl)⟩
theorem fl_3_27 : g_fl "BandPress$Settings" 27 6 5 := ⟨R_6, F_6, 7, rfl, by decide, Or.inl (g_Tm 221 (by decide +kernel) rfl)⟩
theorem fl_3_39 : g_fl "BandPress$Settings" 39 6 6 := ⟨R_6, F_6, 7, rfl, by decide, Or.inl (g_Tm 222 (by decide +kernel) rfl)⟩
theorem fl_8_9 : g_fl "BandPress$Text" 9 1 0 := ⟨R_1, F_1, 4, rfl, by decide, Or.inl (g_Tm 131 (by decide +kernel) rfl)⟩
theorem fl_8_15 : g_fl "BandPress$Text" 15 1 1 := ⟨R_1, F_1, 4, rfl, by decide, Or.inl (g_Tm 132 (by decide +kernel) rfl)⟩
theorem fl_8_18 : g_fl "BandPress$Text" 18 1 2 := ⟨R_1, F_1, 4, rfl, by decide, Or.inl (g_Tm 133 (by decide +kernel) rfl)⟩
theorem fl_8_21 : g_fl "BandPress$Text" 21 1 3 := ⟨R_1, F_1, 4, rfl, by decide, Or.inl (g_Tm 135 (by decide +kernel) rfl)⟩
theorem fl_9_9 : g_fl "BandPress$Values" 9 5 0 := ⟨R_5, F_5, 2, rfl, by decide, Or.inl (g_Tm 197 (by decide +kernel) rfl)⟩
theorem fl_9_15 : g_fl "BandPress$Values" 15 5 1 := ⟨R_5, F_5, 2, rfl, by decide, Or.inl (g_Tm 198 (by decide +kernel) rfl)⟩
theorem fl_15_7 : g_fl "BandPressModel" 7 12 1 := ⟨R_12, F_12, 55, rfl, by decide, Or.inl (g_Tm 1284 (by decide +kernel) rfl)⟩
theorem fl_15_13 : g_fl "BandPressModel" 13 12 2 := ⟨R_12, F_12, 55, rfl, by decide, Or.inl (g_Tm 1285 (by decide +kernel) rfl)⟩
theorem fl_15_16 : g_fl "BandPressModel" 16 12 14 := ⟨R_12, F_12, 55, rfl, by decide, Or.inl (g_Tm 1297 (by decide +kernel) rfl)⟩
theorem fl_15_19 : g_fl "BandPressModel" 19 12 15 := ⟨R_12, F_12, 55, rfl, by decide, Or.inl (g_Tm 1298 (by decide +kernel) rfl)⟩
theorem fl_15_22 : g_fl "BandPressModel" 22 12 16 := ⟨R_12, F_12, 55, rfl, by decide, Or.inl (g_Tm 1299 (by decide +kernel) rfl)⟩
theorem fl_15_26 : g_fl "BandPressModel" 26 12 18 := ⟨R_12, F_12, 55, rfl, by decide, Or.inl (g_Tm 1301 (by decide +kernel) rfl)⟩
theorem fl_15_29 : g_fl "BandPressModel" 29 12 19 := ⟨R_12, F_12, 55, rfl, by decide, Or.inl (g_Tm 1302 (by decide +kernel) rfl)⟩
theorem fl_15_32 : g_fl "BandPressModel" 32 12 20 := ⟨R_12, F_12, 55, rfl, by decide, Or.inl (g_Tm 1303 (by decide +kernel) rfl)⟩
theorem fl_15_35 : g_fl "BandPressModel" 35 12 21 := ⟨R_12, F_12, 55, rfl, by decide, Or.inl (g_Tm 1304 (by decide +kernel) rfl)⟩
theorem fl_15_38 : g_fl "BandPressModel" 38 12 29 := ⟨R_12, F_12, 55, rfl, by decide, Or.inl (g_Tm 1312 (by decide +kernel) rfl)⟩
theorem fl_15_41 : g_fl "BandPressModel" 41 12 30 := ⟨R_12, F_12, 55, rfl, by decide, Or.inl (g_Tm 1313 (by decide +kernel) rfl)⟩
theorem fl_15_44 : g_fl "BandPressModel" 44 12 31 := ⟨R_12, F_12, 55, rfl, by decide, Or.inl (g_Tm 1314 (by decide +kernel) rfl)⟩
theorem fl_15_47 : g_fl "BandPressModel" 47 12 33 := ⟨R_12, F_12, 55, rfl, by decide, Or.inl (g_Tm 1316 (by decide +kernel) rfl)⟩
theorem fl_15_50 : g_fl "BandPressModel" 50 12 34 := ⟨R_12, F_12, 55, rfl, by decide, Or.inl (g_Tm 1317 (by decide +kernel) rfl)⟩
theorem fl_15_53 : g_fl "BandPressModel" 53 12 35 := ⟨R_12, F_12, 55, rfl, by decide, Or.inl (g_Tm 1318 (by decide +kernel) rfl)⟩
theorem fl_15_56 : g_fl "BandPressModel" 56 12 37 := ⟨R_12, F_12, 55, rfl, by decide, Or.inl (g_Tm 1320 (by decide +kernel) rfl)⟩
theorem fl_15_59 : g_fl "BandPressModel" 59 12 38 := ⟨R_12, F_12, 55, rfl, by decide, Or.inl (g_Tm 1321 (by decide +kernel) rfl)⟩
theorem fl_15_62 : g_fl "BandPressModel" 62 12 48 := ⟨R_12, F_12, 55, rfl, by decide, Or.inl (g_Tm 1331 (by decide +kernel) rfl)⟩
theorem fl_15_65 : g_fl "BandPressModel" 65 12 49 := ⟨R_12, F_12, 55, rfl, by decide, Or.inl (g_Tm 1332 (by decide +kernel) rfl)⟩
theorem fl_15_68 : g_fl "BandPressModel" 68 12 50 := ⟨R_12, F_12, 55, rfl, by decide, Or.inl (g_Tm 1333 (by decide +kernel) rfl)⟩
theorem fl_15_71 : g_fl "BandPressModel" 71 12 51 := ⟨R_12, F_12, 55, rfl, by decide, Or.inl (g_Tm 1334 (by decide +kernel) rfl)⟩
theorem fl_15_74 : g_fl "BandPressModel" 74 12 52 := ⟨R_12, F_12, 55, rfl, by decide, Or.inl (g_Tm 1335 (by decide +kernel) rfl)⟩
theorem fl_15_77 : g_fl "BandPressModel" 77 12 53 := ⟨R_12, F_12, 55, rfl, by decide, Or.inl (g_Tm 1336 (by decide +kernel) rfl)⟩
theorem fl_15_80 : g_fl "BandPressModel" 80 12 54 := ⟨R_12, F_12, 55, rfl, by decide, Or.inl (g_Tm 1337 (by decide +kernel) rfl)⟩
theorem fl_15_83 : g_fl "BandPressModel" 83 12 0 := ⟨R_12, F_12, 55, rfl, by decide, Or.inl (g_Tm 1283 (by decide +kernel) rfl)⟩
theorem fl_15_87 : g_fl "BandPressModel" 87 12 3 := ⟨R_12, F_12, 55, rfl, by decide, Or.inl (g_Tm 1286 (by decide +kernel) rfl)⟩
theorem fl_15_107 : g_fl "BandPressModel" 107 12 5 := ⟨R_12, F_12, 55, rfl, by decide, Or.inl (g_Tm 1288 (by decide +kernel) rfl)⟩
theorem fl_15_110 : g_fl "BandPressModel" 110 12 45 := ⟨R_12, F_12, 55, rfl, by decide, Or.inl (g_Tm 1328 (by decide +kernel) rfl)⟩
theorem fl_15_113 : g_fl "BandPressModel" 113 12 44 := ⟨R_12, F_12, 55, rfl, by decide, Or.inl (g_Tm 1327 (by decide +kernel) rfl)⟩
theorem fl_15_120 : g_fl "BandPressModel" 120 12 4 := ⟨R_12, F_12, 55, rfl, by decide, Or.inl (g_Tm 1287 (by decide +kernel) rfl)⟩
theorem fl_15_123 : g_fl "BandPressModel" 123 12 11 := ⟨R_12, F_12, 55, rfl, by decide, Or.inl (g_Tm 1294 (by decide +kernel) rfl)⟩
theorem fl_15_126 : g_fl "BandPressModel" 126 12 12 := ⟨R_12, F_12, 55, rfl, by decide, Or.inl (g_Tm 1295 (by decide +kernel) rfl)⟩
theorem fl_15_130 : g_fl "BandPressModel" 130 12 10 := ⟨R_12, F_12, 55, rfl, by decide, Or.inl (g_Tm 1293 (by decide +kernel) rfl)⟩
theorem fl_15_133 : g_fl "BandPressModel" 133 12 6 := ⟨R_12, F_12, 55, rfl, by decide, Or.inl (g_Tm 1289 (by decide +kernel) rfl)⟩
theorem fl_15_136 : g_fl "BandPressModel" 136 12 7 := ⟨R_12, F_12, 55, rfl, by decide, Or.inl (g_Tm 1290 (by decide +kernel) rfl)⟩
theorem fl_15_139 : g_fl "BandPressModel" 139 12 8 := ⟨R_12, F_12, 55, rfl, by decide, Or.inl (g_Tm 1291 (by decide +kernel) rfl)⟩
theorem fl_15_142 : g_fl "BandPressModel" 142 12 9 := ⟨R_12, F_12, 55, rfl, by decide, Or.inl (g_Tm 1292 (by decide +kernel) rfl)⟩
theorem fl_15_145 : g_fl "BandPressModel" 145 12 13 := ⟨R_12, F_12, 55, rfl, by decide, Or.inl (g_Tm 1296 (by decide +kernel) rfl)⟩
theorem fl_15_148 : g_fl "BandPressModel" 148 12 32 := ⟨R_12, F_12, 55, rfl, by decide, Or.inl (g_Tm 1315 (by decide +kernel) rfl)⟩
theorem fl_15_151 : g_fl "BandPressModel" 151 12 36 := ⟨R_12, F_12, 55, rfl, by decide, Or.inl (g_Tm 1319 (by decide +kernel) rfl)⟩
theorem fl_15_157 : g_fl "BandPressModel" 157 12 17 := ⟨R_12, F_12, 55, rfl, by decide, Or.inl (g_Tm 1300 (by decide +kernel) rfl)⟩
theorem fl_15_203 : g_fl "BandPressModel" 203 12 28 := ⟨R_12, F_12, 55, rfl, by decide, Or.inl (g_Tm 1311 (by decide +kernel) rfl)⟩
theorem fl_15_217 : g_fl "BandPressModel" 217 12 27 := ⟨R_12, F_12, 55, rfl, by decide, Or.inl (g_Tm 1310 (by decide +kernel) rfl)⟩
theorem fl_15_220 : g_fl "BandPressModel" 220 12 22 := ⟨R_12, F_12, 55, rfl, by decide, Or.inl (g_Tm 1305 (by decide +kernel) rfl)⟩
theorem fl_15_259 : g_fl "BandPressModel" 259 12 25 := ⟨R_12, F_12, 55, rfl, by decide, Or.inl (g_Tm 1308 (by decide +kernel) rfl)⟩
theorem fl_15_262 : g_fl "BandPressModel" 262 12 23 := ⟨R_12, F_12, 55, rfl, by decide, Or.inl (g_Tm 1306 (by decide +kernel) rfl)⟩
theorem fl_15_265 : g_fl "BandPressModel" 265 12 26 := ⟨R_12, F_12, 55, rfl, by decide, Or.inl (g_Tm 1309 (by decide +kernel) rfl)⟩
theorem fl_15_268 : g_fl "BandPressModel" 268 12 24 := ⟨R_12, F_12, 55, rfl, by decide, Or.inl (g_Tm 1307 (by decide +kernel) rfl)⟩
theorem fl_15_309 : g_fl "BandPressModel" 309 12 39 := ⟨R_12, F_12, 55, rfl, by decide, Or.inl (g_Tm 1322 (by decide +kernel) rfl)⟩
theorem fl_15_327 : g_fl "BandPressModel" 327 12 41 := ⟨R_12, F_12, 55, rfl, by decide, Or.inl (g_Tm 1324 (by decide +kernel) rfl)⟩
theorem fl_15_348 : g_fl "BandPressModel" 348 12 40 := ⟨R_12, F_12, 55, rfl, by decide, Or.inl (g_Tm 1323 (by decide +kernel) rfl)⟩
theorem fl_15_351 : g_fl "BandPressModel" 351 12 42 := ⟨R_12, F_12, 55, rfl, by decide, Or.inl (g_Tm 1325 (by decide +kernel) rfl)⟩
theorem fl_15_354 : g_fl "BandPressModel" 354 12 46 := ⟨R_12, F_12, 55, rfl, by decide, Or.inl (g_Tm 1329 (by decide +kernel) rfl)⟩
theorem fl_15_357 : g_fl "BandPressModel" 357 12 47 := ⟨R_12, F_12, 55, rfl, by decide, Or.inl (g_Tm 1330 (by decide +kernel) rfl)⟩
theorem fl_15_366 : g_fl "BandPressModel" 366 12 43 := ⟨R_12, F_12, 55, rfl, by decide, Or.inl (g_Tm 1326 (by decide +kernel) rfl)⟩
theorem fp_0_179 : g_fp "BandPress" 179 10 7 false .int := ⟨R_10, F_10, 12, rfl, by decide, rfl, by decide +kernel, Or.inl (g_Tm 400 (by decide +kernel) rfl)⟩
theorem fp_0_182 : g_fp "BandPress" 182 10 8 false .boolean := ⟨R_10, F_10, 12, rfl, by decide, rfl, by decide +kernel, Or.inl (g_Tm 402 (by decide +kernel) rfl)⟩
theorem fp_7_24 : g_fp "BandPress$Calls" 24 3 4 false .int := ⟨R_3, F_3, 5, rfl, by decide, rfl, by decide +kernel, Or.inl (g_Tm 164 (by decide +kernel) rfl)⟩
theorem fp_6_64 : g_fp "BandPress$Job" 64 2 8 false .int := ⟨R_2, F_2, 13, rfl, by decide, rfl, by decide +kernel, Or.inl (g_Tm 311 (by decide +kernel) rfl)⟩
theorem fp_6_92 : g_fp "BandPress$Job" 92 2 9 false .int := ⟨R_2, F_2, 13, rfl, by decide, rfl, by decide +kernel, Or.inl (g_Tm 313 (by decide +kernel) rfl)⟩
theorem fp_6_95 : g_fp "BandPress$Job" 95 2 10 false .int := ⟨R_2, F_2, 13, rfl, by decide, rfl, by decide +kernel, Or.inl (g_Tm 315 (by decide +kernel) rfl)⟩
theorem fp_6_98 : g_fp "BandPress$Job" 98 2 11 false .int := ⟨R_2, F_2, 13, rfl, by decide, rfl, by decide +kernel, Or.inl (g_Tm 317 (by decide +kernel) rfl)⟩
theorem fp_6_101 : g_fp "BandPress$Job" 101 2 12 false .int := ⟨R_2, F_2, 13, rfl, by decide, rfl, by decide +kernel, Or.inl (g_Tm 319 (by decide +kernel) rfl)⟩
theorem fp_5_36 : g_fp "BandPress$Machine" 36 10 11 false .boolean := ⟨R_10, F_10, 12, rfl, by decide, rfl, by decide +kernel, Or.inl (g_Tm 407 (by decide +kernel) rfl)⟩
theorem fp_5_48 : g_fp "BandPress$Machine" 48 10 7 false .int := ⟨R_10, F_10, 12, rfl, by decide, rfl, by decide +kernel, Or.inl (g_Tm 399 (by decide +kernel) rfl)⟩
theorem fp_5_52 : g_fp "BandPress$Machine" 52 10 6 false .int := ⟨R_10, F_10, 12, rfl, by decide, rfl, by decide +kernel, Or.inl (g_Tm 397 (by decide +kernel) rfl)⟩
theorem fp_5_59 : g_fp "BandPress$Machine" 59 10 9 false .int := ⟨R_10, F_10, 12, rfl, by decide, rfl, by decide +kernel, Or.inl (g_Tm 403 (by decide +kernel) rfl)⟩
theorem fp_5_90 : g_fp "BandPress$Machine" 90 10 10 false .int := ⟨R_10, F_10, 12, rfl, by decide, rfl, by decide +kernel, Or.inl (g_Tm 405 (by decide +kernel) rfl)⟩
theorem fp_4_19 : g_fp "BandPress$Order" 19 9 4 false .int := ⟨R_9, F_9, 8, rfl, by decide, rfl, by decide +kernel, Or.inl (g_Tm 361 (by decide +kernel) rfl)⟩
theorem fp_4_23 : g_fp "BandPress$Order" 23 9 5 false .boolean := ⟨R_9, F_9, 8, rfl, by decide, rfl, by decide +kernel, Or.inl (g_Tm 362 (by decide +kernel) rfl)⟩
theorem fp_4_27 : g_fp "BandPress$Order" 27 9 6 false .int := ⟨R_9, F_9, 8, rfl, by decide, rfl, by decide +kernel, Or.inl (g_Tm 363 (by decide +kernel) rfl)⟩
theorem fp_4_30 : g_fp "BandPress$Order" 30 9 7 false .int := ⟨R_9, F_9, 8, rfl, by decide, rfl, by decide +kernel, Or.inl (g_Tm 364 (by decide +kernel) rfl)⟩
theorem fp_4_33 : g_fp "BandPress$Order" 33 9 3 false .int := ⟨R_9, F_9, 8, rfl, by decide, rfl, by decide +kernel, Or.inl (g_Tm 358 (by decide +kernel) rfl)⟩
theorem fp_4_36 : g_fp "BandPress$Order" 36 9 2 false .int := ⟨R_9, F_9, 8, rfl, by decide, rfl, by decide +kernel, Or.inl (g_Tm 356 (by decide +kernel) rfl)⟩
theorem fp_2_18 : g_fp "BandPress$Packer" 18 11 1 false .int := ⟨R_11, F_11, 3, rfl, by decide, rfl, by decide +kernel, Or.inl (g_Tm 441 (by decide +kernel) rfl)⟩
theorem fp_1_18 : g_fp "BandPress$Pages" 18 8 2 false .int := ⟨R_8, F_8, 4, rfl, by decide, rfl, by decide +kernel, Or.inl (g_Tm 284 (by decide +kernel) rfl)⟩
theorem fp_1_49 : g_fp "BandPress$Pages" 49 8 3 false .int := ⟨R_8, F_8, 4, rfl, by decide, rfl, by decide +kernel, Or.inl (g_Tm 287 (by decide +kernel) rfl)⟩
theorem fp_10_28 : g_fp "BandPress$Path" 28 7 5 false .int := ⟨R_7, F_7, 8, rfl, by decide, rfl, by decide +kernel, Or.inl (g_Tm 252 (by decide +kernel) rfl)⟩
theorem fp_10_32 : g_fp "BandPress$Path" 32 7 6 false .int := ⟨R_7, F_7, 8, rfl, by decide, rfl, by decide +kernel, Or.inl (g_Tm 256 (by decide +kernel) rfl)⟩
theorem fp_10_35 : g_fp "BandPress$Path" 35 7 7 false .boolean := ⟨R_7, F_7, 8, rfl, by decide, rfl, by decide +kernel, Or.inl (g_Tm 257 (by decide +kernel) rfl)⟩
theorem fp_3_39 : g_fp "BandPress$Settings" 39 6 6 false .int := ⟨R_6, F_6, 7, rfl, by decide, rfl, by decide +kernel, Or.inl (g_Tm 222 (by decide +kernel) rfl)⟩
theorem fp_8_21 : g_fp "BandPress$Text" 21 1 3 false .int := ⟨R_1, F_1, 4, rfl, by decide, rfl, by decide +kernel, Or.inl (g_Tm 135 (by decide +kernel) rfl)⟩
theorem fp_9_15 : g_fp "BandPress$Values" 15 5 1 false .int := ⟨R_5, F_5, 2, rfl, by decide, rfl, by decide +kernel, Or.inl (g_Tm 198 (by decide +kernel) rfl)⟩
theorem fp_15_83 : g_fp "BandPressModel" 83 12 0 false .int := ⟨R_12, F_12, 55, rfl, by decide, rfl, by decide +kernel, Or.inl (g_Tm 1283 (by decide +kernel) rfl)⟩
theorem fp_15_87 : g_fp "BandPressModel" 87 12 3 false .int := ⟨R_12, F_12, 55, rfl, by decide, rfl, by decide +kernel, Or.inl (g_Tm 1286 (by decide +kernel) rfl)⟩
theorem fp_15_107 : g_fp "BandPressModel" 107 12 5 false .int := ⟨R_12, F_12, 55, rfl, by decide, rfl, by decide +kernel, Or.inl (g_Tm 1288 (by decide +kernel) rfl)⟩
theorem fp_15_110 : g_fp "BandPressModel" 110 12 45 false .int := ⟨R_12, F_12, 55, rfl, by decide, rfl, by decide +kernel, Or.inl (g_Tm 1328 (by decide +kernel) rfl)⟩
theorem fp_15_113 : g_fp "BandPressModel" 113 12 44 false .int := ⟨R_12, F_12, 55, rfl, by decide, rfl, by decide +kernel, Or.inl (g_Tm 1327 (by decide +kernel) rfl)⟩
theorem fp_15_120 : g_fp "BandPressModel" 120 12 4 false .int := ⟨R_12, F_12, 55, rfl, by decide, rfl, by decide +kernel, Or.inl (g_Tm 1287 (by decide +kernel) rfl)⟩
theorem fp_15_123 : g_fp "BandPressModel" 123 12 11 false .int := ⟨R_12, F_12, 55, rfl, by decide, rfl, by decide +kernel, Or.inl (g_Tm 1294 (by decide +kernel) rfl)⟩
theorem fp_15_126 : g_fp "BandPressModel" 126 12 12 false .boolean := ⟨R_12, F_12, 55, rfl, by decide, rfl, by decide +kernel, Or.inl (g_Tm 1295 (by decide +kernel) rfl)⟩
theorem fp_15_130 : g_fp "BandPressModel" 130 12 10 false .int := ⟨R_12, F_12, 55, rfl, by decide, rfl, by decide +kernel, Or.inl (g_Tm 1293 (by decide +kernel) rfl)⟩
theorem fp_15_133 : g_fp "BandPressModel" 133 12 6 false .int := ⟨R_12, F_12, 55, rfl, by decide, rfl, by decide +kernel, Or.inl (g_Tm 1289 (by decide +kernel) rfl)⟩
theorem fp_15_136 : g_fp "BandPressModel" 136 12 7 false .int := ⟨R_12, F_12, 55, rfl, by decide, rfl, by decide +kernel, Or.inl (g_Tm 1290 (by decide +kernel) rfl)⟩
theorem fp_15_139 : g_fp "BandPressModel" 139 12 8 false .int := ⟨R_12, F_12, 55, rfl, by decide, rfl, by decide +kernel, Or.inl (g_Tm 1291 (by decide +kernel) rfl)⟩
theorem fp_15_142 : g_fp "BandPressModel" 142 12 9 false .int := ⟨R_12, F_12, 55, rfl, by decide, rfl, by decide +kernel, Or.inl (g_Tm 1292 (by decide +kernel) rfl)⟩
theorem fp_15_145 : g_fp "BandPressModel" 145 12 13 false .int := ⟨R_12, F_12, 55, rfl, by decide, rfl, by decide +kernel, Or.inl (g_Tm 1296 (by decide +kernel) rfl)⟩
theorem fp_15_148 : g_fp "BandPressModel" 148 12 32 false .int := ⟨R_12, F_12, 55, rfl, by decide, rfl, by decide +kernel, Or.inl (g_Tm 1315 (by decide +kernel) rfl)⟩
theorem fp_15_151 : g_fp "BandPressModel" 151 12 36 false .int := ⟨R_12, F_12, 55, rfl, by decide, rfl, by decide +kernel, Or.inl (g_Tm 1319 (by decide +kernel) rfl)⟩
theorem fp_15_157 : g_fp "BandPressModel" 157 12 17 false .int := ⟨R_12, F_12, 55, rfl, by decide, rfl, by decide +kernel, Or.inl (g_Tm 1300 (by decide +kernel) rfl)⟩
theorem fp_15_203 : g_fp "BandPressModel" 203 12 28 false .boolean := ⟨R_12, F_12, 55, rfl, by decide, rfl, by decide +kernel, Or.inl (g_Tm 1311 (by decide +kernel) rfl)⟩
theorem fp_15_217 : g_fp "BandPressModel" 217 12 27 false .boolean := ⟨R_12, F_12, 55, rfl, by decide, rfl, by decide +kernel, Or.inl (g_Tm 1310 (by decide +kernel) rfl)⟩
theorem fp_15_220 : g_fp "BandPressModel" 220 12 22 false .int := ⟨R_12, F_12, 55, rfl, by decide, rfl, by decide +kernel, Or.inl (g_Tm 1305 (by decide +kernel) rfl)⟩
theorem fp_15_259 : g_fp "BandPressModel" 259 12 25 false .int := ⟨R_12, F_12, 55, rfl, by decide, rfl, by decide +kernel, Or.inl (g_Tm 1308 (by decide +kernel) rfl)⟩
theorem fp_15_262 : g_fp "BandPressModel" 262 12 23 false .int := ⟨R_12, F_12, 55, rfl, by decide, rfl, by decide +kernel, Or.inl (g_Tm 1306 (by decide +kernel) rfl)⟩
theorem fp_15_265 : g_fp "BandPressModel" 265 12 26 false .int := ⟨R_12, F_12, 55, rfl, by decide, rfl, by decide +kernel, Or.inl (g_Tm 1309 (by decide +kernel) rfl)⟩
theorem fp_15_268 : g_fp "BandPressModel" 268 12 24 false .int := ⟨R_12, F_12, 55, rfl, by decide, rfl, by decide +kernel, Or.inl (g_Tm 1307 (by decide +kernel) rfl)⟩
theorem fp_15_309 : g_fp "BandPressModel" 309 12 39 false .int := ⟨R_12, F_12, 55, rfl, by decide, rfl, by decide +kernel, Or.inl (g_Tm 1322 (by decide +kernel) rfl)⟩
theorem fp_15_327 : g_fp "BandPressModel" 327 12 41 false .int := ⟨R_12, F_12, 55, rfl, by decide, rfl, by decide +kernel, Or.inl (g_Tm 1324 (by decide +kernel) rfl)⟩
theorem fp_15_348 : g_fp "BandPressModel" 348 12 40 false .int := ⟨R_12, F_12, 55, rfl, by decide, rfl, by decide +kernel, Or.inl (g_Tm 1323 (by decide +kernel) rfl)⟩
theorem fp_15_351 : g_fp "BandPressModel" 351 12 42 false .int := ⟨R_12, F_12, 55, rfl, by decide, rfl, by decide +kernel, Or.inl (g_Tm 1325 (by decide +kernel) rfl)⟩
theorem fp_15_354 : g_fp "BandPressModel" 354 12 46 false .boolean := ⟨R_12, F_12, 55, rfl, by decide, rfl, by decide +kernel, Or.inl (g_Tm 1329 (by decide +kernel) rfl)⟩
theorem fp_15_357 : g_fp "BandPressModel" 357 12 47 false .boolean := ⟨R_12, F_12, 55, rfl, by decide, rfl, by decide +kernel, Or.inl (g_Tm 1330 (by decide +kernel) rfl)⟩
theorem fp_15_366 : g_fp "BandPressModel" 366 12 43 false .int := ⟨R_12, F_12, 55, rfl, by decide, rfl, by decide +kernel, Or.inl (g_Tm 1326 (by decide +kernel) rfl)⟩
theorem fw_1_70 : Cond.fieldLinkNest "BandPress$Pages" 70 "BandPress" "CELL" "[I" "BandPress" ∈ g_N := (g_Nm 1143 (by decide +kernel) rfl)
theorem fw_13_9 : Cond.fieldLink "java/lang/String" 9 "java/lang/String" "value" "[B" ∈ g_T := (g_Tm 1749 (by decide +kernel) rfl)
theorem fw_13_15 : Cond.fieldLink "java/lang/String" 15 "java/lang/String" "coder" "B" ∈ g_T := (g_Tm 1748 (by decide +kernel) rfl)
theorem fw_13_38 : Cond.fieldLink "java/lang/String" 38 "java/lang/String" "COMPACT_STRINGS" "Z" ∈ g_T := (g_Tm 522 (by decide +kernel) rfl)
theorem cn_7_41 : Cond.constant "BandPress$Calls" 41 2000000 ∈ g_T := (g_Tm 1077 (by decide +kernel) rfl)
theorem cn_11_47 : Cond.constantLong "BandPress$Filler" 47 2 ∈ g_T := (g_Tm 989 (by decide +kernel) rfl)
theorem cn_11_49 : Cond.constantLong "BandPress$Filler" 49 4 ∈ g_T := (g_Tm 990 (by decide +kernel) rfl)
theorem cn_11_57 : Cond.constantLong "BandPress$Filler" 57 64 ∈ g_T := (g_Tm 992 (by decide +kernel) rfl)
theorem cn_6_184 : Cond.constantLong "BandPress$Job" 184 1000000 ∈ g_T := (g_Tm 923 (by decide +kernel) rfl)
theorem cn_6_192 : Cond.constantLong "BandPress$Job" 192 4096 ∈ g_T := (g_Tm 950 (by decide +kernel) rfl)
theorem cn_6_200 : Cond.constantLong "BandPress$Job" 200 100000 ∈ g_T := (g_Tm 940 (by decide +kernel) rfl)
theorem cn_6_235 : Cond.constant "BandPress$Job" 235 2000000 ∈ g_T := (g_Tm 1057 (by decide +kernel) rfl)
theorem cn_1_41 : Cond.constantLong "BandPress$Pages" 41 (-1) ∈ g_T := (g_Tm 1010 (by decide +kernel) rfl)
theorem cn_1_74 : Cond.constantLong "BandPress$Pages" 74 1229782938247303441 ∈ g_T := (g_Tm 1145 (by decide +kernel) rfl)
theorem cn_3_31 : Cond.constantLong "BandPress$Settings" 31 (-1) ∈ g_T := (g_Tm 212 (by decide +kernel) rfl)
theorem cn_3_49 : Cond.constantLong "BandPress$Settings" 49 16 ∈ g_T := (g_Tm 936 (by decide +kernel) rfl)
theorem cn_9_23 : Cond.constant "BandPress$Values" 23 2000000 ∈ g_T := (g_Tm 910 (by decide +kernel) rfl)
theorem cn_15_90 : Cond.constantLong "BandPressModel" 90 255 ∈ g_T := (g_Tm 1457 (by decide +kernel) rfl)
theorem cn_15_92 : Cond.constantLong "BandPressModel" 92 32 ∈ g_T := (g_Tm 1458 (by decide +kernel) rfl)
theorem cn_15_94 : Cond.constantLong "BandPressModel" 94 126 ∈ g_T := (g_Tm 1459 (by decide +kernel) rfl)
theorem cn_15_192 : Cond.constant "BandPressModel" 192 100000 ∈ g_T := (g_Tm 1532 (by decide +kernel) rfl)
theorem cn_15_213 : Cond.constant "BandPressModel" 213 1000000 ∈ g_T := (g_Tm 1517 (by decide +kernel) rfl)
theorem cn_15_301 : Cond.constant "BandPressModel" 301 2000000 ∈ g_T := (g_Tm 1627 (by decide +kernel) rfl)
theorem cn_12_314 : Cond.constantLong "java/lang/Long" 314 6148914691236517205 ∈ g_T := (g_Tm 1014 (by decide +kernel) rfl)
theorem cn_12_316 : Cond.constantLong "java/lang/Long" 316 3689348814741910323 ∈ g_T := (g_Tm 1015 (by decide +kernel) rfl)
theorem cn_12_318 : Cond.constantLong "java/lang/Long" 318 1085102592571150095 ∈ g_T := (g_Tm 1016 (by decide +kernel) rfl)
theorem ld_6_239 : ("BandPress$Job", 239, "?RQ", 0) ∈ g_ldc := List.mem_of_getElem? (i := 0) rfl
theorem ld_6_248 : ("BandPress$Job", 248, "MLCZN", 1) ∈ g_ldc := List.mem_of_getElem? (i := 1) rfl
theorem ld_6_253 : ("BandPress$Job", 253, "FEWTSGUVP", 2) ∈ g_ldc := List.mem_of_getElem? (i := 2) rfl
theorem ld_8_59 : ("BandPress$Text", 59, " {}:+-*/%~<=DXO", 3) ∈ g_ldc := List.mem_of_getElem? (i := 3) rfl
theorem ld_8_65 : ("BandPress$Text", 65, "?RQ", 0) ∈ g_ldc := List.mem_of_getElem? (i := 4) rfl
theorem ld_8_67 : ("BandPress$Text", 67, "MLCZN", 1) ∈ g_ldc := List.mem_of_getElem? (i := 5) rfl
theorem ld_8_69 : ("BandPress$Text", 69, "FEWTSGUVP", 2) ∈ g_ldc := List.mem_of_getElem? (i := 6) rfl
theorem lk_0_9 : g_lk "BandPress" 9 ⟨"BandPress$Text", "<init>", "()V"⟩ := Or.inr ⟨"BandPress", (g_Nm 127 (by decide +kernel) rfl)⟩
theorem lk_0_18 : g_lk "BandPress" 18 ⟨"BandPress$Job", "<init>", "()V"⟩ := Or.inr ⟨"BandPress", (g_Nm 148 (by decide +kernel) rfl)⟩
theorem lk_0_25 : g_lk "BandPress" 25 ⟨"BandPress$Order", "<init>", "()V"⟩ := Or.inr ⟨"BandPress", (g_Nm 349 (by decide +kernel) rfl)⟩
theorem lk_0_32 : g_lk "BandPress" 32 ⟨"BandPress$Machine", "<init>", "(LBandPress$Order;)V"⟩ := Or.inl (g_Tm 384 (by decide +kernel) rfl)
theorem lk_0_41 : g_lk "BandPress" 41 ⟨"BandPress$Packer", "<init>", "()V"⟩ := Or.inr ⟨"BandPress", (g_Nm 435 (by decide +kernel) rfl)⟩
theorem lk_0_46 : g_lk "BandPress" 46 ⟨"BandPress$Text", "append", "(JI)Z"⟩ := Or.inl (g_Tm 471 (by decide +kernel) rfl)
theorem lk_0_50 : g_lk "BandPress" 50 ⟨"BandPress$Job", "isUnderWay", "()Z"⟩ := Or.inl (g_Tm 485 (by decide +kernel) rfl)
theorem lk_0_54 : g_lk "BandPress" 54 ⟨"BandPress$Order", "left", "()I"⟩ := Or.inl (g_Tm 489 (by decide +kernel) rfl)
theorem lk_0_58 : g_lk "BandPress" 58 ⟨"BandPress$Text", "fault", "()I"⟩ := Or.inl (g_Tm 493 (by decide +kernel) rfl)
theorem lk_0_61 : g_lk "BandPress" 61 ⟨"BandPress$Job", "begin", "(LBandPress$Text;I)V"⟩ := Or.inl (g_Tm 599 (by decide +kernel) rfl)
theorem lk_0_65 : g_lk "BandPress" 65 ⟨"BandPress$Order", "begin", "(IZ)V"⟩ := Or.inl (g_Tm 655 (by decide +kernel) rfl)
theorem lk_0_68 : g_lk "BandPress" 68 ⟨"BandPress$Text", "clear", "()V"⟩ := Or.inl (g_Tm 659 (by decide +kernel) rfl)
theorem lk_0_77 : g_lk "BandPress" 77 ⟨"BandPress$Job", "endIfOver", "()V"⟩ := Or.inl (g_Tm 874 (by decide +kernel) rfl)
theorem lk_0_80 : g_lk "BandPress" 80 ⟨"BandPress$Job", "step", "()V"⟩ := Or.inl (g_Tm 882 (by decide +kernel) rfl)
theorem lk_0_93 : g_lk "BandPress" 93 ⟨"BandPress$Order", "complete", "(I)V"⟩ := Or.inl (g_Tm 1184 (by decide +kernel) rfl)
theorem lk_0_132 : g_lk "BandPress" 132 ⟨"BandPress$Settings", "greyNow", "()I"⟩ := Or.inl (g_Tm 668 (by decide +kernel) rfl)
theorem lk_0_140 : g_lk "BandPress" 140 ⟨"BandPress$Values", "peek", "(I)I"⟩ := Or.inl (g_Tm 1212 (by decide +kernel) rfl)
theorem lk_0_148 : g_lk "BandPress" 148 ⟨"BandPress$Pages", "line", "(II)J"⟩ := Or.inl (g_Tm 680 (by decide +kernel) rfl)
theorem lk_0_152 : g_lk "BandPress" 152 ⟨"BandPress$Pages", "isKept", "(I)Z"⟩ := Or.inl (g_Tm 692 (by decide +kernel) rfl)
theorem lk_0_156 : g_lk "BandPress" 156 ⟨"BandPress$Packer", "pack", "(LBandPress$Pages;II)V"⟩ := Or.inl (g_Tm 693 (by decide +kernel) rfl)
theorem lk_0_164 : g_lk "BandPress" 164 ⟨"BandPress$Machine", "pass", "()V"⟩ := Or.inl (g_Tm 1220 (by decide +kernel) rfl)
theorem lk_0_167 : g_lk "BandPress" 167 ⟨"BandPress$Machine", "state", "()I"⟩ := Or.inl (g_Tm 778 (by decide +kernel) rfl)
theorem lk_0_169 : g_lk "BandPress" 169 ⟨"BandPress$Machine", "isSection", "(I)Z"⟩ := Or.inl (g_Tm 726 (by decide +kernel) rfl)
theorem lk_0_176 : g_lk "BandPress" 176 ⟨"BandPress$Machine", "remove", "(I)Z"⟩ := Or.inl (g_Tm 733 (by decide +kernel) rfl)
theorem lk_0_198 : g_lk "BandPress" 198 ⟨"BandPress$Order", "copyOf", "(I)I"⟩ := Or.inl (g_Tm 757 (by decide +kernel) rfl)
theorem lk_0_201 : g_lk "BandPress" 201 ⟨"BandPress$Order", "firstPage", "(I)I"⟩ := Or.inl (g_Tm 761 (by decide +kernel) rfl)
theorem lk_0_204 : g_lk "BandPress" 204 ⟨"BandPress$Order", "secondPage", "(I)I"⟩ := Or.inl (g_Tm 769 (by decide +kernel) rfl)
theorem lk_0_219 : Cond.methodLink "BandPress" 219 ⟨"java/lang/String", "indexOf", "(I)I"⟩ ∈ g_T := (g_Tm 510 (by decide +kernel) rfl)
theorem lk_7_33 : g_lk "BandPress$Calls" 33 ⟨"BandPress$Calls", "push", "(III)V"⟩ := Or.inl (g_Tm 614 (by decide +kernel) rfl)
theorem lk_7_37 : g_lk "BandPress$Calls" 37 ⟨"BandPress$Calls", "settle", "(LBandPress$Text;)V"⟩ := Or.inl (g_Tm 618 (by decide +kernel) rfl)
theorem lk_7_42 : g_lk "BandPress$Calls" 42 ⟨"BandPress$Text", "closing", "(I)I"⟩ := Or.inl (g_Tm 1078 (by decide +kernel) rfl)
theorem lk_7_46 : g_lk "BandPress$Calls" 46 ⟨"BandPress$Text", "skipBlanks", "(II)I"⟩ := Or.inl (g_Tm 622 (by decide +kernel) rfl)
theorem lk_7_50 : g_lk "BandPress$Calls" 50 ⟨"BandPress$Calls", "innermostLoop", "()I"⟩ := Or.inl (g_Tm 1072 (by decide +kernel) rfl)
theorem lk_11_19 : g_lk "BandPress$Filler" 19 ⟨"BandPress$Filler", "meetEdges", "(LBandPress$Path;I)Z"⟩ := Or.inl (g_Tm 982 (by decide +kernel) rfl)
theorem lk_11_23 : g_lk "BandPress$Filler" 23 ⟨"BandPress$Filler", "sweep", "(Z)J"⟩ := Or.inl (g_Tm 999 (by decide +kernel) rfl)
theorem lk_11_40 : g_lk "BandPress$Filler" 40 ⟨"BandPress$Filler", "firstPixel", "(LBandPress$Path;III)I"⟩ := Or.inl (g_Tm 986 (by decide +kernel) rfl)
theorem lk_11_51 : g_lk "BandPress$Filler" 51 ⟨"java/lang/Math", "floorDiv", "(JJ)J"⟩ := Or.inl (g_Tm 991 (by decide +kernel) rfl)
theorem lk_11_59 : g_lk "BandPress$Filler" 59 ⟨"java/lang/Math", "min", "(JJ)J"⟩ := Or.inl (g_Tm 993 (by decide +kernel) rfl)
theorem lk_11_62 : g_lk "BandPress$Filler" 62 ⟨"java/lang/Math", "max", "(JJ)J"⟩ := Or.inl (g_Tm 996 (by decide +kernel) rfl)
theorem lk_6_11 : g_lk "BandPress$Job" 11 ⟨"BandPress$Text", "<init>", "()V"⟩ := Or.inr ⟨"BandPress", (g_Nm 153 (by decide +kernel) rfl)⟩
theorem lk_6_20 : g_lk "BandPress$Job" 20 ⟨"BandPress$Calls", "<init>", "()V"⟩ := Or.inr ⟨"BandPress", (g_Nm 156 (by decide +kernel) rfl)⟩
theorem lk_6_27 : g_lk "BandPress$Job" 27 ⟨"BandPress$Filler", "<init>", "()V"⟩ := Or.inr ⟨"BandPress", (g_Nm 178 (by decide +kernel) rfl)⟩
theorem lk_6_34 : g_lk "BandPress$Job" 34 ⟨"BandPress$Values", "<init>", "()V"⟩ := Or.inr ⟨"BandPress", (g_Nm 193 (by decide +kernel) rfl)⟩
theorem lk_6_45 : g_lk "BandPress$Job" 45 ⟨"BandPress$Settings", "<init>", "()V"⟩ := Or.inl (g_Tm 208 (by decide +kernel) rfl)
theorem lk_6_52 : g_lk "BandPress$Job" 52 ⟨"BandPress$Path", "<init>", "()V"⟩ := Or.inr ⟨"BandPress", (g_Nm 240 (by decide +kernel) rfl)⟩
theorem lk_6_59 : g_lk "BandPress$Job" 59 ⟨"BandPress$Pages", "<init>", "()V"⟩ := Or.inr ⟨"BandPress", (g_Nm 278 (by decide +kernel) rfl)⟩
theorem lk_6_68 : g_lk "BandPress$Job" 68 ⟨"BandPress$Text", "copy", "(LBandPress$Text;)V"⟩ := Or.inl (g_Tm 603 (by decide +kernel) rfl)
theorem lk_6_72 : g_lk "BandPress$Job" 72 ⟨"BandPress$Calls", "begin", "(LBandPress$Text;)V"⟩ := Or.inl (g_Tm 610 (by decide +kernel) rfl)
theorem lk_6_75 : g_lk "BandPress$Job" 75 ⟨"BandPress$Values", "drop", "(I)V"⟩ := Or.inl (g_Tm 630 (by decide +kernel) rfl)
theorem lk_6_79 : g_lk "BandPress$Job" 79 ⟨"java/util/Arrays", "fill", "([II)V"⟩ := Or.inl (g_Tm 635 (by decide +kernel) rfl)
theorem lk_6_85 : g_lk "BandPress$Job" 85 ⟨"BandPress$Settings", "reset", "()V"⟩ := Or.inl (g_Tm 638 (by decide +kernel) rfl)
theorem lk_6_88 : g_lk "BandPress$Job" 88 ⟨"BandPress$Path", "clear", "()V"⟩ := Or.inl (g_Tm 642 (by decide +kernel) rfl)
theorem lk_6_91 : g_lk "BandPress$Job" 91 ⟨"BandPress$Pages", "clear", "()V"⟩ := Or.inl (g_Tm 646 (by decide +kernel) rfl)
theorem lk_6_104 : g_lk "BandPress$Job" 104 ⟨"BandPress$Calls", "isOver", "()Z"⟩ := Or.inl (g_Tm 878 (by decide +kernel) rfl)
theorem lk_6_108 : g_lk "BandPress$Job" 108 ⟨"BandPress$Calls", "place", "()I"⟩ := Or.inl (g_Tm 886 (by decide +kernel) rfl)
theorem lk_6_112 : g_lk "BandPress$Job" 112 ⟨"BandPress$Text", "sign", "(I)I"⟩ := Or.inl (g_Tm 890 (by decide +kernel) rfl)
theorem lk_6_116 : g_lk "BandPress$Job" 116 ⟨"BandPress$Job", "errorOf", "(I)I"⟩ := Or.inl (g_Tm 891 (by decide +kernel) rfl)
theorem lk_6_119 : g_lk "BandPress$Job" 119 ⟨"BandPress$Text", "behind", "(I)I"⟩ := Or.inl (g_Tm 1029 (by decide +kernel) rfl)
theorem lk_6_122 : g_lk "BandPress$Job" 122 ⟨"BandPress$Calls", "goTo", "(I)V"⟩ := Or.inl (g_Tm 1041 (by decide +kernel) rfl)
theorem lk_6_125 : g_lk "BandPress$Job" 125 ⟨"BandPress$Job", "perform", "(II)V"⟩ := Or.inl (g_Tm 1045 (by decide +kernel) rfl)
theorem lk_6_129 : g_lk "BandPress$Job" 129 ⟨"BandPress$Calls", "settle", "(LBandPress$Text;)V"⟩ := Or.inl (g_Tm 1182 (by decide +kernel) rfl)
theorem lk_6_132 : g_lk "BandPress$Job" 132 ⟨"BandPress$Job", "endIfOver", "()V"⟩ := Or.inl (g_Tm 1183 (by decide +kernel) rfl)
theorem lk_6_135 : g_lk "BandPress$Job" 135 ⟨"BandPress$Job", "needs", "(I)I"⟩ := Or.inl (g_Tm 895 (by decide +kernel) rfl)
theorem lk_6_141 : g_lk "BandPress$Job" 141 ⟨"BandPress$Job", "kindsFit", "(II)Z"⟩ := Or.inl (g_Tm 898 (by decide +kernel) rfl)
theorem lk_6_145 : g_lk "BandPress$Job" 145 ⟨"BandPress$Job", "goesBeyond", "(I)Z"⟩ := Or.inl (g_Tm 911 (by decide +kernel) rfl)
theorem lk_6_149 : g_lk "BandPress$Job" 149 ⟨"BandPress$Values", "peek", "(I)I"⟩ := Or.inl (g_Tm 919 (by decide +kernel) rfl)
theorem lk_6_152 : g_lk "BandPress$Job" 152 ⟨"BandPress$Job", "lacksRoom", "(I)Z"⟩ := Or.inl (g_Tm 952 (by decide +kernel) rfl)
theorem lk_6_156 : g_lk "BandPress$Job" 156 ⟨"BandPress$Job", "placesFor", "(I)I"⟩ := Or.inl (g_Tm 966 (by decide +kernel) rfl)
theorem lk_6_159 : g_lk "BandPress$Job" 159 ⟨"BandPress$Job", "marksTooMuch", "(I)Z"⟩ := Or.inl (g_Tm 974 (by decide +kernel) rfl)
theorem lk_6_162 : g_lk "BandPress$Job" 162 ⟨"BandPress$Pages", "isFull", "()Z"⟩ := Or.inl (g_Tm 1017 (by decide +kernel) rfl)
theorem lk_6_165 : g_lk "BandPress$Job" 165 ⟨"BandPress$Settings", "saved", "()I"⟩ := Or.inl (g_Tm 1021 (by decide +kernel) rfl)
theorem lk_6_168 : g_lk "BandPress$Job" 168 ⟨"BandPress$Calls", "innermostLoop", "()I"⟩ := Or.inl (g_Tm 1025 (by decide +kernel) rfl)
theorem lk_6_171 : g_lk "BandPress$Job" 171 ⟨"BandPress$Values", "isProcedure", "(I)Z"⟩ := Or.inl (g_Tm 902 (by decide +kernel) rfl)
theorem lk_6_174 : g_lk "BandPress$Job" 174 ⟨"BandPress$Job", "resultOf", "(I)J"⟩ := Or.inl (g_Tm 915 (by decide +kernel) rfl)
theorem lk_6_178 : g_lk "BandPress$Job" 178 ⟨"java/lang/Math", "abs", "(J)J"⟩ := Or.inl (g_Tm 920 (by decide +kernel) rfl)
theorem lk_6_186 : g_lk "BandPress$Job" 186 ⟨"BandPress$Job", "isFarOff", "(I)Z"⟩ := Or.inl (g_Tm 924 (by decide +kernel) rfl)
theorem lk_6_189 : g_lk "BandPress$Job" 189 ⟨"BandPress$Settings", "stretchedX", "(I)J"⟩ := Or.inl (g_Tm 949 (by decide +kernel) rfl)
theorem lk_6_194 : g_lk "BandPress$Job" 194 ⟨"BandPress$Settings", "stretchedY", "(I)J"⟩ := Or.inl (g_Tm 951 (by decide +kernel) rfl)
theorem lk_6_197 : g_lk "BandPress$Job" 197 ⟨"BandPress$Settings", "placedX", "(I)J"⟩ := Or.inl (g_Tm 928 (by decide +kernel) rfl)
theorem lk_6_202 : g_lk "BandPress$Job" 202 ⟨"BandPress$Settings", "placedY", "(I)J"⟩ := Or.inl (g_Tm 941 (by decide +kernel) rfl)
theorem lk_6_205 : g_lk "BandPress$Job" 205 ⟨"BandPress", "isDigit", "(I)Z"⟩ := Or.inr ⟨"BandPress", (g_Nm 956 (by decide +kernel) rfl)⟩
theorem lk_6_208 : g_lk "BandPress$Job" 208 ⟨"BandPress", "isLetter", "(I)Z"⟩ := Or.inr ⟨"BandPress", (g_Nm 957 (by decide +kernel) rfl)⟩
theorem lk_6_211 : g_lk "BandPress$Job" 211 ⟨"BandPress$Values", "isFull", "()Z"⟩ := Or.inl (g_Tm 958 (by decide +kernel) rfl)
theorem lk_6_212 : g_lk "BandPress$Job" 212 ⟨"BandPress$Calls", "isFull", "()Z"⟩ := Or.inl (g_Tm 962 (by decide +kernel) rfl)
theorem lk_6_213 : g_lk "BandPress$Job" 213 ⟨"BandPress$Path", "placesFor", "(I)I"⟩ := Or.inl (g_Tm 970 (by decide +kernel) rfl)
theorem lk_6_214 : g_lk "BandPress$Job" 214 ⟨"BandPress$Filler", "trace", "(LBandPress$Path;Z)V"⟩ := Or.inl (g_Tm 978 (by decide +kernel) rfl)
theorem lk_6_225 : g_lk "BandPress$Job" 225 ⟨"BandPress$Pages", "marksOf", "([JLBandPress$Settings;)I"⟩ := Or.inl (g_Tm 1003 (by decide +kernel) rfl)
theorem lk_6_229 : g_lk "BandPress$Job" 229 ⟨"BandPress$Text", "number", "(I)I"⟩ := Or.inl (g_Tm 1049 (by decide +kernel) rfl)
theorem lk_6_232 : g_lk "BandPress$Job" 232 ⟨"BandPress$Values", "push", "(I)V"⟩ := Or.inl (g_Tm 1053 (by decide +kernel) rfl)
theorem lk_6_236 : g_lk "BandPress$Job" 236 ⟨"BandPress$Job", "assign", "(I)V"⟩ := Or.inl (g_Tm 1058 (by decide +kernel) rfl)
theorem lk_6_241 : g_lk "BandPress$Job" 241 ⟨"BandPress", "isOneOf", "(Ljava/lang/String;I)Z"⟩ := Or.inr ⟨"BandPress", (g_Nm 1063 (by decide +kernel) rfl)⟩
theorem lk_6_245 : g_lk "BandPress$Job" 245 ⟨"BandPress$Job", "control", "(I)V"⟩ := Or.inl (g_Tm 1064 (by decide +kernel) rfl)
theorem lk_6_250 : g_lk "BandPress$Job" 250 ⟨"BandPress$Job", "draw", "(I)V"⟩ := Or.inl (g_Tm 1080 (by decide +kernel) rfl)
theorem lk_6_255 : g_lk "BandPress$Job" 255 ⟨"BandPress$Job", "use", "(I)V"⟩ := Or.inl (g_Tm 1130 (by decide +kernel) rfl)
theorem lk_6_258 : g_lk "BandPress$Job" 258 ⟨"BandPress$Job", "reckon", "(I)V"⟩ := Or.inl (g_Tm 1178 (by decide +kernel) rfl)
theorem lk_6_261 : g_lk "BandPress$Job" 261 ⟨"BandPress$Calls", "leaveLoop", "()V"⟩ := Or.inl (g_Tm 1068 (by decide +kernel) rfl)
theorem lk_6_264 : g_lk "BandPress$Job" 264 ⟨"BandPress$Calls", "enter", "(LBandPress$Text;II)V"⟩ := Or.inl (g_Tm 1073 (by decide +kernel) rfl)
theorem lk_6_268 : g_lk "BandPress$Job" 268 ⟨"BandPress$Job", "placedX", "(I)I"⟩ := Or.inl (g_Tm 1084 (by decide +kernel) rfl)
theorem lk_6_270 : g_lk "BandPress$Job" 270 ⟨"BandPress$Job", "placedY", "(I)I"⟩ := Or.inl (g_Tm 1088 (by decide +kernel) rfl)
theorem lk_6_272 : g_lk "BandPress$Job" 272 ⟨"BandPress$Path", "begin", "(II)V"⟩ := Or.inl (g_Tm 1092 (by decide +kernel) rfl)
theorem lk_6_274 : g_lk "BandPress$Job" 274 ⟨"BandPress$Path", "lineTo", "(II)V"⟩ := Or.inl (g_Tm 1100 (by decide +kernel) rfl)
theorem lk_6_277 : g_lk "BandPress$Job" 277 ⟨"BandPress$Path", "bend", "(III)V"⟩ := Or.inl (g_Tm 1109 (by decide +kernel) rfl)
theorem lk_6_281 : g_lk "BandPress$Job" 281 ⟨"BandPress$Path", "curve", "()V"⟩ := Or.inl (g_Tm 1113 (by decide +kernel) rfl)
theorem lk_6_284 : g_lk "BandPress$Job" 284 ⟨"BandPress$Path", "close", "()V"⟩ := Or.inl (g_Tm 1125 (by decide +kernel) rfl)
theorem lk_6_287 : g_lk "BandPress$Job" 287 ⟨"BandPress$Pages", "paint", "([JLBandPress$Settings;)V"⟩ := Or.inl (g_Tm 1134 (by decide +kernel) rfl)
theorem lk_6_291 : g_lk "BandPress$Job" 291 ⟨"BandPress$Settings", "cutClip", "([J)V"⟩ := Or.inl (g_Tm 1146 (by decide +kernel) rfl)
theorem lk_6_295 : g_lk "BandPress$Job" 295 ⟨"BandPress$Pages", "keep", "()V"⟩ := Or.inl (g_Tm 1150 (by decide +kernel) rfl)
theorem lk_6_298 : g_lk "BandPress$Job" 298 ⟨"BandPress$Settings", "move", "(II)V"⟩ := Or.inl (g_Tm 1155 (by decide +kernel) rfl)
theorem lk_6_301 : g_lk "BandPress$Job" 301 ⟨"BandPress$Settings", "stretch", "(II)V"⟩ := Or.inl (g_Tm 1161 (by decide +kernel) rfl)
theorem lk_6_304 : g_lk "BandPress$Job" 304 ⟨"BandPress$Settings", "setGrey", "(I)V"⟩ := Or.inl (g_Tm 1165 (by decide +kernel) rfl)
theorem lk_6_307 : g_lk "BandPress$Job" 307 ⟨"BandPress$Settings", "save", "()V"⟩ := Or.inl (g_Tm 1169 (by decide +kernel) rfl)
theorem lk_6_310 : g_lk "BandPress$Job" 310 ⟨"BandPress$Settings", "takeBack", "()V"⟩ := Or.inl (g_Tm 1174 (by decide +kernel) rfl)
theorem lk_5_39 : g_lk "BandPress$Machine" 39 ⟨"BandPress$Order", "left", "()I"⟩ := Or.inl (g_Tm 782 (by decide +kernel) rfl)
theorem lk_5_45 : g_lk "BandPress$Machine" 45 ⟨"BandPress$Machine", "inside", "()I"⟩ := Or.inl (g_Tm 783 (by decide +kernel) rfl)
theorem lk_5_55 : g_lk "BandPress$Machine" 55 ⟨"BandPress$Machine", "empty", "(I)V"⟩ := Or.inl (g_Tm 737 (by decide +kernel) rfl)
theorem lk_5_62 : g_lk "BandPress$Machine" 62 ⟨"java/lang/Math", "min", "(II)I"⟩ := Or.inl (g_Tm 1224 (by decide +kernel) rfl)
theorem lk_5_68 : g_lk "BandPress$Machine" 68 ⟨"java/lang/Math", "max", "(II)I"⟩ := Or.inl (g_Tm 1225 (by decide +kernel) rfl)
theorem lk_5_71 : g_lk "BandPress$Machine" 71 ⟨"BandPress$Machine", "anySticks", "()Z"⟩ := Or.inl (g_Tm 1226 (by decide +kernel) rfl)
theorem lk_5_75 : g_lk "BandPress$Machine" 75 ⟨"java/util/Arrays", "fill", "([II)V"⟩ := Or.inl (g_Tm 1230 (by decide +kernel) rfl)
theorem lk_5_81 : g_lk "BandPress$Machine" 81 ⟨"BandPress$Machine", "moveAll", "()V"⟩ := Or.inl (g_Tm 1231 (by decide +kernel) rfl)
theorem lk_5_84 : g_lk "BandPress$Machine" 84 ⟨"BandPress$Machine", "moveFrom", "(I)V"⟩ := Or.inl (g_Tm 1235 (by decide +kernel) rfl)
theorem lk_5_87 : g_lk "BandPress$Machine" 87 ⟨"BandPress$Machine", "feed", "()V"⟩ := Or.inl (g_Tm 1264 (by decide +kernel) rfl)
theorem lk_5_93 : g_lk "BandPress$Machine" 93 ⟨"BandPress$Machine", "wayFrom", "(I)I"⟩ := Or.inl (g_Tm 1239 (by decide +kernel) rfl)
theorem lk_5_97 : g_lk "BandPress$Machine" 97 ⟨"BandPress$Machine", "move", "(II)V"⟩ := Or.inl (g_Tm 1248 (by decide +kernel) rfl)
theorem lk_5_101 : g_lk "BandPress$Machine" 101 ⟨"BandPress$Order", "sides", "()I"⟩ := Or.inl (g_Tm 1243 (by decide +kernel) rfl)
theorem lk_5_104 : g_lk "BandPress$Machine" 104 ⟨"BandPress$Machine", "ifFree", "(I)I"⟩ := Or.inl (g_Tm 1244 (by decide +kernel) rfl)
theorem lk_5_107 : g_lk "BandPress$Machine" 107 ⟨"BandPress$Order", "putOut", "(I)V"⟩ := Or.inl (g_Tm 1252 (by decide +kernel) rfl)
theorem lk_5_110 : g_lk "BandPress$Machine" 110 ⟨"BandPress$Machine", "place", "(III)V"⟩ := Or.inl (g_Tm 1260 (by decide +kernel) rfl)
theorem lk_5_114 : g_lk "BandPress$Machine" 114 ⟨"BandPress$Machine", "nextToMake", "()I"⟩ := Or.inl (g_Tm 1268 (by decide +kernel) rfl)
theorem lk_5_120 : g_lk "BandPress$Machine" 120 ⟨"BandPress$Order", "isLeft", "(I)Z"⟩ := Or.inl (g_Tm 1272 (by decide +kernel) rfl)
theorem lk_5_124 : g_lk "BandPress$Machine" 124 ⟨"BandPress$Machine", "isInside", "(I)Z"⟩ := Or.inl (g_Tm 1273 (by decide +kernel) rfl)
theorem lk_4_39 : g_lk "BandPress$Order" 39 ⟨"java/lang/Math", "min", "(II)I"⟩ := Or.inl (g_Tm 1188 (by decide +kernel) rfl)
theorem lk_4_45 : g_lk "BandPress$Order" 45 ⟨"BandPress$Order", "isLeft", "(I)Z"⟩ := Or.inl (g_Tm 1256 (by decide +kernel) rfl)
theorem lk_4_49 : g_lk "BandPress$Order" 49 ⟨"BandPress$Order", "sides", "()I"⟩ := Or.inl (g_Tm 765 (by decide +kernel) rfl)
theorem lk_4_53 : g_lk "BandPress$Order" 53 ⟨"BandPress$Order", "firstPage", "(I)I"⟩ := Or.inl (g_Tm 773 (by decide +kernel) rfl)
theorem lk_2_22 : g_lk "BandPress$Packer" 22 ⟨"BandPress$Packer", "linesAlike", "(LBandPress$Pages;III)I"⟩ := Or.inl (g_Tm 697 (by decide +kernel) rfl)
theorem lk_2_26 : g_lk "BandPress$Packer" 26 ⟨"BandPress$Packer", "add", "(I)V"⟩ := Or.inl (g_Tm 701 (by decide +kernel) rfl)
theorem lk_2_30 : g_lk "BandPress$Packer" 30 ⟨"BandPress$Pages", "line", "(II)J"⟩ := Or.inl (g_Tm 700 (by decide +kernel) rfl)
theorem lk_2_36 : g_lk "BandPress$Packer" 36 ⟨"BandPress$Packer", "packLine", "(J)V"⟩ := Or.inl (g_Tm 705 (by decide +kernel) rfl)
theorem lk_2_40 : g_lk "BandPress$Packer" 40 ⟨"java/lang/Math", "max", "(II)I"⟩ := Or.inl (g_Tm 717 (by decide +kernel) rfl)
theorem lk_2_46 : g_lk "BandPress$Packer" 46 ⟨"BandPress$Packer", "octetsAlike", "(I)I"⟩ := Or.inl (g_Tm 709 (by decide +kernel) rfl)
theorem lk_2_50 : g_lk "BandPress$Packer" 50 ⟨"BandPress$Packer", "octetsApart", "(I)I"⟩ := Or.inl (g_Tm 713 (by decide +kernel) rfl)
theorem lk_1_22 : g_lk "BandPress$Pages" 22 ⟨"BandPress$Pages", "clean", "()V"⟩ := Or.inl (g_Tm 650 (by decide +kernel) rfl)
theorem lk_1_25 : g_lk "BandPress$Pages" 25 ⟨"BandPress$Pages", "isKept", "(I)Z"⟩ := Or.inl (g_Tm 684 (by decide +kernel) rfl)
theorem lk_1_35 : g_lk "BandPress$Pages" 35 ⟨"BandPress$Settings", "clipLine", "(I)J"⟩ := Or.inl (g_Tm 1006 (by decide +kernel) rfl)
theorem lk_1_43 : g_lk "BandPress$Pages" 43 ⟨"java/lang/Long", "bitCount", "(J)I"⟩ := Or.inl (g_Tm 1011 (by decide +kernel) rfl)
theorem lk_1_52 : g_lk "BandPress$Pages" 52 ⟨"BandPress$Pages", "marksOf", "([JLBandPress$Settings;)I"⟩ := Or.inl (g_Tm 1138 (by decide +kernel) rfl)
theorem lk_1_56 : g_lk "BandPress$Pages" 56 ⟨"BandPress$Settings", "greyNow", "()I"⟩ := Or.inl (g_Tm 1139 (by decide +kernel) rfl)
theorem lk_1_60 : g_lk "BandPress$Pages" 60 ⟨"BandPress$Pages", "dots", "(II)J"⟩ := Or.inl (g_Tm 1140 (by decide +kernel) rfl)
theorem lk_1_64 : g_lk "BandPress$Pages" 64 ⟨"java/util/Arrays", "fill", "([JJ)V"⟩ := Or.inl (g_Tm 654 (by decide +kernel) rfl)
theorem lk_10_39 : g_lk "BandPress$Path" 39 ⟨"BandPress$Path", "add", "(IIZ)V"⟩ := Or.inl (g_Tm 1096 (by decide +kernel) rfl)
theorem lk_10_43 : g_lk "BandPress$Path" 43 ⟨"BandPress$Path", "goOn", "()V"⟩ := Or.inl (g_Tm 1104 (by decide +kernel) rfl)
theorem lk_10_46 : g_lk "BandPress$Path" 46 ⟨"java/lang/Math", "max", "(II)I"⟩ := Or.inl (g_Tm 1117 (by decide +kernel) rfl)
theorem lk_10_52 : g_lk "BandPress$Path" 52 ⟨"BandPress$Path", "bend", "(III)V"⟩ := Or.inl (g_Tm 1118 (by decide +kernel) rfl)
theorem lk_10_56 : g_lk "BandPress$Path" 56 ⟨"BandPress$Path", "halve", "([III)V"⟩ := Or.inl (g_Tm 1119 (by decide +kernel) rfl)
theorem lk_10_60 : g_lk "BandPress$Path" 60 ⟨"BandPress$Path", "middle", "(II)I"⟩ := Or.inl (g_Tm 1122 (by decide +kernel) rfl)
theorem lk_10_63 : g_lk "BandPress$Path" 63 ⟨"BandPress$Path", "begin", "(II)V"⟩ := Or.inl (g_Tm 1108 (by decide +kernel) rfl)
theorem lk_3_33 : g_lk "BandPress$Settings" 33 ⟨"java/util/Arrays", "fill", "([JJ)V"⟩ := Or.inl (g_Tm 213 (by decide +kernel) rfl)
theorem lk_3_51 : g_lk "BandPress$Settings" 51 ⟨"java/lang/Math", "floorDiv", "(JJ)J"⟩ := Or.inl (g_Tm 937 (by decide +kernel) rfl)
theorem lk_3_57 : g_lk "BandPress$Settings" 57 ⟨"BandPress$Settings", "stretchedX", "(I)J"⟩ := Or.inl (g_Tm 932 (by decide +kernel) rfl)
theorem lk_3_61 : g_lk "BandPress$Settings" 61 ⟨"BandPress$Settings", "stretchedY", "(I)J"⟩ := Or.inl (g_Tm 945 (by decide +kernel) rfl)
theorem lk_3_64 : g_lk "BandPress$Settings" 64 ⟨"BandPress$Settings", "placedX", "(I)J"⟩ := Or.inl (g_Tm 1159 (by decide +kernel) rfl)
theorem lk_3_67 : g_lk "BandPress$Settings" 67 ⟨"BandPress$Settings", "placedY", "(I)J"⟩ := Or.inl (g_Tm 1160 (by decide +kernel) rfl)
theorem lk_8_25 : g_lk "BandPress$Text" 25 ⟨"BandPress$Text", "isPlain", "(JI)Z"⟩ := Or.inl (g_Tm 475 (by decide +kernel) rfl)
theorem lk_8_29 : g_lk "BandPress$Text" 29 ⟨"BandPress$Text", "byteOf", "(JI)I"⟩ := Or.inl (g_Tm 478 (by decide +kernel) rfl)
theorem lk_8_33 : g_lk "BandPress$Text" 33 ⟨"BandPress", "isDigit", "(I)Z"⟩ := Or.inr ⟨"BandPress", (g_Nm 497 (by decide +kernel) rfl)⟩
theorem lk_8_37 : g_lk "BandPress$Text" 37 ⟨"BandPress", "isLetter", "(I)Z"⟩ := Or.inr ⟨"BandPress", (g_Nm 500 (by decide +kernel) rfl)⟩
theorem lk_8_40 : g_lk "BandPress$Text" 40 ⟨"BandPress$Text", "isWord", "(I)Z"⟩ := Or.inl (g_Tm 503 (by decide +kernel) rfl)
theorem lk_8_49 : g_lk "BandPress$Text" 49 ⟨"BandPress$Text", "sign", "(I)I"⟩ := Or.inl (g_Tm 626 (by decide +kernel) rfl)
theorem lk_8_53 : g_lk "BandPress$Text" 53 ⟨"BandPress$Text", "closing", "(I)I"⟩ := Or.inl (g_Tm 1033 (by decide +kernel) rfl)
theorem lk_8_56 : g_lk "BandPress$Text" 56 ⟨"BandPress$Text", "behindDigits", "(I)I"⟩ := Or.inl (g_Tm 1037 (by decide +kernel) rfl)
theorem lk_8_61 : g_lk "BandPress$Text" 61 ⟨"BandPress", "isOneOf", "(Ljava/lang/String;I)Z"⟩ := Or.inr ⟨"BandPress", (g_Nm 507 (by decide +kernel) rfl)⟩
theorem lk_9_19 : g_lk "BandPress$Values" 19 ⟨"BandPress$Values", "peek", "(I)I"⟩ := Or.inl (g_Tm 906 (by decide +kernel) rfl)
theorem lk_9_24 : g_lk "BandPress$Values" 24 ⟨"java/lang/Math", "max", "(II)I"⟩ := Or.inl (g_Tm 634 (by decide +kernel) rfl)
theorem lk_15_96 : g_lk "BandPressModel" 96 ⟨"BandPressModel", "isDigit", "(I)Z"⟩ := Or.inl (g_Tm 1471 (by decide +kernel) rfl)
theorem lk_15_100 : g_lk "BandPressModel" 100 ⟨"BandPressModel", "isLetter", "(I)Z"⟩ := Or.inl (g_Tm 1474 (by decide +kernel) rfl)
theorem lk_15_103 : g_lk "BandPressModel" 103 ⟨"BandPressModel", "needs", "(I)I"⟩ := Or.inl (g_Tm 1468 (by decide +kernel) rfl)
theorem lk_15_116 : g_lk "BandPressModel" 116 ⟨"BandPressModel", "faultOf", "()I"⟩ := Or.inl (g_Tm 1464 (by decide +kernel) rfl)
theorem lk_15_154 : g_lk "BandPressModel" 154 ⟨"BandPressModel", "noPath", "()V"⟩ := Or.inl (g_Tm 1477 (by decide +kernel) rfl)
theorem lk_15_160 : g_lk "BandPressModel" 160 ⟨"BandPressModel", "enter", "(III)V"⟩ := Or.inl (g_Tm 1481 (by decide +kernel) rfl)
theorem lk_15_164 : g_lk "BandPressModel" 164 ⟨"BandPressModel", "closing", "(I)I"⟩ := Or.inl (g_Tm 1564 (by decide +kernel) rfl)
theorem lk_15_167 : g_lk "BandPressModel" 167 ⟨"BandPressModel", "next", "()I"⟩ := Or.inl (g_Tm 1489 (by decide +kernel) rfl)
theorem lk_15_170 : g_lk "BandPressModel" 170 ⟨"BandPressModel", "endJob", "(II)V"⟩ := Or.inl (g_Tm 1493 (by decide +kernel) rfl)
theorem lk_15_174 : g_lk "BandPressModel" 174 ⟨"BandPressModel", "errorOf", "(I)I"⟩ := Or.inl (g_Tm 1497 (by decide +kernel) rfl)
theorem lk_15_177 : g_lk "BandPressModel" 177 ⟨"BandPressModel", "step", "(I)V"⟩ := Or.inl (g_Tm 1556 (by decide +kernel) rfl)
theorem lk_15_181 : g_lk "BandPressModel" 181 ⟨"BandPressModel", "sixteenth", "(II)J"⟩ := Or.inl (g_Tm 1529 (by decide +kernel) rfl)
theorem lk_15_185 : g_lk "BandPressModel" 185 ⟨"BandPressModel", "number", "(I)I"⟩ := Or.inl (g_Tm 1509 (by decide +kernel) rfl)
theorem lk_15_188 : g_lk "BandPressModel" 188 ⟨"BandPressModel", "xOf", "(I)J"⟩ := Or.inl (g_Tm 1525 (by decide +kernel) rfl)
theorem lk_15_193 : g_lk "BandPressModel" 193 ⟨"BandPressModel", "isFar", "(JI)Z"⟩ := Or.inl (g_Tm 1518 (by decide +kernel) rfl)
theorem lk_15_197 : g_lk "BandPressModel" 197 ⟨"BandPressModel", "yOf", "(I)J"⟩ := Or.inl (g_Tm 1533 (by decide +kernel) rfl)
theorem lk_15_200 : g_lk "BandPressModel" 200 ⟨"BandPressModel", "quotient", "()I"⟩ := Or.inl (g_Tm 1513 (by decide +kernel) rfl)
theorem lk_15_206 : g_lk "BandPressModel" 206 ⟨"BandPressModel", "isKind", "(II)Z"⟩ := Or.inl (g_Tm 1501 (by decide +kernel) rfl)
theorem lk_15_210 : g_lk "BandPressModel" 210 ⟨"BandPressModel", "result", "(I)J"⟩ := Or.inl (g_Tm 1505 (by decide +kernel) rfl)
theorem lk_15_214 : g_lk "BandPressModel" 214 ⟨"BandPressModel", "isNear", "(I)Z"⟩ := Or.inl (g_Tm 1521 (by decide +kernel) rfl)
theorem lk_15_223 : g_lk "BandPressModel" 223 ⟨"BandPressModel", "placesFor", "(I)I"⟩ := Or.inl (g_Tm 1537 (by decide +kernel) rfl)
theorem lk_15_226 : g_lk "BandPressModel" 226 ⟨"BandPressModel", "look", "(Z)I"⟩ := Or.inl (g_Tm 1541 (by decide +kernel) rfl)
theorem lk_15_230 : g_lk "BandPressModel" 230 ⟨"BandPressModel", "isRepeated", "()Z"⟩ := Or.inl (g_Tm 1552 (by decide +kernel) rfl)
theorem lk_15_234 : g_lk "BandPressModel" 234 ⟨"BandPressModel", "wordLong", "(I)I"⟩ := Or.inl (g_Tm 1560 (by decide +kernel) rfl)
theorem lk_15_237 : g_lk "BandPressModel" 237 ⟨"BandPressModel", "push", "(IZ)V"⟩ := Or.inl (g_Tm 1568 (by decide +kernel) rfl)
theorem lk_15_241 : g_lk "BandPressModel" 241 ⟨"BandPressModel", "reckon", "(I)V"⟩ := Or.inl (g_Tm 1572 (by decide +kernel) rfl)
theorem lk_15_244 : g_lk "BandPressModel" 244 ⟨"BandPressModel", "order", "(I)V"⟩ := Or.inl (g_Tm 1576 (by decide +kernel) rfl)
theorem lk_15_247 : g_lk "BandPressModel" 247 ⟨"BandPressModel", "swap", "()V"⟩ := Or.inl (g_Tm 1580 (by decide +kernel) rfl)
theorem lk_15_250 : g_lk "BandPressModel" 250 ⟨"BandPressModel", "repeat", "()V"⟩ := Or.inl (g_Tm 1584 (by decide +kernel) rfl)
theorem lk_15_253 : g_lk "BandPressModel" 253 ⟨"BandPressModel", "quit", "()V"⟩ := Or.inl (g_Tm 1588 (by decide +kernel) rfl)
theorem lk_15_256 : g_lk "BandPressModel" 256 ⟨"BandPressModel", "draw", "(I)V"⟩ := Or.inl (g_Tm 1592 (by decide +kernel) rfl)
theorem lk_15_271 : g_lk "BandPressModel" 271 ⟨"BandPressModel", "fill", "(Z)V"⟩ := Or.inl (g_Tm 1604 (by decide +kernel) rfl)
theorem lk_15_275 : g_lk "BandPressModel" 275 ⟨"BandPressModel", "cut", "()V"⟩ := Or.inl (g_Tm 1611 (by decide +kernel) rfl)
theorem lk_15_278 : g_lk "BandPressModel" 278 ⟨"BandPressModel", "state", "(I)V"⟩ := Or.inl (g_Tm 1615 (by decide +kernel) rfl)
theorem lk_15_281 : g_lk "BandPressModel" 281 ⟨"BandPressModel", "place", "(IIZ)V"⟩ := Or.inl (g_Tm 1596 (by decide +kernel) rfl)
theorem lk_15_285 : g_lk "BandPressModel" 285 ⟨"BandPressModel", "along", "(IIIIIZ)I"⟩ := Or.inl (g_Tm 1600 (by decide +kernel) rfl)
theorem lk_15_289 : g_lk "BandPressModel" 289 ⟨"BandPressModel", "meets", "(IIIIII)I"⟩ := Or.inl (g_Tm 1549 (by decide +kernel) rfl)
theorem lk_15_293 : g_lk "BandPressModel" 293 ⟨"BandPressModel", "isIn", "(IIZ)Z"⟩ := Or.inl (g_Tm 1545 (by decide +kernel) rfl)
theorem lk_15_297 : g_lk "BandPressModel" 297 ⟨"BandPressModel", "cell", "(II)I"⟩ := Or.inl (g_Tm 1608 (by decide +kernel) rfl)
theorem lk_15_302 : g_lk "BandPressModel" 302 ⟨"BandPressModel", "isPixel", "(II)Z"⟩ := Or.inl (g_Tm 1636 (by decide +kernel) rfl)
theorem lk_15_305 : g_lk "BandPressModel" 305 ⟨"BandPressModel", "byteOf", "(III)I"⟩ := Or.inl (g_Tm 1651 (by decide +kernel) rfl)
theorem lk_15_312 : g_lk "BandPressModel" 312 ⟨"BandPressModel", "alike", "(III)I"⟩ := Or.inl (g_Tm 1663 (by decide +kernel) rfl)
theorem lk_15_315 : g_lk "BandPressModel" 315 ⟨"BandPressModel", "out", "(I)V"⟩ := Or.inl (g_Tm 1655 (by decide +kernel) rfl)
theorem lk_15_318 : g_lk "BandPressModel" 318 ⟨"BandPressModel", "isLikeAbove", "(II)Z"⟩ := Or.inl (g_Tm 1647 (by decide +kernel) rfl)
theorem lk_15_321 : g_lk "BandPressModel" 321 ⟨"BandPressModel", "line", "(II)V"⟩ := Or.inl (g_Tm 1659 (by decide +kernel) rfl)
theorem lk_15_324 : g_lk "BandPressModel" 324 ⟨"BandPressModel", "pack", "(II)Z"⟩ := Or.inl (g_Tm 1643 (by decide +kernel) rfl)
theorem lk_15_330 : g_lk "BandPressModel" 330 ⟨"BandPressModel", "sidesOf", "()I"⟩ := Or.inl (g_Tm 1691 (by decide +kernel) rfl)
theorem lk_15_333 : g_lk "BandPressModel" 333 ⟨"BandPressModel", "empty", "(I)V"⟩ := Or.inl (g_Tm 1695 (by decide +kernel) rfl)
theorem lk_15_336 : g_lk "BandPressModel" 336 ⟨"BandPressModel", "goes", "(I)Z"⟩ := Or.inl (g_Tm 1687 (by decide +kernel) rfl)
theorem lk_15_339 : g_lk "BandPressModel" 339 ⟨"BandPressModel", "shift", "(II)V"⟩ := Or.inl (g_Tm 1699 (by decide +kernel) rfl)
theorem lk_15_342 : g_lk "BandPressModel" 342 ⟨"BandPressModel", "toMake", "()I"⟩ := Or.inl (g_Tm 1707 (by decide +kernel) rfl)
theorem lk_15_345 : g_lk "BandPressModel" 345 ⟨"BandPressModel", "insideMany", "()I"⟩ := Or.inl (g_Tm 1679 (by decide +kernel) rfl)
theorem lk_15_360 : g_lk "BandPressModel" 360 ⟨"BandPressModel", "turn", "(I)Z"⟩ := Or.inl (g_Tm 1683 (by decide +kernel) rfl)
theorem lk_15_363 : g_lk "BandPressModel" 363 ⟨"BandPressModel", "feed", "()V"⟩ := Or.inl (g_Tm 1703 (by decide +kernel) rfl)
theorem lk_15_369 : g_lk "BandPressModel" 369 ⟨"BandPressModel", "tickOnce", "()V"⟩ := Or.inl (g_Tm 1675 (by decide +kernel) rfl)
theorem lk_15_372 : g_lk "BandPressModel" 372 ⟨"BandPressModel", "stateOf", "()I"⟩ := Or.inl (g_Tm 1711 (by decide +kernel) rfl)
theorem lk_15_375 : g_lk "BandPressModel" 375 ⟨"BandPressModel", "isSection", "(I)Z"⟩ := Or.inl (g_Tm 1719 (by decide +kernel) rfl)
theorem lk_13_335 : Cond.methodLink "java/lang/String" 335 ⟨"java/lang/String", "coder", "()B"⟩ ∈ g_T := (g_Tm 528 (by decide +kernel) rfl)
theorem lk_13_492 : Cond.methodLink "java/lang/String" 492 ⟨"java/lang/String", "isLatin1", "()Z"⟩ ∈ g_T := (g_Tm 518 (by decide +kernel) rfl)
theorem lk_13_505 : Cond.methodLink "java/lang/String" 505 ⟨"java/lang/String", "length", "()I"⟩ ∈ g_T := (g_Tm 524 (by decide +kernel) rfl)
theorem lk_13_633 : Cond.methodLink "java/lang/String" 633 ⟨"java/lang/String", "indexOf", "(II)I"⟩ ∈ g_T := (g_Tm 514 (by decide +kernel) rfl)
theorem lk_13_637 : g_lk "java/lang/String" 637 ⟨"java/lang/StringLatin1", "indexOf", "([BIII)I"⟩ := Or.inl (g_Tm 532 (by decide +kernel) rfl)
theorem lk_14_38 : g_lk "java/lang/StringLatin1" 38 ⟨"java/lang/Math", "min", "(II)I"⟩ := Or.inl (g_Tm 541 (by decide +kernel) rfl)
theorem lk_14_88 : g_lk "java/lang/StringLatin1" 88 ⟨"java/lang/StringLatin1", "canEncode", "(I)Z"⟩ := Or.inl (g_Tm 535 (by decide +kernel) rfl)
theorem lk_14_92 : g_lk "java/lang/StringLatin1" 92 ⟨"java/lang/Math", "max", "(II)I"⟩ := Or.inl (g_Tm 538 (by decide +kernel) rfl)
theorem lk_14_95 : g_lk "java/lang/StringLatin1" 95 ⟨"java/lang/StringLatin1", "indexOfChar", "([BIII)I"⟩ := Or.inl (g_Tm 544 (by decide +kernel) rfl)
set_option maxHeartbeats 4000000 in
set_option maxRecDepth 100000 in
theorem ms_B_isDigit : g_ms M_B_isDigit 1 := ⟨⟨g_Tm 89 (by decide +kernel) rfl, g_Tm 499 rfl rfl, by decide, by decide, by decide +kernel⟩, g_Tm 498 (by decide +kernel) rfl⟩
set_option maxHeartbeats 4000000 in
set_option maxRecDepth 100000 in
theorem ms_B_isLetter : g_ms M_B_isLetter 1 := ⟨⟨g_Tm 89 (by decide +kernel) rfl, g_Tm 502 rfl rfl, by decide, by decide, by decide +kernel⟩, g_Tm 501 (by decide +kernel) rfl⟩
set_option maxHeartbeats 4000000 in
set_option maxRecDepth 100000 in
theorem ms_B_isOneOf : g_ms M_B_isOneOf 2 := ⟨⟨g_Tm 89 (by decide +kernel) rfl, g_Tm 509 rfl rfl, by decide, by decide, by decide +kernel⟩, g_Tm 508 (by decide +kernel) rfl⟩
set_option maxHeartbeats 4000000 in
set_option maxRecDepth 100000 in
theorem mv_Calls_begin : g_mv M_Calls_begin 1 := ⟨⟨g_Tm 92 (by decide +kernel) rfl, g_Tm 613 rfl rfl, by decide, by decide, by decide +kernel⟩, g_Tm 611 (by decide +kernel) rfl, g_Tm 612 (by decide +kernel) rfl⟩
set_option maxHeartbeats 4000000 in
set_option maxRecDepth 100000 in
theorem mv_Calls_enter : g_mv M_Calls_enter 3 := ⟨⟨g_Tm 92 (by decide +kernel) rfl, g_Tm 1076 rfl rfl, by decide, by decide, by decide +kernel⟩, g_Tm 1074 (by decide +kernel) rfl, g_Tm 1075 (by decide +kernel) rfl⟩
set_option maxHeartbeats 4000000 in
set_option maxRecDepth 100000 in
theorem mv_Calls_goTo : g_mv M_Calls_goTo 1 := ⟨⟨g_Tm 92 (by decide +kernel) rfl, g_Tm 1044 rfl rfl, by decide, by decide, by decide +kernel⟩, g_Tm 1042 (by decide +kernel) rfl, g_Tm 1043 (by decide +kernel) rfl⟩
set_option maxHeartbeats 4000000 in
set_option maxRecDepth 100000 in
theorem mv_Calls_innermostLoop : g_mv M_Calls_innermostLoop 0 := ⟨⟨g_Tm 92 (by decide +kernel) rfl, g_Tm 1028 rfl rfl, by decide, by decide, by decide +kernel⟩, g_Tm 1026 (by decide +kernel) rfl, g_Tm 1027 (by decide +kernel) rfl⟩
set_option maxHeartbeats 4000000 in
set_option maxRecDepth 100000 in
theorem mv_Calls_isFull : g_mv M_Calls_isFull 0 := ⟨⟨g_Tm 92 (by decide +kernel) rfl, g_Tm 965 rfl rfl, by decide, by decide, by decide +kernel⟩, g_Tm 963 (by decide +kernel) rfl, g_Tm 964 (by decide +kernel) rfl⟩
set_option maxHeartbeats 4000000 in
set_option maxRecDepth 100000 in
theorem mv_Calls_isOver : g_mv M_Calls_isOver 0 := ⟨⟨g_Tm 92 (by decide +kernel) rfl, g_Tm 881 rfl rfl, by decide, by decide, by decide +kernel⟩, g_Tm 879 (by decide +kernel) rfl, g_Tm 880 (by decide +kernel) rfl⟩
set_option maxHeartbeats 4000000 in
set_option maxRecDepth 100000 in
theorem mv_Calls_leaveLoop : g_mv M_Calls_leaveLoop 0 := ⟨⟨g_Tm 92 (by decide +kernel) rfl, g_Tm 1071 rfl rfl, by decide, by decide, by decide +kernel⟩, g_Tm 1069 (by decide +kernel) rfl, g_Tm 1070 (by decide +kernel) rfl⟩
set_option maxHeartbeats 4000000 in
set_option maxRecDepth 100000 in
theorem mv_Calls_place : g_mv M_Calls_place 0 := ⟨⟨g_Tm 92 (by decide +kernel) rfl, g_Tm 889 rfl rfl, by decide, by decide, by decide +kernel⟩, g_Tm 887 (by decide +kernel) rfl, g_Tm 888 (by decide +kernel) rfl⟩
set_option maxHeartbeats 4000000 in
set_option maxRecDepth 100000 in
theorem mv_Calls_push : g_mv M_Calls_push 3 := ⟨⟨g_Tm 92 (by decide +kernel) rfl, g_Tm 617 rfl rfl, by decide, by decide, by decide +kernel⟩, g_Tm 616 (by decide +kernel) rfl, g_Tm 0 (by decide +kernel) rfl⟩
set_option maxHeartbeats 4000000 in
set_option maxRecDepth 100000 in
theorem mv_Calls_settle : g_mv M_Calls_settle 1 := ⟨⟨g_Tm 92 (by decide +kernel) rfl, g_Tm 621 rfl rfl, by decide, by decide, by decide +kernel⟩, g_Tm 619 (by decide +kernel) rfl, g_Tm 620 (by decide +kernel) rfl⟩
set_option maxHeartbeats 4000000 in
set_option maxRecDepth 100000 in
theorem ms_Filler_firstPixel : g_ms M_Filler_firstPixel 4 := ⟨⟨g_Tm 93 (by decide +kernel) rfl, g_Tm 988 rfl rfl, by decide, by decide, by decide +kernel⟩, g_Tm 987 (by decide +kernel) rfl⟩
set_option maxHeartbeats 4000000 in
set_option maxRecDepth 100000 in
theorem mv_Filler_meetEdges : g_mv M_Filler_meetEdges 2 := ⟨⟨g_Tm 93 (by decide +kernel) rfl, g_Tm 985 rfl rfl, by decide, by decide, by decide +kernel⟩, g_Tm 984 (by decide +kernel) rfl, g_Tm 17 (by decide +kernel) rfl⟩
set_option maxHeartbeats 4000000 in
set_option maxRecDepth 100000 in
theorem mv_Filler_sweep : g_mv M_Filler_sweep 1 := ⟨⟨g_Tm 93 (by decide +kernel) rfl, g_Tm 1002 rfl rfl, by decide, by decide, by decide +kernel⟩, g_Tm 1001 (by decide +kernel) rfl, g_Tm 18 (by decide +kernel) rfl⟩
set_option maxHeartbeats 4000000 in
set_option maxRecDepth 100000 in
theorem mv_Filler_trace : g_mv M_Filler_trace 2 := ⟨⟨g_Tm 93 (by decide +kernel) rfl, g_Tm 981 rfl rfl, by decide, by decide, by decide +kernel⟩, g_Tm 979 (by decide +kernel) rfl, g_Tm 980 (by decide +kernel) rfl⟩
set_option maxHeartbeats 4000000 in
set_option maxRecDepth 100000 in
theorem mv_Job_assign : g_mv M_Job_assign 1 := ⟨⟨g_Tm 91 (by decide +kernel) rfl, g_Tm 1061 rfl rfl, by decide, by decide, by decide +kernel⟩, g_Tm 1060 (by decide +kernel) rfl, g_Tm 21 (by decide +kernel) rfl⟩
set_option maxHeartbeats 4000000 in
set_option maxRecDepth 100000 in
theorem mv_Job_begin : g_mv M_Job_begin 2 := ⟨⟨g_Tm 91 (by decide +kernel) rfl, g_Tm 602 rfl rfl, by decide, by decide, by decide +kernel⟩, g_Tm 600 (by decide +kernel) rfl, g_Tm 601 (by decide +kernel) rfl⟩
set_option maxHeartbeats 4000000 in
set_option maxRecDepth 100000 in
theorem mv_Job_control : g_mv M_Job_control 1 := ⟨⟨g_Tm 91 (by decide +kernel) rfl, g_Tm 1067 rfl rfl, by decide, by decide, by decide +kernel⟩, g_Tm 1066 (by decide +kernel) rfl, g_Tm 22 (by decide +kernel) rfl⟩
set_option maxHeartbeats 4000000 in
set_option maxRecDepth 100000 in
theorem mv_Job_draw : g_mv M_Job_draw 1 := ⟨⟨g_Tm 91 (by decide +kernel) rfl, g_Tm 1083 rfl rfl, by decide, by decide, by decide +kernel⟩, g_Tm 1082 (by decide +kernel) rfl, g_Tm 23 (by decide +kernel) rfl⟩
set_option maxHeartbeats 4000000 in
set_option maxRecDepth 100000 in
theorem mv_Job_endIfOver : g_mv M_Job_endIfOver 0 := ⟨⟨g_Tm 91 (by decide +kernel) rfl, g_Tm 877 rfl rfl, by decide, by decide, by decide +kernel⟩, g_Tm 875 (by decide +kernel) rfl, g_Tm 876 (by decide +kernel) rfl⟩
set_option maxHeartbeats 4000000 in
set_option maxRecDepth 100000 in
theorem mv_Job_errorOf : g_mv M_Job_errorOf 1 := ⟨⟨g_Tm 91 (by decide +kernel) rfl, g_Tm 894 rfl rfl, by decide, by decide, by decide +kernel⟩, g_Tm 893 (by decide +kernel) rfl, g_Tm 9 (by decide +kernel) rfl⟩
set_option maxHeartbeats 4000000 in
set_option maxRecDepth 100000 in
theorem mv_Job_goesBeyond : g_mv M_Job_goesBeyond 1 := ⟨⟨g_Tm 91 (by decide +kernel) rfl, g_Tm 914 rfl rfl, by decide, by decide, by decide +kernel⟩, g_Tm 913 (by decide +kernel) rfl, g_Tm 11 (by decide +kernel) rfl⟩
set_option maxHeartbeats 4000000 in
set_option maxRecDepth 100000 in
theorem mv_Job_isFarOff : g_mv M_Job_isFarOff 1 := ⟨⟨g_Tm 91 (by decide +kernel) rfl, g_Tm 927 rfl rfl, by decide, by decide, by decide +kernel⟩, g_Tm 926 (by decide +kernel) rfl, g_Tm 13 (by decide +kernel) rfl⟩
set_option maxHeartbeats 4000000 in
set_option maxRecDepth 100000 in
theorem mv_Job_isUnderWay : g_mv M_Job_isUnderWay 0 := ⟨⟨g_Tm 91 (by decide +kernel) rfl, g_Tm 488 rfl rfl, by decide, by decide, by decide +kernel⟩, g_Tm 486 (by decide +kernel) rfl, g_Tm 487 (by decide +kernel) rfl⟩
set_option maxHeartbeats 4000000 in
set_option maxRecDepth 100000 in
theorem mv_Job_kindsFit : g_mv M_Job_kindsFit 2 := ⟨⟨g_Tm 91 (by decide +kernel) rfl, g_Tm 901 rfl rfl, by decide, by decide, by decide +kernel⟩, g_Tm 900 (by decide +kernel) rfl, g_Tm 10 (by decide +kernel) rfl⟩
set_option maxHeartbeats 4000000 in
set_option maxRecDepth 100000 in
theorem mv_Job_lacksRoom : g_mv M_Job_lacksRoom 1 := ⟨⟨g_Tm 91 (by decide +kernel) rfl, g_Tm 955 rfl rfl, by decide, by decide, by decide +kernel⟩, g_Tm 954 (by decide +kernel) rfl, g_Tm 14 (by decide +kernel) rfl⟩
set_option maxHeartbeats 4000000 in
set_option maxRecDepth 100000 in
theorem mv_Job_marksTooMuch : g_mv M_Job_marksTooMuch 1 := ⟨⟨g_Tm 91 (by decide +kernel) rfl, g_Tm 977 rfl rfl, by decide, by decide, by decide +kernel⟩, g_Tm 976 (by decide +kernel) rfl, g_Tm 16 (by decide +kernel) rfl⟩
set_option maxHeartbeats 4000000 in
set_option maxRecDepth 100000 in
theorem ms_Job_needs : g_ms M_Job_needs 1 := ⟨⟨g_Tm 91 (by decide +kernel) rfl, g_Tm 897 rfl rfl, by decide, by decide, by decide +kernel⟩, g_Tm 896 (by decide +kernel) rfl⟩
set_option maxHeartbeats 4000000 in
set_option maxRecDepth 100000 in
theorem mv_Job_perform : g_mv M_Job_perform 2 := ⟨⟨g_Tm 91 (by decide +kernel) rfl, g_Tm 1048 rfl rfl, by decide, by decide, by decide +kernel⟩, g_Tm 1047 (by decide +kernel) rfl, g_Tm 20 (by decide +kernel) rfl⟩
set_option maxHeartbeats 4000000 in
set_option maxRecDepth 100000 in
theorem mv_Job_placedX : g_mv M_Job_placedX 1 := ⟨⟨g_Tm 91 (by decide +kernel) rfl, g_Tm 1087 rfl rfl, by decide, by decide, by decide +kernel⟩, g_Tm 1086 (by decide +kernel) rfl, g_Tm 24 (by decide +kernel) rfl⟩
set_option maxHeartbeats 4000000 in
set_option maxRecDepth 100000 in
theorem mv_Job_placedY : g_mv M_Job_placedY 1 := ⟨⟨g_Tm 91 (by decide +kernel) rfl, g_Tm 1091 rfl rfl, by decide, by decide, by decide +kernel⟩, g_Tm 1090 (by decide +kernel) rfl, g_Tm 25 (by decide +kernel) rfl⟩
set_option maxHeartbeats 4000000 in
set_option maxRecDepth 100000 in
theorem mv_Job_placesFor : g_mv M_Job_placesFor 1 := ⟨⟨g_Tm 91 (by decide +kernel) rfl, g_Tm 969 rfl rfl, by decide, by decide, by decide +kernel⟩, g_Tm 968 (by decide +kernel) rfl, g_Tm 15 (by decide +kernel) rfl⟩
set_option maxHeartbeats 4000000 in
set_option maxRecDepth 100000 in
theorem mv_Job_reckon : g_mv M_Job_reckon 1 := ⟨⟨g_Tm 91 (by decide +kernel) rfl, g_Tm 1181 rfl rfl, by decide, by decide, by decide +kernel⟩, g_Tm 1180 (by decide +kernel) rfl, g_Tm 29 (by decide +kernel) rfl⟩
set_option maxHeartbeats 4000000 in
set_option maxRecDepth 100000 in
theorem mv_Job_resultOf : g_mv M_Job_resultOf 1 := ⟨⟨g_Tm 91 (by decide +kernel) rfl, g_Tm 918 rfl rfl, by decide, by decide, by decide +kernel⟩, g_Tm 917 (by decide +kernel) rfl, g_Tm 12 (by decide +kernel) rfl⟩
set_option maxHeartbeats 4000000 in
set_option maxRecDepth 100000 in
theorem mv_Job_step : g_mv M_Job_step 0 := ⟨⟨g_Tm 91 (by decide +kernel) rfl, g_Tm 885 rfl rfl, by decide, by decide, by decide +kernel⟩, g_Tm 883 (by decide +kernel) rfl, g_Tm 884 (by decide +kernel) rfl⟩
set_option maxHeartbeats 4000000 in
set_option maxRecDepth 100000 in
theorem mv_Job_use : g_mv M_Job_use 1 := ⟨⟨g_Tm 91 (by decide +kernel) rfl, g_Tm 1133 rfl rfl, by decide, by decide, by decide +kernel⟩, g_Tm 1132 (by decide +kernel) rfl, g_Tm 28 (by decide +kernel) rfl⟩
set_option maxHeartbeats 4000000 in
set_option maxRecDepth 100000 in
theorem mv_Machine_anySticks : g_mv M_Machine_anySticks 0 := ⟨⟨g_Tm 100 (by decide +kernel) rfl, g_Tm 1229 rfl rfl, by decide, by decide, by decide +kernel⟩, g_Tm 1228 (by decide +kernel) rfl, g_Tm 30 (by decide +kernel) rfl⟩
set_option maxHeartbeats 4000000 in
set_option maxRecDepth 100000 in
theorem mv_Machine_empty : g_mv M_Machine_empty 1 := ⟨⟨g_Tm 100 (by decide +kernel) rfl, g_Tm 740 rfl rfl, by decide, by decide, by decide +kernel⟩, g_Tm 739 (by decide +kernel) rfl, g_Tm 6 (by decide +kernel) rfl⟩
set_option maxHeartbeats 4000000 in
set_option maxRecDepth 100000 in
theorem mv_Machine_feed : g_mv M_Machine_feed 0 := ⟨⟨g_Tm 100 (by decide +kernel) rfl, g_Tm 1267 rfl rfl, by decide, by decide, by decide +kernel⟩, g_Tm 1266 (by decide +kernel) rfl, g_Tm 37 (by decide +kernel) rfl⟩
set_option maxHeartbeats 4000000 in
set_option maxRecDepth 100000 in
theorem mv_Machine_ifFree : g_mv M_Machine_ifFree 1 := ⟨⟨g_Tm 100 (by decide +kernel) rfl, g_Tm 1247 rfl rfl, by decide, by decide, by decide +kernel⟩, g_Tm 1246 (by decide +kernel) rfl, g_Tm 34 (by decide +kernel) rfl⟩
set_option maxHeartbeats 4000000 in
set_option maxRecDepth 100000 in
theorem mv_Machine_inside : g_mv M_Machine_inside 0 := ⟨⟨g_Tm 100 (by decide +kernel) rfl, g_Tm 786 rfl rfl, by decide, by decide, by decide +kernel⟩, g_Tm 785 (by decide +kernel) rfl, g_Tm 7 (by decide +kernel) rfl⟩
set_option maxHeartbeats 4000000 in
set_option maxRecDepth 100000 in
theorem mv_Machine_isInside : g_mv M_Machine_isInside 1 := ⟨⟨g_Tm 100 (by decide +kernel) rfl, g_Tm 1276 rfl rfl, by decide, by decide, by decide +kernel⟩, g_Tm 1275 (by decide +kernel) rfl, g_Tm 39 (by decide +kernel) rfl⟩
set_option maxHeartbeats 4000000 in
set_option maxRecDepth 100000 in
theorem ms_Machine_isSection : g_ms M_Machine_isSection 1 := ⟨⟨g_Tm 100 (by decide +kernel) rfl, g_Tm 728 rfl rfl, by decide, by decide, by decide +kernel⟩, g_Tm 727 (by decide +kernel) rfl⟩
set_option maxHeartbeats 4000000 in
set_option maxRecDepth 100000 in
theorem mv_Machine_move : g_mv M_Machine_move 2 := ⟨⟨g_Tm 100 (by decide +kernel) rfl, g_Tm 1251 rfl rfl, by decide, by decide, by decide +kernel⟩, g_Tm 1250 (by decide +kernel) rfl, g_Tm 35 (by decide +kernel) rfl⟩
set_option maxHeartbeats 4000000 in
set_option maxRecDepth 100000 in
theorem mv_Machine_moveAll : g_mv M_Machine_moveAll 0 := ⟨⟨g_Tm 100 (by decide +kernel) rfl, g_Tm 1234 rfl rfl, by decide, by decide, by decide +kernel⟩, g_Tm 1233 (by decide +kernel) rfl, g_Tm 31 (by decide +kernel) rfl⟩
set_option maxHeartbeats 4000000 in
set_option maxRecDepth 100000 in
theorem mv_Machine_moveFrom : g_mv M_Machine_moveFrom 1 := ⟨⟨g_Tm 100 (by decide +kernel) rfl, g_Tm 1238 rfl rfl, by decide, by decide, by decide +kernel⟩, g_Tm 1237 (by decide +kernel) rfl, g_Tm 32 (by decide +kernel) rfl⟩
set_option maxHeartbeats 4000000 in
set_option maxRecDepth 100000 in
theorem mv_Machine_nextToMake : g_mv M_Machine_nextToMake 0 := ⟨⟨g_Tm 100 (by decide +kernel) rfl, g_Tm 1271 rfl rfl, by decide, by decide, by decide +kernel⟩, g_Tm 1270 (by decide +kernel) rfl, g_Tm 38 (by decide +kernel) rfl⟩
set_option maxHeartbeats 4000000 in
set_option maxRecDepth 100000 in
theorem mv_Machine_pass : g_mv M_Machine_pass 0 := ⟨⟨g_Tm 100 (by decide +kernel) rfl, g_Tm 1223 rfl rfl, by decide, by decide, by decide +kernel⟩, g_Tm 1221 (by decide +kernel) rfl, g_Tm 1222 (by decide +kernel) rfl⟩
set_option maxHeartbeats 4000000 in
set_option maxRecDepth 100000 in
theorem mv_Machine_place : g_mv M_Machine_place 3 := ⟨⟨g_Tm 100 (by decide +kernel) rfl, g_Tm 1263 rfl rfl, by decide, by decide, by decide +kernel⟩, g_Tm 1262 (by decide +kernel) rfl, g_Tm 36 (by decide +kernel) rfl⟩
set_option maxHeartbeats 4000000 in
set_option maxRecDepth 100000 in
theorem mv_Machine_remove : g_mv M_Machine_remove 1 := ⟨⟨g_Tm 100 (by decide +kernel) rfl, g_Tm 736 rfl rfl, by decide, by decide, by decide +kernel⟩, g_Tm 734 (by decide +kernel) rfl, g_Tm 735 (by decide +kernel) rfl⟩
set_option maxHeartbeats 4000000 in
set_option maxRecDepth 100000 in
theorem mv_Machine_state : g_mv M_Machine_state 0 := ⟨⟨g_Tm 100 (by decide +kernel) rfl, g_Tm 781 rfl rfl, by decide, by decide, by decide +kernel⟩, g_Tm 779 (by decide +kernel) rfl, g_Tm 780 (by decide +kernel) rfl⟩
set_option maxHeartbeats 4000000 in
set_option maxRecDepth 100000 in
theorem mv_Machine_wayFrom : g_mv M_Machine_wayFrom 1 := ⟨⟨g_Tm 100 (by decide +kernel) rfl, g_Tm 1242 rfl rfl, by decide, by decide, by decide +kernel⟩, g_Tm 1241 (by decide +kernel) rfl, g_Tm 33 (by decide +kernel) rfl⟩
set_option maxHeartbeats 4000000 in
set_option maxRecDepth 100000 in
theorem mv_Order_begin : g_mv M_Order_begin 2 := ⟨⟨g_Tm 99 (by decide +kernel) rfl, g_Tm 658 rfl rfl, by decide, by decide, by decide +kernel⟩, g_Tm 656 (by decide +kernel) rfl, g_Tm 657 (by decide +kernel) rfl⟩
set_option maxHeartbeats 4000000 in
set_option maxRecDepth 100000 in
theorem mv_Order_complete : g_mv M_Order_complete 1 := ⟨⟨g_Tm 99 (by decide +kernel) rfl, g_Tm 1187 rfl rfl, by decide, by decide, by decide +kernel⟩, g_Tm 1185 (by decide +kernel) rfl, g_Tm 1186 (by decide +kernel) rfl⟩
set_option maxHeartbeats 4000000 in
set_option maxRecDepth 100000 in
theorem mv_Order_copyOf : g_mv M_Order_copyOf 1 := ⟨⟨g_Tm 99 (by decide +kernel) rfl, g_Tm 760 rfl rfl, by decide, by decide, by decide +kernel⟩, g_Tm 758 (by decide +kernel) rfl, g_Tm 759 (by decide +kernel) rfl⟩
set_option maxHeartbeats 4000000 in
set_option maxRecDepth 100000 in
theorem mv_Order_firstPage : g_mv M_Order_firstPage 1 := ⟨⟨g_Tm 99 (by decide +kernel) rfl, g_Tm 764 rfl rfl, by decide, by decide, by decide +kernel⟩, g_Tm 762 (by decide +kernel) rfl, g_Tm 763 (by decide +kernel) rfl⟩
set_option maxHeartbeats 4000000 in
set_option maxRecDepth 100000 in
theorem mv_Order_isLeft : g_mv M_Order_isLeft 1 := ⟨⟨g_Tm 99 (by decide +kernel) rfl, g_Tm 1259 rfl rfl, by decide, by decide, by decide +kernel⟩, g_Tm 1257 (by decide +kernel) rfl, g_Tm 1258 (by decide +kernel) rfl⟩
set_option maxHeartbeats 4000000 in
set_option maxRecDepth 100000 in
theorem mv_Order_left : g_mv M_Order_left 0 := ⟨⟨g_Tm 99 (by decide +kernel) rfl, g_Tm 492 rfl rfl, by decide, by decide, by decide +kernel⟩, g_Tm 490 (by decide +kernel) rfl, g_Tm 491 (by decide +kernel) rfl⟩
set_option maxHeartbeats 4000000 in
set_option maxRecDepth 100000 in
theorem mv_Order_putOut : g_mv M_Order_putOut 1 := ⟨⟨g_Tm 99 (by decide +kernel) rfl, g_Tm 1255 rfl rfl, by decide, by decide, by decide +kernel⟩, g_Tm 1253 (by decide +kernel) rfl, g_Tm 1254 (by decide +kernel) rfl⟩
set_option maxHeartbeats 4000000 in
set_option maxRecDepth 100000 in
theorem mv_Order_secondPage : g_mv M_Order_secondPage 1 := ⟨⟨g_Tm 99 (by decide +kernel) rfl, g_Tm 772 rfl rfl, by decide, by decide, by decide +kernel⟩, g_Tm 770 (by decide +kernel) rfl, g_Tm 771 (by decide +kernel) rfl⟩
set_option maxHeartbeats 4000000 in
set_option maxRecDepth 100000 in
theorem mv_Order_sides : g_mv M_Order_sides 0 := ⟨⟨g_Tm 99 (by decide +kernel) rfl, g_Tm 768 rfl rfl, by decide, by decide, by decide +kernel⟩, g_Tm 766 (by decide +kernel) rfl, g_Tm 767 (by decide +kernel) rfl⟩
set_option maxHeartbeats 4000000 in
set_option maxRecDepth 100000 in
theorem mv_Packer_add : g_mv M_Packer_add 1 := ⟨⟨g_Tm 101 (by decide +kernel) rfl, g_Tm 704 rfl rfl, by decide, by decide, by decide +kernel⟩, g_Tm 703 (by decide +kernel) rfl, g_Tm 2 (by decide +kernel) rfl⟩
set_option maxHeartbeats 4000000 in
set_option maxRecDepth 100000 in
theorem ms_Packer_linesAlike : g_ms M_Packer_linesAlike 4 := ⟨⟨g_Tm 101 (by decide +kernel) rfl, g_Tm 699 rfl rfl, by decide, by decide, by decide +kernel⟩, g_Tm 698 (by decide +kernel) rfl⟩
set_option maxHeartbeats 4000000 in
set_option maxRecDepth 100000 in
theorem mv_Packer_octetsAlike : g_mv M_Packer_octetsAlike 1 := ⟨⟨g_Tm 101 (by decide +kernel) rfl, g_Tm 712 rfl rfl, by decide, by decide, by decide +kernel⟩, g_Tm 711 (by decide +kernel) rfl, g_Tm 4 (by decide +kernel) rfl⟩
set_option maxHeartbeats 4000000 in
set_option maxRecDepth 100000 in
theorem mv_Packer_octetsApart : g_mv M_Packer_octetsApart 1 := ⟨⟨g_Tm 101 (by decide +kernel) rfl, g_Tm 716 rfl rfl, by decide, by decide, by decide +kernel⟩, g_Tm 715 (by decide +kernel) rfl, g_Tm 5 (by decide +kernel) rfl⟩
set_option maxHeartbeats 4000000 in
set_option maxRecDepth 100000 in
theorem mv_Packer_pack : g_mv M_Packer_pack 3 := ⟨⟨g_Tm 101 (by decide +kernel) rfl, g_Tm 696 rfl rfl, by decide, by decide, by decide +kernel⟩, g_Tm 694 (by decide +kernel) rfl, g_Tm 695 (by decide +kernel) rfl⟩
set_option maxHeartbeats 4000000 in
set_option maxRecDepth 100000 in
theorem mv_Packer_packLine : g_mv M_Packer_packLine 1 := ⟨⟨g_Tm 101 (by decide +kernel) rfl, g_Tm 708 rfl rfl, by decide, by decide, by decide +kernel⟩, g_Tm 707 (by decide +kernel) rfl, g_Tm 3 (by decide +kernel) rfl⟩
set_option maxHeartbeats 4000000 in
set_option maxRecDepth 100000 in
theorem mv_Pages_clean : g_mv M_Pages_clean 0 := ⟨⟨g_Tm 98 (by decide +kernel) rfl, g_Tm 653 rfl rfl, by decide, by decide, by decide +kernel⟩, g_Tm 652 (by decide +kernel) rfl, g_Tm 1 (by decide +kernel) rfl⟩
set_option maxHeartbeats 4000000 in
set_option maxRecDepth 100000 in
theorem mv_Pages_clear : g_mv M_Pages_clear 0 := ⟨⟨g_Tm 98 (by decide +kernel) rfl, g_Tm 649 rfl rfl, by decide, by decide, by decide +kernel⟩, g_Tm 647 (by decide +kernel) rfl, g_Tm 648 (by decide +kernel) rfl⟩
set_option maxHeartbeats 4000000 in
set_option maxRecDepth 100000 in
theorem ms_Pages_dots : g_ms M_Pages_dots 2 := ⟨⟨g_Tm 98 (by decide +kernel) rfl, g_Tm 1142 rfl rfl, by decide, by decide, by decide +kernel⟩, g_Tm 1141 (by decide +kernel) rfl⟩
set_option maxHeartbeats 4000000 in
set_option maxRecDepth 100000 in
theorem mv_Pages_isFull : g_mv M_Pages_isFull 0 := ⟨⟨g_Tm 98 (by decide +kernel) rfl, g_Tm 1020 rfl rfl, by decide, by decide, by decide +kernel⟩, g_Tm 1018 (by decide +kernel) rfl, g_Tm 1019 (by decide +kernel) rfl⟩
set_option maxHeartbeats 4000000 in
set_option maxRecDepth 100000 in
theorem mv_Pages_isKept : g_mv M_Pages_isKept 1 := ⟨⟨g_Tm 98 (by decide +kernel) rfl, g_Tm 687 rfl rfl, by decide, by decide, by decide +kernel⟩, g_Tm 685 (by decide +kernel) rfl, g_Tm 686 (by decide +kernel) rfl⟩
set_option maxHeartbeats 4000000 in
set_option maxRecDepth 100000 in
theorem mv_Pages_keep : g_mv M_Pages_keep 0 := ⟨⟨g_Tm 98 (by decide +kernel) rfl, g_Tm 1153 rfl rfl, by decide, by decide, by decide +kernel⟩, g_Tm 1151 (by decide +kernel) rfl, g_Tm 1152 (by decide +kernel) rfl⟩
set_option maxHeartbeats 4000000 in
set_option maxRecDepth 100000 in
theorem mv_Pages_line : g_mv M_Pages_line 2 := ⟨⟨g_Tm 98 (by decide +kernel) rfl, g_Tm 683 rfl rfl, by decide, by decide, by decide +kernel⟩, g_Tm 681 (by decide +kernel) rfl, g_Tm 682 (by decide +kernel) rfl⟩
set_option maxHeartbeats 4000000 in
set_option maxRecDepth 100000 in
theorem ms_Pages_marksOf : g_ms M_Pages_marksOf 2 := ⟨⟨g_Tm 98 (by decide +kernel) rfl, g_Tm 1005 rfl rfl, by decide, by decide, by decide +kernel⟩, g_Tm 1004 (by decide +kernel) rfl⟩
set_option maxHeartbeats 4000000 in
set_option maxRecDepth 100000 in
theorem mv_Pages_paint : g_mv M_Pages_paint 2 := ⟨⟨g_Tm 98 (by decide +kernel) rfl, g_Tm 1137 rfl rfl, by decide, by decide, by decide +kernel⟩, g_Tm 1135 (by decide +kernel) rfl, g_Tm 1136 (by decide +kernel) rfl⟩
set_option maxHeartbeats 4000000 in
set_option maxRecDepth 100000 in
theorem mv_Path_add : g_mv M_Path_add 3 := ⟨⟨g_Tm 97 (by decide +kernel) rfl, g_Tm 1099 rfl rfl, by decide, by decide, by decide +kernel⟩, g_Tm 1098 (by decide +kernel) rfl, g_Tm 26 (by decide +kernel) rfl⟩
set_option maxHeartbeats 4000000 in
set_option maxRecDepth 100000 in
theorem mv_Path_begin : g_mv M_Path_begin 2 := ⟨⟨g_Tm 97 (by decide +kernel) rfl, g_Tm 1095 rfl rfl, by decide, by decide, by decide +kernel⟩, g_Tm 1093 (by decide +kernel) rfl, g_Tm 1094 (by decide +kernel) rfl⟩
set_option maxHeartbeats 4000000 in
set_option maxRecDepth 100000 in
theorem mv_Path_bend : g_mv M_Path_bend 3 := ⟨⟨g_Tm 97 (by decide +kernel) rfl, g_Tm 1112 rfl rfl, by decide, by decide, by decide +kernel⟩, g_Tm 1110 (by decide +kernel) rfl, g_Tm 1111 (by decide +kernel) rfl⟩
set_option maxHeartbeats 4000000 in
set_option maxRecDepth 100000 in
theorem mv_Path_clear : g_mv M_Path_clear 0 := ⟨⟨g_Tm 97 (by decide +kernel) rfl, g_Tm 645 rfl rfl, by decide, by decide, by decide +kernel⟩, g_Tm 643 (by decide +kernel) rfl, g_Tm 644 (by decide +kernel) rfl⟩
set_option maxHeartbeats 4000000 in
set_option maxRecDepth 100000 in
theorem mv_Path_close : g_mv M_Path_close 0 := ⟨⟨g_Tm 97 (by decide +kernel) rfl, g_Tm 1128 rfl rfl, by decide, by decide, by decide +kernel⟩, g_Tm 1126 (by decide +kernel) rfl, g_Tm 1127 (by decide +kernel) rfl⟩
set_option maxHeartbeats 4000000 in
set_option maxRecDepth 100000 in
theorem mv_Path_curve : g_mv M_Path_curve 0 := ⟨⟨g_Tm 97 (by decide +kernel) rfl, g_Tm 1116 rfl rfl, by decide, by decide, by decide +kernel⟩, g_Tm 1114 (by decide +kernel) rfl, g_Tm 1115 (by decide +kernel) rfl⟩
set_option maxHeartbeats 4000000 in
set_option maxRecDepth 100000 in
theorem mv_Path_goOn : g_mv M_Path_goOn 0 := ⟨⟨g_Tm 97 (by decide +kernel) rfl, g_Tm 1107 rfl rfl, by decide, by decide, by decide +kernel⟩, g_Tm 1106 (by decide +kernel) rfl, g_Tm 27 (by decide +kernel) rfl⟩
set_option maxHeartbeats 4000000 in
set_option maxRecDepth 100000 in
theorem ms_Path_halve : g_ms M_Path_halve 3 := ⟨⟨g_Tm 97 (by decide +kernel) rfl, g_Tm 1121 rfl rfl, by decide, by decide, by decide +kernel⟩, g_Tm 1120 (by decide +kernel) rfl⟩
set_option maxHeartbeats 4000000 in
set_option maxRecDepth 100000 in
theorem mv_Path_lineTo : g_mv M_Path_lineTo 2 := ⟨⟨g_Tm 97 (by decide +kernel) rfl, g_Tm 1103 rfl rfl, by decide, by decide, by decide +kernel⟩, g_Tm 1101 (by decide +kernel) rfl, g_Tm 1102 (by decide +kernel) rfl⟩
set_option maxHeartbeats 4000000 in
set_option maxRecDepth 100000 in
theorem ms_Path_middle : g_ms M_Path_middle 2 := ⟨⟨g_Tm 97 (by decide +kernel) rfl, g_Tm 1124 rfl rfl, by decide, by decide, by decide +kernel⟩, g_Tm 1123 (by decide +kernel) rfl⟩
set_option maxHeartbeats 4000000 in
set_option maxRecDepth 100000 in
theorem mv_Path_placesFor : g_mv M_Path_placesFor 1 := ⟨⟨g_Tm 97 (by decide +kernel) rfl, g_Tm 973 rfl rfl, by decide, by decide, by decide +kernel⟩, g_Tm 971 (by decide +kernel) rfl, g_Tm 972 (by decide +kernel) rfl⟩
set_option maxHeartbeats 4000000 in
set_option maxRecDepth 100000 in
theorem mv_Settings_clipLine : g_mv M_Settings_clipLine 1 := ⟨⟨g_Tm 95 (by decide +kernel) rfl, g_Tm 1009 rfl rfl, by decide, by decide, by decide +kernel⟩, g_Tm 1007 (by decide +kernel) rfl, g_Tm 1008 (by decide +kernel) rfl⟩
set_option maxHeartbeats 4000000 in
set_option maxRecDepth 100000 in
theorem mv_Settings_cutClip : g_mv M_Settings_cutClip 1 := ⟨⟨g_Tm 95 (by decide +kernel) rfl, g_Tm 1149 rfl rfl, by decide, by decide, by decide +kernel⟩, g_Tm 1147 (by decide +kernel) rfl, g_Tm 1148 (by decide +kernel) rfl⟩
set_option maxHeartbeats 4000000 in
set_option maxRecDepth 100000 in
theorem mv_Settings_greyNow : g_mv M_Settings_greyNow 0 := ⟨⟨g_Tm 95 (by decide +kernel) rfl, g_Tm 671 rfl rfl, by decide, by decide, by decide +kernel⟩, g_Tm 669 (by decide +kernel) rfl, g_Tm 670 (by decide +kernel) rfl⟩
set_option maxHeartbeats 4000000 in
set_option maxRecDepth 100000 in
theorem mv_Settings_move : g_mv M_Settings_move 2 := ⟨⟨g_Tm 95 (by decide +kernel) rfl, g_Tm 1158 rfl rfl, by decide, by decide, by decide +kernel⟩, g_Tm 1156 (by decide +kernel) rfl, g_Tm 1157 (by decide +kernel) rfl⟩
set_option maxHeartbeats 4000000 in
set_option maxRecDepth 100000 in
theorem mv_Settings_placedX : g_mv M_Settings_placedX 1 := ⟨⟨g_Tm 95 (by decide +kernel) rfl, g_Tm 931 rfl rfl, by decide, by decide, by decide +kernel⟩, g_Tm 929 (by decide +kernel) rfl, g_Tm 930 (by decide +kernel) rfl⟩
set_option maxHeartbeats 4000000 in
set_option maxRecDepth 100000 in
theorem mv_Settings_placedY : g_mv M_Settings_placedY 1 := ⟨⟨g_Tm 95 (by decide +kernel) rfl, g_Tm 944 rfl rfl, by decide, by decide, by decide +kernel⟩, g_Tm 942 (by decide +kernel) rfl, g_Tm 943 (by decide +kernel) rfl⟩
set_option maxHeartbeats 4000000 in
set_option maxRecDepth 100000 in
theorem mv_Settings_reset : g_mv M_Settings_reset 0 := ⟨⟨g_Tm 95 (by decide +kernel) rfl, g_Tm 641 rfl rfl, by decide, by decide, by decide +kernel⟩, g_Tm 639 (by decide +kernel) rfl, g_Tm 640 (by decide +kernel) rfl⟩
set_option maxHeartbeats 4000000 in
set_option maxRecDepth 100000 in
theorem mv_Settings_save : g_mv M_Settings_save 0 := ⟨⟨g_Tm 95 (by decide +kernel) rfl, g_Tm 1172 rfl rfl, by decide, by decide, by decide +kernel⟩, g_Tm 1170 (by decide +kernel) rfl, g_Tm 1171 (by decide +kernel) rfl⟩
set_option maxHeartbeats 4000000 in
set_option maxRecDepth 100000 in
theorem mv_Settings_saved : g_mv M_Settings_saved 0 := ⟨⟨g_Tm 95 (by decide +kernel) rfl, g_Tm 1024 rfl rfl, by decide, by decide, by decide +kernel⟩, g_Tm 1022 (by decide +kernel) rfl, g_Tm 1023 (by decide +kernel) rfl⟩
set_option maxHeartbeats 4000000 in
set_option maxRecDepth 100000 in
theorem mv_Settings_setGrey : g_mv M_Settings_setGrey 1 := ⟨⟨g_Tm 95 (by decide +kernel) rfl, g_Tm 1168 rfl rfl, by decide, by decide, by decide +kernel⟩, g_Tm 1166 (by decide +kernel) rfl, g_Tm 1167 (by decide +kernel) rfl⟩
set_option maxHeartbeats 4000000 in
set_option maxRecDepth 100000 in
theorem mv_Settings_stretch : g_mv M_Settings_stretch 2 := ⟨⟨g_Tm 95 (by decide +kernel) rfl, g_Tm 1164 rfl rfl, by decide, by decide, by decide +kernel⟩, g_Tm 1162 (by decide +kernel) rfl, g_Tm 1163 (by decide +kernel) rfl⟩
set_option maxHeartbeats 4000000 in
set_option maxRecDepth 100000 in
theorem mv_Settings_stretchedX : g_mv M_Settings_stretchedX 1 := ⟨⟨g_Tm 95 (by decide +kernel) rfl, g_Tm 935 rfl rfl, by decide, by decide, by decide +kernel⟩, g_Tm 933 (by decide +kernel) rfl, g_Tm 934 (by decide +kernel) rfl⟩
set_option maxHeartbeats 4000000 in
set_option maxRecDepth 100000 in
theorem mv_Settings_stretchedY : g_mv M_Settings_stretchedY 1 := ⟨⟨g_Tm 95 (by decide +kernel) rfl, g_Tm 948 rfl rfl, by decide, by decide, by decide +kernel⟩, g_Tm 946 (by decide +kernel) rfl, g_Tm 947 (by decide +kernel) rfl⟩
set_option maxHeartbeats 4000000 in
set_option maxRecDepth 100000 in
theorem mv_Settings_takeBack : g_mv M_Settings_takeBack 0 := ⟨⟨g_Tm 95 (by decide +kernel) rfl, g_Tm 1177 rfl rfl, by decide, by decide, by decide +kernel⟩, g_Tm 1175 (by decide +kernel) rfl, g_Tm 1176 (by decide +kernel) rfl⟩
set_option maxHeartbeats 4000000 in
set_option maxRecDepth 100000 in
theorem mv_Text_append : g_mv M_Text_append 2 := ⟨⟨g_Tm 90 (by decide +kernel) rfl, g_Tm 474 rfl rfl, by decide, by decide, by decide +kernel⟩, g_Tm 472 (by decide +kernel) rfl, g_Tm 473 (by decide +kernel) rfl⟩
set_option maxHeartbeats 4000000 in
set_option maxRecDepth 100000 in
theorem mv_Text_behind : g_mv M_Text_behind 1 := ⟨⟨g_Tm 90 (by decide +kernel) rfl, g_Tm 1032 rfl rfl, by decide, by decide, by decide +kernel⟩, g_Tm 1030 (by decide +kernel) rfl, g_Tm 1031 (by decide +kernel) rfl⟩
set_option maxHeartbeats 4000000 in
set_option maxRecDepth 100000 in
theorem mv_Text_behindDigits : g_mv M_Text_behindDigits 1 := ⟨⟨g_Tm 90 (by decide +kernel) rfl, g_Tm 1040 rfl rfl, by decide, by decide, by decide +kernel⟩, g_Tm 1039 (by decide +kernel) rfl, g_Tm 19 (by decide +kernel) rfl⟩
set_option maxHeartbeats 4000000 in
set_option maxRecDepth 100000 in
theorem ms_Text_byteOf : g_ms M_Text_byteOf 2 := ⟨⟨g_Tm 90 (by decide +kernel) rfl, g_Tm 480 rfl rfl, by decide, by decide, by decide +kernel⟩, g_Tm 479 (by decide +kernel) rfl⟩
set_option maxHeartbeats 4000000 in
set_option maxRecDepth 100000 in
theorem mv_Text_clear : g_mv M_Text_clear 0 := ⟨⟨g_Tm 90 (by decide +kernel) rfl, g_Tm 662 rfl rfl, by decide, by decide, by decide +kernel⟩, g_Tm 660 (by decide +kernel) rfl, g_Tm 661 (by decide +kernel) rfl⟩
set_option maxHeartbeats 4000000 in
set_option maxRecDepth 100000 in
theorem mv_Text_closing : g_mv M_Text_closing 1 := ⟨⟨g_Tm 90 (by decide +kernel) rfl, g_Tm 1036 rfl rfl, by decide, by decide, by decide +kernel⟩, g_Tm 1034 (by decide +kernel) rfl, g_Tm 1035 (by decide +kernel) rfl⟩
set_option maxHeartbeats 4000000 in
set_option maxRecDepth 100000 in
theorem mv_Text_copy : g_mv M_Text_copy 1 := ⟨⟨g_Tm 90 (by decide +kernel) rfl, g_Tm 606 rfl rfl, by decide, by decide, by decide +kernel⟩, g_Tm 604 (by decide +kernel) rfl, g_Tm 605 (by decide +kernel) rfl⟩
set_option maxHeartbeats 4000000 in
set_option maxRecDepth 100000 in
theorem mv_Text_fault : g_mv M_Text_fault 0 := ⟨⟨g_Tm 90 (by decide +kernel) rfl, g_Tm 496 rfl rfl, by decide, by decide, by decide +kernel⟩, g_Tm 494 (by decide +kernel) rfl, g_Tm 495 (by decide +kernel) rfl⟩
set_option maxHeartbeats 4000000 in
set_option maxRecDepth 100000 in
theorem ms_Text_isPlain : g_ms M_Text_isPlain 2 := ⟨⟨g_Tm 90 (by decide +kernel) rfl, g_Tm 477 rfl rfl, by decide, by decide, by decide +kernel⟩, g_Tm 476 (by decide +kernel) rfl⟩
set_option maxHeartbeats 4000000 in
set_option maxRecDepth 100000 in
theorem ms_Text_isWord : g_ms M_Text_isWord 1 := ⟨⟨g_Tm 90 (by decide +kernel) rfl, g_Tm 505 rfl rfl, by decide, by decide, by decide +kernel⟩, g_Tm 504 (by decide +kernel) rfl⟩
set_option maxHeartbeats 4000000 in
set_option maxRecDepth 100000 in
theorem mv_Text_number : g_mv M_Text_number 1 := ⟨⟨g_Tm 90 (by decide +kernel) rfl, g_Tm 1052 rfl rfl, by decide, by decide, by decide +kernel⟩, g_Tm 1050 (by decide +kernel) rfl, g_Tm 1051 (by decide +kernel) rfl⟩
set_option maxHeartbeats 4000000 in
set_option maxRecDepth 100000 in
theorem mv_Text_sign : g_mv M_Text_sign 1 := ⟨⟨g_Tm 90 (by decide +kernel) rfl, g_Tm 629 rfl rfl, by decide, by decide, by decide +kernel⟩, g_Tm 627 (by decide +kernel) rfl, g_Tm 628 (by decide +kernel) rfl⟩
set_option maxHeartbeats 4000000 in
set_option maxRecDepth 100000 in
theorem mv_Text_skipBlanks : g_mv M_Text_skipBlanks 2 := ⟨⟨g_Tm 90 (by decide +kernel) rfl, g_Tm 625 rfl rfl, by decide, by decide, by decide +kernel⟩, g_Tm 623 (by decide +kernel) rfl, g_Tm 624 (by decide +kernel) rfl⟩
set_option maxHeartbeats 4000000 in
set_option maxRecDepth 100000 in
theorem mv_Values_drop : g_mv M_Values_drop 1 := ⟨⟨g_Tm 94 (by decide +kernel) rfl, g_Tm 633 rfl rfl, by decide, by decide, by decide +kernel⟩, g_Tm 631 (by decide +kernel) rfl, g_Tm 632 (by decide +kernel) rfl⟩
set_option maxHeartbeats 4000000 in
set_option maxRecDepth 100000 in
theorem mv_Values_isFull : g_mv M_Values_isFull 0 := ⟨⟨g_Tm 94 (by decide +kernel) rfl, g_Tm 961 rfl rfl, by decide, by decide, by decide +kernel⟩, g_Tm 959 (by decide +kernel) rfl, g_Tm 960 (by decide +kernel) rfl⟩
set_option maxHeartbeats 4000000 in
set_option maxRecDepth 100000 in
theorem mv_Values_isProcedure : g_mv M_Values_isProcedure 1 := ⟨⟨g_Tm 94 (by decide +kernel) rfl, g_Tm 905 rfl rfl, by decide, by decide, by decide +kernel⟩, g_Tm 903 (by decide +kernel) rfl, g_Tm 904 (by decide +kernel) rfl⟩
set_option maxHeartbeats 4000000 in
set_option maxRecDepth 100000 in
theorem mv_Values_peek : g_mv M_Values_peek 1 := ⟨⟨g_Tm 94 (by decide +kernel) rfl, g_Tm 909 rfl rfl, by decide, by decide, by decide +kernel⟩, g_Tm 907 (by decide +kernel) rfl, g_Tm 908 (by decide +kernel) rfl⟩
set_option maxHeartbeats 4000000 in
set_option maxRecDepth 100000 in
theorem mv_Values_push : g_mv M_Values_push 1 := ⟨⟨g_Tm 94 (by decide +kernel) rfl, g_Tm 1056 rfl rfl, by decide, by decide, by decide +kernel⟩, g_Tm 1054 (by decide +kernel) rfl, g_Tm 1055 (by decide +kernel) rfl⟩
set_option maxHeartbeats 4000000 in
set_option maxRecDepth 100000 in
theorem mv_M_alike : g_mv M_M_alike 3 := ⟨⟨g_Tm 102 (by decide +kernel) rfl, g_Tm 1666 rfl rfl, by decide, by decide, by decide +kernel⟩, g_Tm 1665 (by decide +kernel) rfl, g_Tm 77 (by decide +kernel) rfl⟩
set_option maxHeartbeats 4000000 in
set_option maxRecDepth 100000 in
theorem mv_M_along : g_mv M_M_along 6 := ⟨⟨g_Tm 102 (by decide +kernel) rfl, g_Tm 1603 rfl rfl, by decide, by decide, by decide +kernel⟩, g_Tm 1602 (by decide +kernel) rfl, g_Tm 68 (by decide +kernel) rfl⟩
set_option maxHeartbeats 4000000 in
set_option maxRecDepth 100000 in
theorem mv_M_byteOf : g_mv M_M_byteOf 3 := ⟨⟨g_Tm 102 (by decide +kernel) rfl, g_Tm 1654 rfl rfl, by decide, by decide, by decide +kernel⟩, g_Tm 1653 (by decide +kernel) rfl, g_Tm 74 (by decide +kernel) rfl⟩
set_option maxHeartbeats 4000000 in
set_option maxRecDepth 100000 in
theorem ms_M_cell : g_ms M_M_cell 2 := ⟨⟨g_Tm 102 (by decide +kernel) rfl, g_Tm 1610 rfl rfl, by decide, by decide, by decide +kernel⟩, g_Tm 1609 (by decide +kernel) rfl⟩
set_option maxHeartbeats 4000000 in
set_option maxRecDepth 100000 in
theorem mv_M_closing : g_mv M_M_closing 1 := ⟨⟨g_Tm 102 (by decide +kernel) rfl, g_Tm 1567 rfl rfl, by decide, by decide, by decide +kernel⟩, g_Tm 1566 (by decide +kernel) rfl, g_Tm 59 (by decide +kernel) rfl⟩
set_option maxHeartbeats 4000000 in
set_option maxRecDepth 100000 in
theorem mv_M_cut : g_mv M_M_cut 0 := ⟨⟨g_Tm 102 (by decide +kernel) rfl, g_Tm 1614 rfl rfl, by decide, by decide, by decide +kernel⟩, g_Tm 1613 (by decide +kernel) rfl, g_Tm 70 (by decide +kernel) rfl⟩
set_option maxHeartbeats 4000000 in
set_option maxRecDepth 100000 in
theorem mv_M_draw : g_mv M_M_draw 1 := ⟨⟨g_Tm 102 (by decide +kernel) rfl, g_Tm 1595 rfl rfl, by decide, by decide, by decide +kernel⟩, g_Tm 1594 (by decide +kernel) rfl, g_Tm 66 (by decide +kernel) rfl⟩
set_option maxHeartbeats 4000000 in
set_option maxRecDepth 100000 in
theorem mv_M_empty : g_mv M_M_empty 1 := ⟨⟨g_Tm 102 (by decide +kernel) rfl, g_Tm 1698 rfl rfl, by decide, by decide, by decide +kernel⟩, g_Tm 1697 (by decide +kernel) rfl, g_Tm 83 (by decide +kernel) rfl⟩
set_option maxHeartbeats 4000000 in
set_option maxRecDepth 100000 in
theorem mv_M_endJob : g_mv M_M_endJob 2 := ⟨⟨g_Tm 102 (by decide +kernel) rfl, g_Tm 1496 rfl rfl, by decide, by decide, by decide +kernel⟩, g_Tm 1495 (by decide +kernel) rfl, g_Tm 44 (by decide +kernel) rfl⟩
set_option maxHeartbeats 4000000 in
set_option maxRecDepth 100000 in
theorem mv_M_enter : g_mv M_M_enter 3 := ⟨⟨g_Tm 102 (by decide +kernel) rfl, g_Tm 1484 rfl rfl, by decide, by decide, by decide +kernel⟩, g_Tm 1483 (by decide +kernel) rfl, g_Tm 42 (by decide +kernel) rfl⟩
set_option maxHeartbeats 4000000 in
set_option maxRecDepth 100000 in
theorem mv_M_errorOf : g_mv M_M_errorOf 1 := ⟨⟨g_Tm 102 (by decide +kernel) rfl, g_Tm 1500 rfl rfl, by decide, by decide, by decide +kernel⟩, g_Tm 1499 (by decide +kernel) rfl, g_Tm 45 (by decide +kernel) rfl⟩
set_option maxHeartbeats 4000000 in
set_option maxRecDepth 100000 in
theorem mv_M_faultOf : g_mv M_M_faultOf 0 := ⟨⟨g_Tm 102 (by decide +kernel) rfl, g_Tm 1467 rfl rfl, by decide, by decide, by decide +kernel⟩, g_Tm 1466 (by decide +kernel) rfl, g_Tm 40 (by decide +kernel) rfl⟩
set_option maxHeartbeats 4000000 in
set_option maxRecDepth 100000 in
theorem mv_M_feed : g_mv M_M_feed 0 := ⟨⟨g_Tm 102 (by decide +kernel) rfl, g_Tm 1706 rfl rfl, by decide, by decide, by decide +kernel⟩, g_Tm 1705 (by decide +kernel) rfl, g_Tm 85 (by decide +kernel) rfl⟩
set_option maxHeartbeats 4000000 in
set_option maxRecDepth 100000 in
theorem mv_M_fill : g_mv M_M_fill 1 := ⟨⟨g_Tm 102 (by decide +kernel) rfl, g_Tm 1607 rfl rfl, by decide, by decide, by decide +kernel⟩, g_Tm 1606 (by decide +kernel) rfl, g_Tm 69 (by decide +kernel) rfl⟩
set_option maxHeartbeats 4000000 in
set_option maxRecDepth 100000 in
theorem mv_M_goes : g_mv M_M_goes 1 := ⟨⟨g_Tm 102 (by decide +kernel) rfl, g_Tm 1690 rfl rfl, by decide, by decide, by decide +kernel⟩, g_Tm 1689 (by decide +kernel) rfl, g_Tm 81 (by decide +kernel) rfl⟩
set_option maxHeartbeats 4000000 in
set_option maxRecDepth 100000 in
theorem mv_M_insideMany : g_mv M_M_insideMany 0 := ⟨⟨g_Tm 102 (by decide +kernel) rfl, g_Tm 1682 rfl rfl, by decide, by decide, by decide +kernel⟩, g_Tm 1681 (by decide +kernel) rfl, g_Tm 79 (by decide +kernel) rfl⟩
set_option maxHeartbeats 4000000 in
set_option maxRecDepth 100000 in
theorem ms_M_isDigit : g_ms M_M_isDigit 1 := ⟨⟨g_Tm 102 (by decide +kernel) rfl, g_Tm 1473 rfl rfl, by decide, by decide, by decide +kernel⟩, g_Tm 1472 (by decide +kernel) rfl⟩
set_option maxHeartbeats 4000000 in
set_option maxRecDepth 100000 in
theorem ms_M_isFar : g_ms M_M_isFar 2 := ⟨⟨g_Tm 102 (by decide +kernel) rfl, g_Tm 1520 rfl rfl, by decide, by decide, by decide +kernel⟩, g_Tm 1519 (by decide +kernel) rfl⟩
set_option maxHeartbeats 4000000 in
set_option maxRecDepth 100000 in
theorem mv_M_isIn : g_mv M_M_isIn 3 := ⟨⟨g_Tm 102 (by decide +kernel) rfl, g_Tm 1548 rfl rfl, by decide, by decide, by decide +kernel⟩, g_Tm 1547 (by decide +kernel) rfl, g_Tm 55 (by decide +kernel) rfl⟩
set_option maxHeartbeats 4000000 in
set_option maxRecDepth 100000 in
theorem mv_M_isKind : g_mv M_M_isKind 2 := ⟨⟨g_Tm 102 (by decide +kernel) rfl, g_Tm 1504 rfl rfl, by decide, by decide, by decide +kernel⟩, g_Tm 1503 (by decide +kernel) rfl, g_Tm 46 (by decide +kernel) rfl⟩
set_option maxHeartbeats 4000000 in
set_option maxRecDepth 100000 in
theorem ms_M_isLetter : g_ms M_M_isLetter 1 := ⟨⟨g_Tm 102 (by decide +kernel) rfl, g_Tm 1476 rfl rfl, by decide, by decide, by decide +kernel⟩, g_Tm 1475 (by decide +kernel) rfl⟩
set_option maxHeartbeats 4000000 in
set_option maxRecDepth 100000 in
theorem mv_M_isLikeAbove : g_mv M_M_isLikeAbove 2 := ⟨⟨g_Tm 102 (by decide +kernel) rfl, g_Tm 1650 rfl rfl, by decide, by decide, by decide +kernel⟩, g_Tm 1649 (by decide +kernel) rfl, g_Tm 73 (by decide +kernel) rfl⟩
set_option maxHeartbeats 4000000 in
set_option maxRecDepth 100000 in
theorem mv_M_isNear : g_mv M_M_isNear 1 := ⟨⟨g_Tm 102 (by decide +kernel) rfl, g_Tm 1524 rfl rfl, by decide, by decide, by decide +kernel⟩, g_Tm 1523 (by decide +kernel) rfl, g_Tm 50 (by decide +kernel) rfl⟩
set_option maxHeartbeats 4000000 in
set_option maxRecDepth 100000 in
theorem ms_M_isPixel : g_ms M_M_isPixel 2 := ⟨⟨g_Tm 102 (by decide +kernel) rfl, g_Tm 1638 rfl rfl, by decide, by decide, by decide +kernel⟩, g_Tm 1637 (by decide +kernel) rfl⟩
set_option maxHeartbeats 4000000 in
set_option maxRecDepth 100000 in
theorem mv_M_isRepeated : g_mv M_M_isRepeated 0 := ⟨⟨g_Tm 102 (by decide +kernel) rfl, g_Tm 1555 rfl rfl, by decide, by decide, by decide +kernel⟩, g_Tm 1554 (by decide +kernel) rfl, g_Tm 56 (by decide +kernel) rfl⟩
set_option maxHeartbeats 4000000 in
set_option maxRecDepth 100000 in
theorem ms_M_isSection : g_ms M_M_isSection 1 := ⟨⟨g_Tm 102 (by decide +kernel) rfl, g_Tm 1721 rfl rfl, by decide, by decide, by decide +kernel⟩, g_Tm 1720 (by decide +kernel) rfl⟩
set_option maxHeartbeats 4000000 in
set_option maxRecDepth 100000 in
theorem mv_M_line : g_mv M_M_line 2 := ⟨⟨g_Tm 102 (by decide +kernel) rfl, g_Tm 1662 rfl rfl, by decide, by decide, by decide +kernel⟩, g_Tm 1661 (by decide +kernel) rfl, g_Tm 76 (by decide +kernel) rfl⟩
set_option maxHeartbeats 4000000 in
set_option maxRecDepth 100000 in
theorem mv_M_look : g_mv M_M_look 1 := ⟨⟨g_Tm 102 (by decide +kernel) rfl, g_Tm 1544 rfl rfl, by decide, by decide, by decide +kernel⟩, g_Tm 1543 (by decide +kernel) rfl, g_Tm 54 (by decide +kernel) rfl⟩
set_option maxHeartbeats 4000000 in
set_option maxRecDepth 100000 in
theorem ms_M_meets : g_ms M_M_meets 6 := ⟨⟨g_Tm 102 (by decide +kernel) rfl, g_Tm 1551 rfl rfl, by decide, by decide, by decide +kernel⟩, g_Tm 1550 (by decide +kernel) rfl⟩
set_option maxHeartbeats 4000000 in
set_option maxRecDepth 100000 in
theorem ms_M_needs : g_ms M_M_needs 1 := ⟨⟨g_Tm 102 (by decide +kernel) rfl, g_Tm 1470 rfl rfl, by decide, by decide, by decide +kernel⟩, g_Tm 1469 (by decide +kernel) rfl⟩
set_option maxHeartbeats 4000000 in
set_option maxRecDepth 100000 in
theorem mv_M_next : g_mv M_M_next 0 := ⟨⟨g_Tm 102 (by decide +kernel) rfl, g_Tm 1492 rfl rfl, by decide, by decide, by decide +kernel⟩, g_Tm 1491 (by decide +kernel) rfl, g_Tm 43 (by decide +kernel) rfl⟩
set_option maxHeartbeats 4000000 in
set_option maxRecDepth 100000 in
theorem mv_M_noPath : g_mv M_M_noPath 0 := ⟨⟨g_Tm 102 (by decide +kernel) rfl, g_Tm 1480 rfl rfl, by decide, by decide, by decide +kernel⟩, g_Tm 1479 (by decide +kernel) rfl, g_Tm 41 (by decide +kernel) rfl⟩
set_option maxHeartbeats 4000000 in
set_option maxRecDepth 100000 in
theorem mv_M_number : g_mv M_M_number 1 := ⟨⟨g_Tm 102 (by decide +kernel) rfl, g_Tm 1512 rfl rfl, by decide, by decide, by decide +kernel⟩, g_Tm 1511 (by decide +kernel) rfl, g_Tm 48 (by decide +kernel) rfl⟩
set_option maxHeartbeats 4000000 in
set_option maxRecDepth 100000 in
theorem mv_M_order : g_mv M_M_order 1 := ⟨⟨g_Tm 102 (by decide +kernel) rfl, g_Tm 1579 rfl rfl, by decide, by decide, by decide +kernel⟩, g_Tm 1578 (by decide +kernel) rfl, g_Tm 62 (by decide +kernel) rfl⟩
set_option maxHeartbeats 4000000 in
set_option maxRecDepth 100000 in
theorem mv_M_out : g_mv M_M_out 1 := ⟨⟨g_Tm 102 (by decide +kernel) rfl, g_Tm 1658 rfl rfl, by decide, by decide, by decide +kernel⟩, g_Tm 1657 (by decide +kernel) rfl, g_Tm 75 (by decide +kernel) rfl⟩
set_option maxHeartbeats 4000000 in
set_option maxRecDepth 100000 in
theorem mv_M_pack : g_mv M_M_pack 2 := ⟨⟨g_Tm 102 (by decide +kernel) rfl, g_Tm 1646 rfl rfl, by decide, by decide, by decide +kernel⟩, g_Tm 1645 (by decide +kernel) rfl, g_Tm 72 (by decide +kernel) rfl⟩
set_option maxHeartbeats 4000000 in
set_option maxRecDepth 100000 in
theorem mv_M_place : g_mv M_M_place 3 := ⟨⟨g_Tm 102 (by decide +kernel) rfl, g_Tm 1599 rfl rfl, by decide, by decide, by decide +kernel⟩, g_Tm 1598 (by decide +kernel) rfl, g_Tm 67 (by decide +kernel) rfl⟩
set_option maxHeartbeats 4000000 in
set_option maxRecDepth 100000 in
theorem mv_M_placesFor : g_mv M_M_placesFor 1 := ⟨⟨g_Tm 102 (by decide +kernel) rfl, g_Tm 1540 rfl rfl, by decide, by decide, by decide +kernel⟩, g_Tm 1539 (by decide +kernel) rfl, g_Tm 53 (by decide +kernel) rfl⟩
set_option maxHeartbeats 4000000 in
set_option maxRecDepth 100000 in
theorem mv_M_push : g_mv M_M_push 2 := ⟨⟨g_Tm 102 (by decide +kernel) rfl, g_Tm 1571 rfl rfl, by decide, by decide, by decide +kernel⟩, g_Tm 1570 (by decide +kernel) rfl, g_Tm 60 (by decide +kernel) rfl⟩
set_option maxHeartbeats 4000000 in
set_option maxRecDepth 100000 in
theorem mv_M_quit : g_mv M_M_quit 0 := ⟨⟨g_Tm 102 (by decide +kernel) rfl, g_Tm 1591 rfl rfl, by decide, by decide, by decide +kernel⟩, g_Tm 1590 (by decide +kernel) rfl, g_Tm 65 (by decide +kernel) rfl⟩
set_option maxHeartbeats 4000000 in
set_option maxRecDepth 100000 in
theorem mv_M_quotient : g_mv M_M_quotient 0 := ⟨⟨g_Tm 102 (by decide +kernel) rfl, g_Tm 1516 rfl rfl, by decide, by decide, by decide +kernel⟩, g_Tm 1515 (by decide +kernel) rfl, g_Tm 49 (by decide +kernel) rfl⟩
set_option maxHeartbeats 4000000 in
set_option maxRecDepth 100000 in
theorem mv_M_reckon : g_mv M_M_reckon 1 := ⟨⟨g_Tm 102 (by decide +kernel) rfl, g_Tm 1575 rfl rfl, by decide, by decide, by decide +kernel⟩, g_Tm 1574 (by decide +kernel) rfl, g_Tm 61 (by decide +kernel) rfl⟩
set_option maxHeartbeats 4000000 in
set_option maxRecDepth 100000 in
theorem mv_M_repeat : g_mv M_M_repeat 0 := ⟨⟨g_Tm 102 (by decide +kernel) rfl, g_Tm 1587 rfl rfl, by decide, by decide, by decide +kernel⟩, g_Tm 1586 (by decide +kernel) rfl, g_Tm 64 (by decide +kernel) rfl⟩
set_option maxHeartbeats 4000000 in
set_option maxRecDepth 100000 in
theorem mv_M_result : g_mv M_M_result 1 := ⟨⟨g_Tm 102 (by decide +kernel) rfl, g_Tm 1508 rfl rfl, by decide, by decide, by decide +kernel⟩, g_Tm 1507 (by decide +kernel) rfl, g_Tm 47 (by decide +kernel) rfl⟩
set_option maxHeartbeats 4000000 in
set_option maxRecDepth 100000 in
theorem mv_M_shift : g_mv M_M_shift 2 := ⟨⟨g_Tm 102 (by decide +kernel) rfl, g_Tm 1702 rfl rfl, by decide, by decide, by decide +kernel⟩, g_Tm 1701 (by decide +kernel) rfl, g_Tm 84 (by decide +kernel) rfl⟩
set_option maxHeartbeats 4000000 in
set_option maxRecDepth 100000 in
theorem mv_M_sidesOf : g_mv M_M_sidesOf 0 := ⟨⟨g_Tm 102 (by decide +kernel) rfl, g_Tm 1694 rfl rfl, by decide, by decide, by decide +kernel⟩, g_Tm 1693 (by decide +kernel) rfl, g_Tm 82 (by decide +kernel) rfl⟩
set_option maxHeartbeats 4000000 in
set_option maxRecDepth 100000 in
theorem ms_M_sixteenth : g_ms M_M_sixteenth 2 := ⟨⟨g_Tm 102 (by decide +kernel) rfl, g_Tm 1531 rfl rfl, by decide, by decide, by decide +kernel⟩, g_Tm 1530 (by decide +kernel) rfl⟩
set_option maxHeartbeats 4000000 in
set_option maxRecDepth 100000 in
theorem mv_M_state : g_mv M_M_state 1 := ⟨⟨g_Tm 102 (by decide +kernel) rfl, g_Tm 1618 rfl rfl, by decide, by decide, by decide +kernel⟩, g_Tm 1617 (by decide +kernel) rfl, g_Tm 71 (by decide +kernel) rfl⟩
set_option maxHeartbeats 4000000 in
set_option maxRecDepth 100000 in
theorem mv_M_stateOf : g_mv M_M_stateOf 0 := ⟨⟨g_Tm 102 (by decide +kernel) rfl, g_Tm 1714 rfl rfl, by decide, by decide, by decide +kernel⟩, g_Tm 1713 (by decide +kernel) rfl, g_Tm 87 (by decide +kernel) rfl⟩
set_option maxHeartbeats 4000000 in
set_option maxRecDepth 100000 in
theorem mv_M_step : g_mv M_M_step 1 := ⟨⟨g_Tm 102 (by decide +kernel) rfl, g_Tm 1559 rfl rfl, by decide, by decide, by decide +kernel⟩, g_Tm 1558 (by decide +kernel) rfl, g_Tm 57 (by decide +kernel) rfl⟩
set_option maxHeartbeats 4000000 in
set_option maxRecDepth 100000 in
theorem mv_M_swap : g_mv M_M_swap 0 := ⟨⟨g_Tm 102 (by decide +kernel) rfl, g_Tm 1583 rfl rfl, by decide, by decide, by decide +kernel⟩, g_Tm 1582 (by decide +kernel) rfl, g_Tm 63 (by decide +kernel) rfl⟩
set_option maxHeartbeats 4000000 in
set_option maxRecDepth 100000 in
theorem mv_M_tickOnce : g_mv M_M_tickOnce 0 := ⟨⟨g_Tm 102 (by decide +kernel) rfl, g_Tm 1678 rfl rfl, by decide, by decide, by decide +kernel⟩, g_Tm 1677 (by decide +kernel) rfl, g_Tm 78 (by decide +kernel) rfl⟩
set_option maxHeartbeats 4000000 in
set_option maxRecDepth 100000 in
theorem mv_M_toMake : g_mv M_M_toMake 0 := ⟨⟨g_Tm 102 (by decide +kernel) rfl, g_Tm 1710 rfl rfl, by decide, by decide, by decide +kernel⟩, g_Tm 1709 (by decide +kernel) rfl, g_Tm 86 (by decide +kernel) rfl⟩
set_option maxHeartbeats 4000000 in
set_option maxRecDepth 100000 in
theorem mv_M_turn : g_mv M_M_turn 1 := ⟨⟨g_Tm 102 (by decide +kernel) rfl, g_Tm 1686 rfl rfl, by decide, by decide, by decide +kernel⟩, g_Tm 1685 (by decide +kernel) rfl, g_Tm 80 (by decide +kernel) rfl⟩
set_option maxHeartbeats 4000000 in
set_option maxRecDepth 100000 in
theorem mv_M_wordLong : g_mv M_M_wordLong 1 := ⟨⟨g_Tm 102 (by decide +kernel) rfl, g_Tm 1563 rfl rfl, by decide, by decide, by decide +kernel⟩, g_Tm 1562 (by decide +kernel) rfl, g_Tm 58 (by decide +kernel) rfl⟩
set_option maxHeartbeats 4000000 in
set_option maxRecDepth 100000 in
theorem mv_M_xOf : g_mv M_M_xOf 1 := ⟨⟨g_Tm 102 (by decide +kernel) rfl, g_Tm 1528 rfl rfl, by decide, by decide, by decide +kernel⟩, g_Tm 1527 (by decide +kernel) rfl, g_Tm 51 (by decide +kernel) rfl⟩
set_option maxHeartbeats 4000000 in
set_option maxRecDepth 100000 in
theorem mv_M_yOf : g_mv M_M_yOf 1 := ⟨⟨g_Tm 102 (by decide +kernel) rfl, g_Tm 1536 rfl rfl, by decide, by decide, by decide +kernel⟩, g_Tm 1535 (by decide +kernel) rfl, g_Tm 52 (by decide +kernel) rfl⟩
set_option maxHeartbeats 4000000 in
set_option maxRecDepth 100000 in
theorem ms_Long_bitCount : g_ms M_Long_bitCount 1 := ⟨⟨g_Tm 115 (by decide +kernel) rfl, g_Tm 1013 rfl rfl, by decide, by decide, by decide +kernel⟩, g_Tm 1012 (by decide +kernel) rfl⟩
set_option maxHeartbeats 4000000 in
set_option maxRecDepth 100000 in
theorem ms_Math_abs : g_ms M_Math_abs 1 := ⟨⟨g_Tm 105 (by decide +kernel) rfl, g_Tm 922 rfl rfl, by decide, by decide, by decide +kernel⟩, g_Tm 921 (by decide +kernel) rfl⟩
set_option maxHeartbeats 4000000 in
set_option maxRecDepth 100000 in
theorem ms_Math_floorDiv : g_ms M_Math_floorDiv 2 := ⟨⟨g_Tm 105 (by decide +kernel) rfl, g_Tm 939 rfl rfl, by decide, by decide, by decide +kernel⟩, g_Tm 938 (by decide +kernel) rfl⟩
set_option maxHeartbeats 4000000 in
set_option maxRecDepth 100000 in
theorem ms_Math_max : g_ms M_Math_max 2 := ⟨⟨g_Tm 105 (by decide +kernel) rfl, g_Tm 540 rfl rfl, by decide, by decide, by decide +kernel⟩, g_Tm 539 (by decide +kernel) rfl⟩
set_option maxHeartbeats 4000000 in
set_option maxRecDepth 100000 in
theorem ms_Math_max1 : g_ms M_Math_max1 2 := ⟨⟨g_Tm 105 (by decide +kernel) rfl, g_Tm 998 rfl rfl, by decide, by decide, by decide +kernel⟩, g_Tm 997 (by decide +kernel) rfl⟩
set_option maxHeartbeats 4000000 in
set_option maxRecDepth 100000 in
theorem ms_Math_min1 : g_ms M_Math_min1 2 := ⟨⟨g_Tm 105 (by decide +kernel) rfl, g_Tm 543 rfl rfl, by decide, by decide, by decide +kernel⟩, g_Tm 542 (by decide +kernel) rfl⟩
set_option maxHeartbeats 4000000 in
set_option maxRecDepth 100000 in
theorem ms_Math_min : g_ms M_Math_min 2 := ⟨⟨g_Tm 105 (by decide +kernel) rfl, g_Tm 995 rfl rfl, by decide, by decide, by decide +kernel⟩, g_Tm 994 (by decide +kernel) rfl⟩
set_option maxHeartbeats 4000000 in
set_option maxRecDepth 100000 in
theorem mv_String_coder : g_mv M_String_coder 0 := ⟨⟨g_Tm 103 (by decide +kernel) rfl, g_Tm 531 rfl rfl, by decide, by decide, by decide +kernel⟩, g_Tm 529 (by decide +kernel) rfl, g_Tm 530 (by decide +kernel) rfl⟩
set_option maxHeartbeats 4000000 in
set_option maxRecDepth 100000 in
theorem mv_String_indexOf : g_mv M_String_indexOf 1 := ⟨⟨g_Tm 103 (by decide +kernel) rfl, g_Tm 513 rfl rfl, by decide, by decide, by decide +kernel⟩, g_Tm 511 (by decide +kernel) rfl, g_Tm 512 (by decide +kernel) rfl⟩
set_option maxHeartbeats 4000000 in
set_option maxRecDepth 100000 in
theorem mv_String_indexOf1 : g_mv M_String_indexOf1 2 := ⟨⟨g_Tm 103 (by decide +kernel) rfl, g_Tm 517 rfl rfl, by decide, by decide, by decide +kernel⟩, g_Tm 515 (by decide +kernel) rfl, g_Tm 516 (by decide +kernel) rfl⟩
set_option maxHeartbeats 4000000 in
set_option maxRecDepth 100000 in
theorem mv_String_isLatin1 : g_mv M_String_isLatin1 0 := ⟨⟨g_Tm 103 (by decide +kernel) rfl, g_Tm 521 rfl rfl, by decide, by decide, by decide +kernel⟩, g_Tm 519 (by decide +kernel) rfl, g_Tm 520 (by decide +kernel) rfl⟩
set_option maxHeartbeats 4000000 in
set_option maxRecDepth 100000 in
theorem mv_String_length : g_mv M_String_length 0 := ⟨⟨g_Tm 103 (by decide +kernel) rfl, g_Tm 527 rfl rfl, by decide, by decide, by decide +kernel⟩, g_Tm 525 (by decide +kernel) rfl, g_Tm 526 (by decide +kernel) rfl⟩
set_option maxHeartbeats 4000000 in
set_option maxRecDepth 100000 in
theorem ms_StringLatin1_canEncode : g_ms M_StringLatin1_canEncode 1 := ⟨⟨g_Tm 104 (by decide +kernel) rfl, g_Tm 537 rfl rfl, by decide, by decide, by decide +kernel⟩, g_Tm 536 (by decide +kernel) rfl⟩
set_option maxHeartbeats 4000000 in
set_option maxRecDepth 100000 in
theorem ms_StringLatin1_indexOf : g_ms M_StringLatin1_indexOf 4 := ⟨⟨g_Tm 104 (by decide +kernel) rfl, g_Tm 534 rfl rfl, by decide, by decide, by decide +kernel⟩, g_Tm 533 (by decide +kernel) rfl⟩
set_option maxHeartbeats 4000000 in
set_option maxRecDepth 100000 in
theorem ms_StringLatin1_indexOfChar : g_ms M_StringLatin1_indexOfChar 4 := ⟨⟨g_Tm 104 (by decide +kernel) rfl, g_Tm 546 rfl rfl, by decide, by decide, by decide +kernel⟩, g_Tm 545 (by decide +kernel) rfl⟩
set_option maxHeartbeats 4000000 in
set_option maxRecDepth 100000 in
theorem ms_Arrays_fill1 : g_ms M_Arrays_fill1 2 := ⟨⟨g_Tm 96 (by decide +kernel) rfl, g_Tm 637 rfl rfl, by decide, by decide, by decide +kernel⟩, g_Tm 636 (by decide +kernel) rfl⟩
set_option maxHeartbeats 4000000 in
set_option maxRecDepth 100000 in
theorem ms_Arrays_fill : g_ms M_Arrays_fill 2 := ⟨⟨g_Tm 96 (by decide +kernel) rfl, g_Tm 215 rfl rfl, by decide, by decide, by decide +kernel⟩, g_Tm 214 (by decide +kernel) rfl⟩
theorem ac_1_29 : g_cw "BandPress$Pages" 29 := ⟨g_Tm 1154 (by decide +kernel) rfl, g_Tm 609 (by decide +kernel) rfl, g_Tm 608 (by decide +kernel) rfl, g_Tm 109 (by decide +kernel) rfl⟩
theorem ac_3_43 : g_cw "BandPress$Settings" 43 := ⟨g_Tm 1173 (by decide +kernel) rfl, g_Tm 609 (by decide +kernel) rfl, g_Tm 608 (by decide +kernel) rfl, g_Tm 109 (by decide +kernel) rfl⟩
theorem ac_8_43 : g_cw "BandPress$Text" 43 := ⟨g_Tm 607 (by decide +kernel) rfl, g_Tm 609 (by decide +kernel) rfl, g_Tm 608 (by decide +kernel) rfl, g_Tm 109 (by decide +kernel) rfl⟩
