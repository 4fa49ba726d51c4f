def fw_dX8_init_0 : List (Nat × Instr × Nat) := [(0, .aload_n 0, 1), (1, .invokespecial 1, 3), (4, .aload_n 0, 1), (5, .bipush 74, 2)]
theorem fw_dX8_init_0_c : fchk 0 (cX8_init.data.toList.drop 0) fw_dX8_init_0 = true := by decide +kernel
theorem dX8_init_0 : decode cX8_init 0 = .ok (.aload_n 0, 1) := fchk_d fw_dX8_init_0_c (0, .aload_n 0, 1) (List.mem_of_getElem? (i := 0) rfl)
theorem dX8_init_1 : decode cX8_init 1 = .ok (.invokespecial 1, 3) := fchk_d fw_dX8_init_0_c (1, .invokespecial 1, 3) (List.mem_of_getElem? (i := 1) rfl)
theorem dX8_init_4 : decode cX8_init 4 = .ok (.aload_n 0, 1) := fchk_d fw_dX8_init_0_c (4, .aload_n 0, 1) (List.mem_of_getElem? (i := 2) rfl)
theorem dX8_init_5 : decode cX8_init 5 = .ok (.bipush 74, 2) := fchk_d fw_dX8_init_0_c (5, .bipush 74, 2) (List.mem_of_getElem? (i := 3) rfl)
theorem dX8_init_7 : decode cX8_init 7 = .ok (.newarray .long, 2) := by decide +kernel
def fw_dX8_init_9 : List (Nat × Instr × Nat) := [(9, .putfield 7, 3), (12, .aload_n 0, 1), (13, .bipush 74, 2)]
theorem fw_dX8_init_9_c : fchk 9 (cX8_init.data.toList.drop 9) fw_dX8_init_9 = true := by decide +kernel
theorem dX8_init_9 : decode cX8_init 9 = .ok (.putfield 7, 3) := fchk_d fw_dX8_init_9_c (9, .putfield 7, 3) (List.mem_of_getElem? (i := 0) rfl)
theorem dX8_init_12 : decode cX8_init 12 = .ok (.aload_n 0, 1) := fchk_d fw_dX8_init_9_c (12, .aload_n 0, 1) (List.mem_of_getElem? (i := 1) rfl)
theorem dX8_init_13 : decode cX8_init 13 = .ok (.bipush 74, 2) := fchk_d fw_dX8_init_9_c (13, .bipush 74, 2) (List.mem_of_getElem? (i := 2) rfl)
theorem dX8_init_15 : decode cX8_init 15 = .ok (.newarray .long, 2) := by decide +kernel
def fw_dX8_init_17 : List (Nat × Instr × Nat) := [(17, .putfield 13, 3), (20, .aload_n 0, 1), (21, .bipush 74, 2)]
theorem fw_dX8_init_17_c : fchk 17 (cX8_init.data.toList.drop 17) fw_dX8_init_17 = true := by decide +kernel
theorem dX8_init_17 : decode cX8_init 17 = .ok (.putfield 13, 3) := fchk_d fw_dX8_init_17_c (17, .putfield 13, 3) (List.mem_of_getElem? (i := 0) rfl)
theorem dX8_init_20 : decode cX8_init 20 = .ok (.aload_n 0, 1) := fchk_d fw_dX8_init_17_c (20, .aload_n 0, 1) (List.mem_of_getElem? (i := 1) rfl)
theorem dX8_init_21 : decode cX8_init 21 = .ok (.bipush 74, 2) := fchk_d fw_dX8_init_17_c (21, .bipush 74, 2) (List.mem_of_getElem? (i := 2) rfl)
theorem dX8_init_23 : decode cX8_init 23 = .ok (.newarray .long, 2) := by decide +kernel
def fw_dX8_init_25 : List (Nat × Instr × Nat) := [(25, .putfield 16, 3), (28, .aload_n 0, 1), (29, .bipush 74, 2)]
theorem fw_dX8_init_25_c : fchk 25 (cX8_init.data.toList.drop 25) fw_dX8_init_25 = true := by decide +kernel
theorem dX8_init_25 : decode cX8_init 25 = .ok (.putfield 16, 3) := fchk_d fw_dX8_init_25_c (25, .putfield 16, 3) (List.mem_of_getElem? (i := 0) rfl)
theorem dX8_init_28 : decode cX8_init 28 = .ok (.aload_n 0, 1) := fchk_d fw_dX8_init_25_c (28, .aload_n 0, 1) (List.mem_of_getElem? (i := 1) rfl)
theorem dX8_init_29 : decode cX8_init 29 = .ok (.bipush 74, 2) := fchk_d fw_dX8_init_25_c (29, .bipush 74, 2) (List.mem_of_getElem? (i := 2) rfl)
theorem dX8_init_31 : decode cX8_init 31 = .ok (.newarray .long, 2) := by decide +kernel
def fw_dX8_init_33 : List (Nat × Instr × Nat) := [(33, .putfield 19, 3), (36, .aload_n 0, 1), (37, .bipush 74, 2)]
theorem fw_dX8_init_33_c : fchk 33 (cX8_init.data.toList.drop 33) fw_dX8_init_33 = true := by decide +kernel
theorem dX8_init_33 : decode cX8_init 33 = .ok (.putfield 19, 3) := fchk_d fw_dX8_init_33_c (33, .putfield 19, 3) (List.mem_of_getElem? (i := 0) rfl)
theorem dX8_init_36 : decode cX8_init 36 = .ok (.aload_n 0, 1) := fchk_d fw_dX8_init_33_c (36, .aload_n 0, 1) (List.mem_of_getElem? (i := 1) rfl)
theorem dX8_init_37 : decode cX8_init 37 = .ok (.bipush 74, 2) := fchk_d fw_dX8_init_33_c (37, .bipush 74, 2) (List.mem_of_getElem? (i := 2) rfl)
theorem dX8_init_39 : decode cX8_init 39 = .ok (.newarray .long, 2) := by decide +kernel
def fw_dX8_init_41 : List (Nat × Instr × Nat) := [(41, .putfield 22, 3), (44, .aload_n 0, 1), (45, .bipush 8, 2)]
theorem fw_dX8_init_41_c : fchk 41 (cX8_init.data.toList.drop 41) fw_dX8_init_41 = true := by decide +kernel
theorem dX8_init_41 : decode cX8_init 41 = .ok (.putfield 22, 3) := fchk_d fw_dX8_init_41_c (41, .putfield 22, 3) (List.mem_of_getElem? (i := 0) rfl)
theorem dX8_init_44 : decode cX8_init 44 = .ok (.aload_n 0, 1) := fchk_d fw_dX8_init_41_c (44, .aload_n 0, 1) (List.mem_of_getElem? (i := 1) rfl)
theorem dX8_init_45 : decode cX8_init 45 = .ok (.bipush 8, 2) := fchk_d fw_dX8_init_41_c (45, .bipush 8, 2) (List.mem_of_getElem? (i := 2) rfl)
theorem dX8_init_47 : decode cX8_init 47 = .ok (.newarray .int, 2) := by decide +kernel
def fw_dX8_init_49 : List (Nat × Instr × Nat) := [(49, .putfield 25, 3), (52, .aload_n 0, 1), (53, .bipush 120, 2)]
theorem fw_dX8_init_49_c : fchk 49 (cX8_init.data.toList.drop 49) fw_dX8_init_49 = true := by decide +kernel
theorem dX8_init_49 : decode cX8_init 49 = .ok (.putfield 25, 3) := fchk_d fw_dX8_init_49_c (49, .putfield 25, 3) (List.mem_of_getElem? (i := 0) rfl)
theorem dX8_init_52 : decode cX8_init 52 = .ok (.aload_n 0, 1) := fchk_d fw_dX8_init_49_c (52, .aload_n 0, 1) (List.mem_of_getElem? (i := 1) rfl)
theorem dX8_init_53 : decode cX8_init 53 = .ok (.bipush 120, 2) := fchk_d fw_dX8_init_49_c (53, .bipush 120, 2) (List.mem_of_getElem? (i := 2) rfl)
theorem dX8_init_55 : decode cX8_init 55 = .ok (.newarray .int, 2) := by decide +kernel
def fw_dX8_init_57 : List (Nat × Instr × Nat) := [(57, .putfield 29, 3), (60, .aload_n 0, 1), (61, .bipush 120, 2)]
theorem fw_dX8_init_57_c : fchk 57 (cX8_init.data.toList.drop 57) fw_dX8_init_57 = true := by decide +kernel
theorem dX8_init_57 : decode cX8_init 57 = .ok (.putfield 29, 3) := fchk_d fw_dX8_init_57_c (57, .putfield 29, 3) (List.mem_of_getElem? (i := 0) rfl)
theorem dX8_init_60 : decode cX8_init 60 = .ok (.aload_n 0, 1) := fchk_d fw_dX8_init_57_c (60, .aload_n 0, 1) (List.mem_of_getElem? (i := 1) rfl)
theorem dX8_init_61 : decode cX8_init 61 = .ok (.bipush 120, 2) := fchk_d fw_dX8_init_57_c (61, .bipush 120, 2) (List.mem_of_getElem? (i := 2) rfl)
theorem dX8_init_63 : decode cX8_init 63 = .ok (.newarray .int, 2) := by decide +kernel
def fw_dX8_init_65 : List (Nat × Instr × Nat) := [(65, .putfield 32, 3), (68, .aload_n 0, 1), (69, .bipush 120, 2)]
theorem fw_dX8_init_65_c : fchk 65 (cX8_init.data.toList.drop 65) fw_dX8_init_65 = true := by decide +kernel
theorem dX8_init_65 : decode cX8_init 65 = .ok (.putfield 32, 3) := fchk_d fw_dX8_init_65_c (65, .putfield 32, 3) (List.mem_of_getElem? (i := 0) rfl)
theorem dX8_init_68 : decode cX8_init 68 = .ok (.aload_n 0, 1) := fchk_d fw_dX8_init_65_c (68, .aload_n 0, 1) (List.mem_of_getElem? (i := 1) rfl)
theorem dX8_init_69 : decode cX8_init 69 = .ok (.bipush 120, 2) := fchk_d fw_dX8_init_65_c (69, .bipush 120, 2) (List.mem_of_getElem? (i := 2) rfl)
theorem dX8_init_71 : decode cX8_init 71 = .ok (.newarray .int, 2) := by decide +kernel
def fw_dX8_init_73 : List (Nat × Instr × Nat) := [(73, .putfield 35, 3), (76, .aload_n 0, 1), (77, .bipush 120, 2)]
theorem fw_dX8_init_73_c : fchk 73 (cX8_init.data.toList.drop 73) fw_dX8_init_73 = true := by decide +kernel
theorem dX8_init_73 : decode cX8_init 73 = .ok (.putfield 35, 3) := fchk_d fw_dX8_init_73_c (73, .putfield 35, 3) (List.mem_of_getElem? (i := 0) rfl)
theorem dX8_init_76 : decode cX8_init 76 = .ok (.aload_n 0, 1) := fchk_d fw_dX8_init_73_c (76, .aload_n 0, 1) (List.mem_of_getElem? (i := 1) rfl)
theorem dX8_init_77 : decode cX8_init 77 = .ok (.bipush 120, 2) := fchk_d fw_dX8_init_73_c (77, .bipush 120, 2) (List.mem_of_getElem? (i := 2) rfl)
theorem dX8_init_79 : decode cX8_init 79 = .ok (.newarray .int, 2) := by decide +kernel
def fw_dX8_init_81 : List (Nat × Instr × Nat) := [(81, .putfield 38, 3), (84, .aload_n 0, 1), (85, .bipush 12, 2)]
theorem fw_dX8_init_81_c : fchk 81 (cX8_init.data.toList.drop 81) fw_dX8_init_81 = true := by decide +kernel
theorem dX8_init_81 : decode cX8_init 81 = .ok (.putfield 38, 3) := fchk_d fw_dX8_init_81_c (81, .putfield 38, 3) (List.mem_of_getElem? (i := 0) rfl)
theorem dX8_init_84 : decode cX8_init 84 = .ok (.aload_n 0, 1) := fchk_d fw_dX8_init_81_c (84, .aload_n 0, 1) (List.mem_of_getElem? (i := 1) rfl)
theorem dX8_init_85 : decode cX8_init 85 = .ok (.bipush 12, 2) := fchk_d fw_dX8_init_81_c (85, .bipush 12, 2) (List.mem_of_getElem? (i := 2) rfl)
theorem dX8_init_87 : decode cX8_init 87 = .ok (.newarray .int, 2) := by decide +kernel
def fw_dX8_init_89 : List (Nat × Instr × Nat) := [(89, .putfield 41, 3), (92, .aload_n 0, 1), (93, .iconst 1, 1), (94, .putfield 44, 3), (97, .aload_n 0, 1), (98, .bipush 8, 2)]
theorem fw_dX8_init_89_c : fchk 89 (cX8_init.data.toList.drop 89) fw_dX8_init_89 = true := by decide +kernel
theorem dX8_init_89 : decode cX8_init 89 = .ok (.putfield 41, 3) := fchk_d fw_dX8_init_89_c (89, .putfield 41, 3) (List.mem_of_getElem? (i := 0) rfl)
theorem dX8_init_92 : decode cX8_init 92 = .ok (.aload_n 0, 1) := fchk_d fw_dX8_init_89_c (92, .aload_n 0, 1) (List.mem_of_getElem? (i := 1) rfl)
theorem dX8_init_93 : decode cX8_init 93 = .ok (.iconst 1, 1) := fchk_d fw_dX8_init_89_c (93, .iconst 1, 1) (List.mem_of_getElem? (i := 2) rfl)
theorem dX8_init_94 : decode cX8_init 94 = .ok (.putfield 44, 3) := fchk_d fw_dX8_init_89_c (94, .putfield 44, 3) (List.mem_of_getElem? (i := 3) rfl)
theorem dX8_init_97 : decode cX8_init 97 = .ok (.aload_n 0, 1) := fchk_d fw_dX8_init_89_c (97, .aload_n 0, 1) (List.mem_of_getElem? (i := 4) rfl)
theorem dX8_init_98 : decode cX8_init 98 = .ok (.bipush 8, 2) := fchk_d fw_dX8_init_89_c (98, .bipush 8, 2) (List.mem_of_getElem? (i := 5) rfl)
theorem dX8_init_100 : decode cX8_init 100 = .ok (.newarray .int, 2) := by decide +kernel
def fw_dX8_init_102 : List (Nat × Instr × Nat) := [(102, .putfield 48, 3), (105, .aload_n 0, 1), (106, .sipush 1024, 3)]
theorem fw_dX8_init_102_c : fchk 102 (cX8_init.data.toList.drop 102) fw_dX8_init_102 = true := by decide +kernel
theorem dX8_init_102 : decode cX8_init 102 = .ok (.putfield 48, 3) := fchk_d fw_dX8_init_102_c (102, .putfield 48, 3) (List.mem_of_getElem? (i := 0) rfl)
theorem dX8_init_105 : decode cX8_init 105 = .ok (.aload_n 0, 1) := fchk_d fw_dX8_init_102_c (105, .aload_n 0, 1) (List.mem_of_getElem? (i := 1) rfl)
theorem dX8_init_106 : decode cX8_init 106 = .ok (.sipush 1024, 3) := fchk_d fw_dX8_init_102_c (106, .sipush 1024, 3) (List.mem_of_getElem? (i := 2) rfl)
theorem dX8_init_109 : decode cX8_init 109 = .ok (.newarray .int, 2) := by decide +kernel
def fw_dX8_init_111 : List (Nat × Instr × Nat) := [(111, .putfield 51, 3), (114, .aload_n 0, 1), (115, .bipush 120, 2)]
theorem fw_dX8_init_111_c : fchk 111 (cX8_init.data.toList.drop 111) fw_dX8_init_111 = true := by decide +kernel
theorem dX8_init_111 : decode cX8_init 111 = .ok (.putfield 51, 3) := fchk_d fw_dX8_init_111_c (111, .putfield 51, 3) (List.mem_of_getElem? (i := 0) rfl)
theorem dX8_init_114 : decode cX8_init 114 = .ok (.aload_n 0, 1) := fchk_d fw_dX8_init_111_c (114, .aload_n 0, 1) (List.mem_of_getElem? (i := 1) rfl)
theorem dX8_init_115 : decode cX8_init 115 = .ok (.bipush 120, 2) := fchk_d fw_dX8_init_111_c (115, .bipush 120, 2) (List.mem_of_getElem? (i := 2) rfl)
theorem dX8_init_117 : decode cX8_init 117 = .ok (.newarray .int, 2) := by decide +kernel
def fw_dX8_init_119 : List (Nat × Instr × Nat) := [(119, .putfield 54, 3), (122, .aload_n 0, 1), (123, .bipush 12, 2)]
theorem fw_dX8_init_119_c : fchk 119 (cX8_init.data.toList.drop 119) fw_dX8_init_119 = true := by decide +kernel
theorem dX8_init_119 : decode cX8_init 119 = .ok (.putfield 54, 3) := fchk_d fw_dX8_init_119_c (119, .putfield 54, 3) (List.mem_of_getElem? (i := 0) rfl)
theorem dX8_init_122 : decode cX8_init 122 = .ok (.aload_n 0, 1) := fchk_d fw_dX8_init_119_c (122, .aload_n 0, 1) (List.mem_of_getElem? (i := 1) rfl)
theorem dX8_init_123 : decode cX8_init 123 = .ok (.bipush 12, 2) := fchk_d fw_dX8_init_119_c (123, .bipush 12, 2) (List.mem_of_getElem? (i := 2) rfl)
theorem dX8_init_125 : decode cX8_init 125 = .ok (.newarray .int, 2) := by decide +kernel
def fw_dX8_init_127 : List (Nat × Instr × Nat) := [(127, .putfield 57, 3), (130, .aload_n 0, 1), (131, .bipush 10, 2)]
theorem fw_dX8_init_127_c : fchk 127 (cX8_init.data.toList.drop 127) fw_dX8_init_127 = true := by decide +kernel
theorem dX8_init_127 : decode cX8_init 127 = .ok (.putfield 57, 3) := fchk_d fw_dX8_init_127_c (127, .putfield 57, 3) (List.mem_of_getElem? (i := 0) rfl)
theorem dX8_init_130 : decode cX8_init 130 = .ok (.aload_n 0, 1) := fchk_d fw_dX8_init_127_c (130, .aload_n 0, 1) (List.mem_of_getElem? (i := 1) rfl)
theorem dX8_init_131 : decode cX8_init 131 = .ok (.bipush 10, 2) := fchk_d fw_dX8_init_127_c (131, .bipush 10, 2) (List.mem_of_getElem? (i := 2) rfl)
theorem dX8_init_133 : decode cX8_init 133 = .ok (.newarray .int, 2) := by decide +kernel
def fw_dX8_init_135 : List (Nat × Instr × Nat) := [(135, .putfield 60, 3), (138, .aload_n 0, 1), (139, .bipush 10, 2)]
theorem fw_dX8_init_135_c : fchk 135 (cX8_init.data.toList.drop 135) fw_dX8_init_135 = true := by decide +kernel
theorem dX8_init_135 : decode cX8_init 135 = .ok (.putfield 60, 3) := fchk_d fw_dX8_init_135_c (135, .putfield 60, 3) (List.mem_of_getElem? (i := 0) rfl)
theorem dX8_init_138 : decode cX8_init 138 = .ok (.aload_n 0, 1) := fchk_d fw_dX8_init_135_c (138, .aload_n 0, 1) (List.mem_of_getElem? (i := 1) rfl)
theorem dX8_init_139 : decode cX8_init 139 = .ok (.bipush 10, 2) := fchk_d fw_dX8_init_135_c (139, .bipush 10, 2) (List.mem_of_getElem? (i := 2) rfl)
theorem dX8_init_141 : decode cX8_init 141 = .ok (.newarray .int, 2) := by decide +kernel
def fw_dX8_init_143 : List (Nat × Instr × Nat) := [(143, .putfield 63, 3), (146, .aload_n 0, 1), (147, .bipush 12, 2)]
theorem fw_dX8_init_143_c : fchk 143 (cX8_init.data.toList.drop 143) fw_dX8_init_143 = true := by decide +kernel
theorem dX8_init_143 : decode cX8_init 143 = .ok (.putfield 63, 3) := fchk_d fw_dX8_init_143_c (143, .putfield 63, 3) (List.mem_of_getElem? (i := 0) rfl)
theorem dX8_init_146 : decode cX8_init 146 = .ok (.aload_n 0, 1) := fchk_d fw_dX8_init_143_c (146, .aload_n 0, 1) (List.mem_of_getElem? (i := 1) rfl)
theorem dX8_init_147 : decode cX8_init 147 = .ok (.bipush 12, 2) := fchk_d fw_dX8_init_143_c (147, .bipush 12, 2) (List.mem_of_getElem? (i := 2) rfl)
theorem dX8_init_149 : decode cX8_init 149 = .ok (.newarray .boolean, 2) := by decide +kernel
def fw_dX8_init_151 : List (Nat × Instr × Nat) := [(151, .putfield 66, 3), (154, .aload_n 0, 1), (155, .bipush 120, 2)]
theorem fw_dX8_init_151_c : fchk 151 (cX8_init.data.toList.drop 151) fw_dX8_init_151 = true := by decide +kernel
theorem dX8_init_151 : decode cX8_init 151 = .ok (.putfield 66, 3) := fchk_d fw_dX8_init_151_c (151, .putfield 66, 3) (List.mem_of_getElem? (i := 0) rfl)
theorem dX8_init_154 : decode cX8_init 154 = .ok (.aload_n 0, 1) := fchk_d fw_dX8_init_151_c (154, .aload_n 0, 1) (List.mem_of_getElem? (i := 1) rfl)
theorem dX8_init_155 : decode cX8_init 155 = .ok (.bipush 120, 2) := fchk_d fw_dX8_init_151_c (155, .bipush 120, 2) (List.mem_of_getElem? (i := 2) rfl)
theorem dX8_init_157 : decode cX8_init 157 = .ok (.newarray .int, 2) := by decide +kernel
def fw_dX8_init_159 : List (Nat × Instr × Nat) := [(159, .putfield 70, 3), (162, .aload_n 0, 1), (163, .bipush 120, 2)]
theorem fw_dX8_init_159_c : fchk 159 (cX8_init.data.toList.drop 159) fw_dX8_init_159 = true := by decide +kernel
theorem dX8_init_159 : decode cX8_init 159 = .ok (.putfield 70, 3) := fchk_d fw_dX8_init_159_c (159, .putfield 70, 3) (List.mem_of_getElem? (i := 0) rfl)
theorem dX8_init_162 : decode cX8_init 162 = .ok (.aload_n 0, 1) := fchk_d fw_dX8_init_159_c (162, .aload_n 0, 1) (List.mem_of_getElem? (i := 1) rfl)
theorem dX8_init_163 : decode cX8_init 163 = .ok (.bipush 120, 2) := fchk_d fw_dX8_init_159_c (163, .bipush 120, 2) (List.mem_of_getElem? (i := 2) rfl)
theorem dX8_init_165 : decode cX8_init 165 = .ok (.newarray .int, 2) := by decide +kernel
def fw_dX8_init_167 : List (Nat × Instr × Nat) := [(167, .putfield 73, 3), (170, .aload_n 0, 1), (171, .bipush 120, 2)]
theorem fw_dX8_init_167_c : fchk 167 (cX8_init.data.toList.drop 167) fw_dX8_init_167 = true := by decide +kernel
theorem dX8_init_167 : decode cX8_init 167 = .ok (.putfield 73, 3) := fchk_d fw_dX8_init_167_c (167, .putfield 73, 3) (List.mem_of_getElem? (i := 0) rfl)
theorem dX8_init_170 : decode cX8_init 170 = .ok (.aload_n 0, 1) := fchk_d fw_dX8_init_167_c (170, .aload_n 0, 1) (List.mem_of_getElem? (i := 1) rfl)
theorem dX8_init_171 : decode cX8_init 171 = .ok (.bipush 120, 2) := fchk_d fw_dX8_init_167_c (171, .bipush 120, 2) (List.mem_of_getElem? (i := 2) rfl)
theorem dX8_init_173 : decode cX8_init 173 = .ok (.newarray .int, 2) := by decide +kernel
def fw_dX8_init_175 : List (Nat × Instr × Nat) := [(175, .putfield 76, 3), (178, .aload_n 0, 1), (179, .bipush 120, 2)]
theorem fw_dX8_init_175_c : fchk 175 (cX8_init.data.toList.drop 175) fw_dX8_init_175 = true := by decide +kernel
theorem dX8_init_175 : decode cX8_init 175 = .ok (.putfield 76, 3) := fchk_d fw_dX8_init_175_c (175, .putfield 76, 3) (List.mem_of_getElem? (i := 0) rfl)
theorem dX8_init_178 : decode cX8_init 178 = .ok (.aload_n 0, 1) := fchk_d fw_dX8_init_175_c (178, .aload_n 0, 1) (List.mem_of_getElem? (i := 1) rfl)
theorem dX8_init_179 : decode cX8_init 179 = .ok (.bipush 120, 2) := fchk_d fw_dX8_init_175_c (179, .bipush 120, 2) (List.mem_of_getElem? (i := 2) rfl)
theorem dX8_init_181 : decode cX8_init 181 = .ok (.newarray .int, 2) := by decide +kernel
def fw_dX8_init_183 : List (Nat × Instr × Nat) := [(183, .putfield 79, 3), (186, .aload_n 0, 1), (187, .bipush 120, 2)]
theorem fw_dX8_init_183_c : fchk 183 (cX8_init.data.toList.drop 183) fw_dX8_init_183 = true := by decide +kernel
theorem dX8_init_183 : decode cX8_init 183 = .ok (.putfield 79, 3) := fchk_d fw_dX8_init_183_c (183, .putfield 79, 3) (List.mem_of_getElem? (i := 0) rfl)
theorem dX8_init_186 : decode cX8_init 186 = .ok (.aload_n 0, 1) := fchk_d fw_dX8_init_183_c (186, .aload_n 0, 1) (List.mem_of_getElem? (i := 1) rfl)
theorem dX8_init_187 : decode cX8_init 187 = .ok (.bipush 120, 2) := fchk_d fw_dX8_init_183_c (187, .bipush 120, 2) (List.mem_of_getElem? (i := 2) rfl)
theorem dX8_init_189 : decode cX8_init 189 = .ok (.newarray .int, 2) := by decide +kernel
def fw_dX8_init_191 : List (Nat × Instr × Nat) := [(191, .putfield 82, 3), (194, .aload_n 0, 1), (195, .sipush 840, 3)]
theorem fw_dX8_init_191_c : fchk 191 (cX8_init.data.toList.drop 191) fw_dX8_init_191 = true := by decide +kernel
theorem dX8_init_191 : decode cX8_init 191 = .ok (.putfield 82, 3) := fchk_d fw_dX8_init_191_c (191, .putfield 82, 3) (List.mem_of_getElem? (i := 0) rfl)
theorem dX8_init_194 : decode cX8_init 194 = .ok (.aload_n 0, 1) := fchk_d fw_dX8_init_191_c (194, .aload_n 0, 1) (List.mem_of_getElem? (i := 1) rfl)
theorem dX8_init_195 : decode cX8_init 195 = .ok (.sipush 840, 3) := fchk_d fw_dX8_init_191_c (195, .sipush 840, 3) (List.mem_of_getElem? (i := 2) rfl)
theorem dX8_init_198 : decode cX8_init 198 = .ok (.newarray .int, 2) := by decide +kernel
def fw_dX8_init_200 : List (Nat × Instr × Nat) := [(200, .putfield 85, 3), (203, .aload_n 0, 1), (204, .bipush 7, 2)]
theorem fw_dX8_init_200_c : fchk 200 (cX8_init.data.toList.drop 200) fw_dX8_init_200 = true := by decide +kernel
theorem dX8_init_200 : decode cX8_init 200 = .ok (.putfield 85, 3) := fchk_d fw_dX8_init_200_c (200, .putfield 85, 3) (List.mem_of_getElem? (i := 0) rfl)
theorem dX8_init_203 : decode cX8_init 203 = .ok (.aload_n 0, 1) := fchk_d fw_dX8_init_200_c (203, .aload_n 0, 1) (List.mem_of_getElem? (i := 1) rfl)
theorem dX8_init_204 : decode cX8_init 204 = .ok (.bipush 7, 2) := fchk_d fw_dX8_init_200_c (204, .bipush 7, 2) (List.mem_of_getElem? (i := 2) rfl)
theorem dX8_init_206 : decode cX8_init 206 = .ok (.newarray .int, 2) := by decide +kernel
def fw_dX8_init_208 : List (Nat × Instr × Nat) := [(208, .putfield 88, 3), (211, .aload_n 0, 1), (212, .bipush 7, 2)]
theorem fw_dX8_init_208_c : fchk 208 (cX8_init.data.toList.drop 208) fw_dX8_init_208 = true := by decide +kernel
theorem dX8_init_208 : decode cX8_init 208 = .ok (.putfield 88, 3) := fchk_d fw_dX8_init_208_c (208, .putfield 88, 3) (List.mem_of_getElem? (i := 0) rfl)
theorem dX8_init_211 : decode cX8_init 211 = .ok (.aload_n 0, 1) := fchk_d fw_dX8_init_208_c (211, .aload_n 0, 1) (List.mem_of_getElem? (i := 1) rfl)
theorem dX8_init_212 : decode cX8_init 212 = .ok (.bipush 7, 2) := fchk_d fw_dX8_init_208_c (212, .bipush 7, 2) (List.mem_of_getElem? (i := 2) rfl)
theorem dX8_init_214 : decode cX8_init 214 = .ok (.newarray .int, 2) := by decide +kernel
def fw_dX8_init_216 : List (Nat × Instr × Nat) := [(216, .putfield 91, 3), (219, .aload_n 0, 1), (220, .bipush 7, 2)]
theorem fw_dX8_init_216_c : fchk 216 (cX8_init.data.toList.drop 216) fw_dX8_init_216 = true := by decide +kernel
theorem dX8_init_216 : decode cX8_init 216 = .ok (.putfield 91, 3) := fchk_d fw_dX8_init_216_c (216, .putfield 91, 3) (List.mem_of_getElem? (i := 0) rfl)
theorem dX8_init_219 : decode cX8_init 219 = .ok (.aload_n 0, 1) := fchk_d fw_dX8_init_216_c (219, .aload_n 0, 1) (List.mem_of_getElem? (i := 1) rfl)
theorem dX8_init_220 : decode cX8_init 220 = .ok (.bipush 7, 2) := fchk_d fw_dX8_init_216_c (220, .bipush 7, 2) (List.mem_of_getElem? (i := 2) rfl)
theorem dX8_init_222 : decode cX8_init 222 = .ok (.newarray .int, 2) := by decide +kernel
def fw_dX8_init_224 : List (Nat × Instr × Nat) := [(224, .putfield 94, 3), (227, .aload_n 0, 1), (228, .bipush 7, 2)]
theorem fw_dX8_init_224_c : fchk 224 (cX8_init.data.toList.drop 224) fw_dX8_init_224 = true := by decide +kernel
theorem dX8_init_224 : decode cX8_init 224 = .ok (.putfield 94, 3) := fchk_d fw_dX8_init_224_c (224, .putfield 94, 3) (List.mem_of_getElem? (i := 0) rfl)
theorem dX8_init_227 : decode cX8_init 227 = .ok (.aload_n 0, 1) := fchk_d fw_dX8_init_224_c (227, .aload_n 0, 1) (List.mem_of_getElem? (i := 1) rfl)
theorem dX8_init_228 : decode cX8_init 228 = .ok (.bipush 7, 2) := fchk_d fw_dX8_init_224_c (228, .bipush 7, 2) (List.mem_of_getElem? (i := 2) rfl)
theorem dX8_init_230 : decode cX8_init 230 = .ok (.newarray .int, 2) := by decide +kernel
def fw_dX8_init_232 : List (Nat × Instr × Nat) := [(232, .putfield 97, 3), (235, .aload_n 0, 1), (236, .iconst (-1), 1), (237, .putfield 100, 3), (240, .aload_n 0, 1), (241, .bipush 74, 2)]
theorem fw_dX8_init_232_c : fchk 232 (cX8_init.data.toList.drop 232) fw_dX8_init_232 = true := by decide +kernel
theorem dX8_init_232 : decode cX8_init 232 = .ok (.putfield 97, 3) := fchk_d fw_dX8_init_232_c (232, .putfield 97, 3) (List.mem_of_getElem? (i := 0) rfl)
theorem dX8_init_235 : decode cX8_init 235 = .ok (.aload_n 0, 1) := fchk_d fw_dX8_init_232_c (235, .aload_n 0, 1) (List.mem_of_getElem? (i := 1) rfl)
theorem dX8_init_236 : decode cX8_init 236 = .ok (.iconst (-1), 1) := fchk_d fw_dX8_init_232_c (236, .iconst (-1), 1) (List.mem_of_getElem? (i := 2) rfl)
theorem dX8_init_237 : decode cX8_init 237 = .ok (.putfield 100, 3) := fchk_d fw_dX8_init_232_c (237, .putfield 100, 3) (List.mem_of_getElem? (i := 3) rfl)
theorem dX8_init_240 : decode cX8_init 240 = .ok (.aload_n 0, 1) := fchk_d fw_dX8_init_232_c (240, .aload_n 0, 1) (List.mem_of_getElem? (i := 4) rfl)
theorem dX8_init_241 : decode cX8_init 241 = .ok (.bipush 74, 2) := fchk_d fw_dX8_init_232_c (241, .bipush 74, 2) (List.mem_of_getElem? (i := 5) rfl)
theorem dX8_init_243 : decode cX8_init 243 = .ok (.newarray .long, 2) := by decide +kernel
def fw_dX8_init_245 : List (Nat × Instr × Nat) := [(245, .putfield 103, 3), (248, .aload_n 0, 1), (249, .bipush 16, 2)]
theorem fw_dX8_init_245_c : fchk 245 (cX8_init.data.toList.drop 245) fw_dX8_init_245 = true := by decide +kernel
theorem dX8_init_245 : decode cX8_init 245 = .ok (.putfield 103, 3) := fchk_d fw_dX8_init_245_c (245, .putfield 103, 3) (List.mem_of_getElem? (i := 0) rfl)
theorem dX8_init_248 : decode cX8_init 248 = .ok (.aload_n 0, 1) := fchk_d fw_dX8_init_245_c (248, .aload_n 0, 1) (List.mem_of_getElem? (i := 1) rfl)
theorem dX8_init_249 : decode cX8_init 249 = .ok (.bipush 16, 2) := fchk_d fw_dX8_init_245_c (249, .bipush 16, 2) (List.mem_of_getElem? (i := 2) rfl)
theorem dX8_init_251 : decode cX8_init 251 = .ok (.newarray .int, 2) := by decide +kernel
def fw_dX8_init_253 : List (Nat × Instr × Nat) := [(253, .putfield 106, 3), (256, .aload_n 0, 1), (257, .bipush 64, 2)]
theorem fw_dX8_init_253_c : fchk 253 (cX8_init.data.toList.drop 253) fw_dX8_init_253 = true := by decide +kernel
theorem dX8_init_253 : decode cX8_init 253 = .ok (.putfield 106, 3) := fchk_d fw_dX8_init_253_c (253, .putfield 106, 3) (List.mem_of_getElem? (i := 0) rfl)
theorem dX8_init_256 : decode cX8_init 256 = .ok (.aload_n 0, 1) := fchk_d fw_dX8_init_253_c (256, .aload_n 0, 1) (List.mem_of_getElem? (i := 1) rfl)
theorem dX8_init_257 : decode cX8_init 257 = .ok (.bipush 64, 2) := fchk_d fw_dX8_init_253_c (257, .bipush 64, 2) (List.mem_of_getElem? (i := 2) rfl)
theorem dX8_init_259 : decode cX8_init 259 = .ok (.newarray .int, 2) := by decide +kernel
def fw_dX8_init_261 : List (Nat × Instr × Nat) := [(261, .putfield 109, 3), (264, .aload_n 0, 1), (265, .bipush 64, 2)]
theorem fw_dX8_init_261_c : fchk 261 (cX8_init.data.toList.drop 261) fw_dX8_init_261 = true := by decide +kernel
theorem dX8_init_261 : decode cX8_init 261 = .ok (.putfield 109, 3) := fchk_d fw_dX8_init_261_c (261, .putfield 109, 3) (List.mem_of_getElem? (i := 0) rfl)
theorem dX8_init_264 : decode cX8_init 264 = .ok (.aload_n 0, 1) := fchk_d fw_dX8_init_261_c (264, .aload_n 0, 1) (List.mem_of_getElem? (i := 1) rfl)
theorem dX8_init_265 : decode cX8_init 265 = .ok (.bipush 64, 2) := fchk_d fw_dX8_init_261_c (265, .bipush 64, 2) (List.mem_of_getElem? (i := 2) rfl)
theorem dX8_init_267 : decode cX8_init 267 = .ok (.newarray .int, 2) := by decide +kernel
def fw_dX8_init_269 : List (Nat × Instr × Nat) := [(269, .putfield 112, 3), (272, .aload_n 0, 1), (273, .iconst (-1), 1), (274, .putfield 115, 3), (277, .iconst 0, 1), (278, .istore_n 1, 1), (279, .iload_n 1, 1), (280, .bipush 8, 2), (282, .if_icmp .ge 17, 3), (285, .aload_n 0, 1), (286, .getfield 25, 3), (289, .iload_n 1, 1), (290, .bipush 16, 2), (292, .iastore, 1)]
theorem fw_dX8_init_269_c : fchk 269 (cX8_init.data.toList.drop 269) fw_dX8_init_269 = true := by decide +kernel
theorem dX8_init_269 : decode cX8_init 269 = .ok (.putfield 112, 3) := fchk_d fw_dX8_init_269_c (269, .putfield 112, 3) (List.mem_of_getElem? (i := 0) rfl)
theorem dX8_init_272 : decode cX8_init 272 = .ok (.aload_n 0, 1) := fchk_d fw_dX8_init_269_c (272, .aload_n 0, 1) (List.mem_of_getElem? (i := 1) rfl)
theorem dX8_init_273 : decode cX8_init 273 = .ok (.iconst (-1), 1) := fchk_d fw_dX8_init_269_c (273, .iconst (-1), 1) (List.mem_of_getElem? (i := 2) rfl)
theorem dX8_init_274 : decode cX8_init 274 = .ok (.putfield 115, 3) := fchk_d fw_dX8_init_269_c (274, .putfield 115, 3) (List.mem_of_getElem? (i := 3) rfl)
theorem dX8_init_277 : decode cX8_init 277 = .ok (.iconst 0, 1) := fchk_d fw_dX8_init_269_c (277, .iconst 0, 1) (List.mem_of_getElem? (i := 4) rfl)
theorem dX8_init_278 : decode cX8_init 278 = .ok (.istore_n 1, 1) := fchk_d fw_dX8_init_269_c (278, .istore_n 1, 1) (List.mem_of_getElem? (i := 5) rfl)
theorem dX8_init_279 : decode cX8_init 279 = .ok (.iload_n 1, 1) := fchk_d fw_dX8_init_269_c (279, .iload_n 1, 1) (List.mem_of_getElem? (i := 6) rfl)
theorem dX8_init_280 : decode cX8_init 280 = .ok (.bipush 8, 2) := fchk_d fw_dX8_init_269_c (280, .bipush 8, 2) (List.mem_of_getElem? (i := 7) rfl)
theorem dX8_init_282 : decode cX8_init 282 = .ok (.if_icmp .ge 17, 3) := fchk_d fw_dX8_init_269_c (282, .if_icmp .ge 17, 3) (List.mem_of_getElem? (i := 8) rfl)
theorem dX8_init_285 : decode cX8_init 285 = .ok (.aload_n 0, 1) := fchk_d fw_dX8_init_269_c (285, .aload_n 0, 1) (List.mem_of_getElem? (i := 9) rfl)
theorem dX8_init_286 : decode cX8_init 286 = .ok (.getfield 25, 3) := fchk_d fw_dX8_init_269_c (286, .getfield 25, 3) (List.mem_of_getElem? (i := 10) rfl)
theorem dX8_init_289 : decode cX8_init 289 = .ok (.iload_n 1, 1) := fchk_d fw_dX8_init_269_c (289, .iload_n 1, 1) (List.mem_of_getElem? (i := 11) rfl)
theorem dX8_init_290 : decode cX8_init 290 = .ok (.bipush 16, 2) := fchk_d fw_dX8_init_269_c (290, .bipush 16, 2) (List.mem_of_getElem? (i := 12) rfl)
theorem dX8_init_292 : decode cX8_init 292 = .ok (.iastore, 1) := fchk_d fw_dX8_init_269_c (292, .iastore, 1) (List.mem_of_getElem? (i := 13) rfl)
theorem dX8_init_293 : decode cX8_init 293 = .ok (.iinc 1 1, 3) := by decide +kernel
def fw_dX8_init_296 : List (Nat × Instr × Nat) := [(296, .goto (-17), 3), (299, .iconst 0, 1), (300, .istore_n 1, 1), (301, .iload_n 1, 1), (302, .bipush 16, 2), (304, .if_icmp .ge 16, 3), (307, .aload_n 0, 1), (308, .getfield 106, 3), (311, .iload_n 1, 1), (312, .iconst (-1), 1), (313, .iastore, 1)]
theorem fw_dX8_init_296_c : fchk 296 (cX8_init.data.toList.drop 296) fw_dX8_init_296 = true := by decide +kernel
theorem dX8_init_296 : decode cX8_init 296 = .ok (.goto (-17), 3) := fchk_d fw_dX8_init_296_c (296, .goto (-17), 3) (List.mem_of_getElem? (i := 0) rfl)
theorem dX8_init_299 : decode cX8_init 299 = .ok (.iconst 0, 1) := fchk_d fw_dX8_init_296_c (299, .iconst 0, 1) (List.mem_of_getElem? (i := 1) rfl)
theorem dX8_init_300 : decode cX8_init 300 = .ok (.istore_n 1, 1) := fchk_d fw_dX8_init_296_c (300, .istore_n 1, 1) (List.mem_of_getElem? (i := 2) rfl)
theorem dX8_init_301 : decode cX8_init 301 = .ok (.iload_n 1, 1) := fchk_d fw_dX8_init_296_c (301, .iload_n 1, 1) (List.mem_of_getElem? (i := 3) rfl)
theorem dX8_init_302 : decode cX8_init 302 = .ok (.bipush 16, 2) := fchk_d fw_dX8_init_296_c (302, .bipush 16, 2) (List.mem_of_getElem? (i := 4) rfl)
theorem dX8_init_304 : decode cX8_init 304 = .ok (.if_icmp .ge 16, 3) := fchk_d fw_dX8_init_296_c (304, .if_icmp .ge 16, 3) (List.mem_of_getElem? (i := 5) rfl)
theorem dX8_init_307 : decode cX8_init 307 = .ok (.aload_n 0, 1) := fchk_d fw_dX8_init_296_c (307, .aload_n 0, 1) (List.mem_of_getElem? (i := 6) rfl)
theorem dX8_init_308 : decode cX8_init 308 = .ok (.getfield 106, 3) := fchk_d fw_dX8_init_296_c (308, .getfield 106, 3) (List.mem_of_getElem? (i := 7) rfl)
theorem dX8_init_311 : decode cX8_init 311 = .ok (.iload_n 1, 1) := fchk_d fw_dX8_init_296_c (311, .iload_n 1, 1) (List.mem_of_getElem? (i := 8) rfl)
theorem dX8_init_312 : decode cX8_init 312 = .ok (.iconst (-1), 1) := fchk_d fw_dX8_init_296_c (312, .iconst (-1), 1) (List.mem_of_getElem? (i := 9) rfl)
theorem dX8_init_313 : decode cX8_init 313 = .ok (.iastore, 1) := fchk_d fw_dX8_init_296_c (313, .iastore, 1) (List.mem_of_getElem? (i := 10) rfl)
theorem dX8_init_314 : decode cX8_init 314 = .ok (.iinc 1 1, 3) := by decide +kernel
def fw_dX8_init_317 : List (Nat × Instr × Nat) := [(317, .goto (-16), 3), (320, .return_, 1)]
theorem fw_dX8_init_317_c : fchk 317 (cX8_init.data.toList.drop 317) fw_dX8_init_317 = true := by decide +kernel
theorem dX8_init_317 : decode cX8_init 317 = .ok (.goto (-16), 3) := fchk_d fw_dX8_init_317_c (317, .goto (-16), 3) (List.mem_of_getElem? (i := 0) rfl)
theorem dX8_init_320 : decode cX8_init 320 = .ok (.return_, 1) := fchk_d fw_dX8_init_317_c (320, .return_, 1) (List.mem_of_getElem? (i := 1) rfl)
def fw_dX8_isIn_0 : List (Nat × Instr × Nat) := [(0, .lload_n 0, 1), (1, .lload_n 2, 1), (2, .lcmp, 1), (3, .ifCond .lt 14, 3), (6, .lload_n 0, 1), (7, .lload 4, 2), (9, .lcmp, 1), (10, .ifCond .gt 7, 3), (13, .iconst 1, 1), (14, .goto 4, 3), (17, .iconst 0, 1), (18, .ireturn, 1)]
theorem fw_dX8_isIn_0_c : fchk 0 (cX8_isIn.data.toList.drop 0) fw_dX8_isIn_0 = true := by decide +kernel
theorem dX8_isIn_0 : decode cX8_isIn 0 = .ok (.lload_n 0, 1) := fchk_d fw_dX8_isIn_0_c (0, .lload_n 0, 1) (List.mem_of_getElem? (i := 0) rfl)
theorem dX8_isIn_1 : decode cX8_isIn 1 = .ok (.lload_n 2, 1) := fchk_d fw_dX8_isIn_0_c (1, .lload_n 2, 1) (List.mem_of_getElem? (i := 1) rfl)
theorem dX8_isIn_2 : decode cX8_isIn 2 = .ok (.lcmp, 1) := fchk_d fw_dX8_isIn_0_c (2, .lcmp, 1) (List.mem_of_getElem? (i := 2) rfl)
theorem dX8_isIn_3 : decode cX8_isIn 3 = .ok (.ifCond .lt 14, 3) := fchk_d fw_dX8_isIn_0_c (3, .ifCond .lt 14, 3) (List.mem_of_getElem? (i := 3) rfl)
theorem dX8_isIn_6 : decode cX8_isIn 6 = .ok (.lload_n 0, 1) := fchk_d fw_dX8_isIn_0_c (6, .lload_n 0, 1) (List.mem_of_getElem? (i := 4) rfl)
theorem dX8_isIn_7 : decode cX8_isIn 7 = .ok (.lload 4, 2) := fchk_d fw_dX8_isIn_0_c (7, .lload 4, 2) (List.mem_of_getElem? (i := 5) rfl)
theorem dX8_isIn_9 : decode cX8_isIn 9 = .ok (.lcmp, 1) := fchk_d fw_dX8_isIn_0_c (9, .lcmp, 1) (List.mem_of_getElem? (i := 6) rfl)
theorem dX8_isIn_10 : decode cX8_isIn 10 = .ok (.ifCond .gt 7, 3) := fchk_d fw_dX8_isIn_0_c (10, .ifCond .gt 7, 3) (List.mem_of_getElem? (i := 7) rfl)
theorem dX8_isIn_13 : decode cX8_isIn 13 = .ok (.iconst 1, 1) := fchk_d fw_dX8_isIn_0_c (13, .iconst 1, 1) (List.mem_of_getElem? (i := 8) rfl)
theorem dX8_isIn_14 : decode cX8_isIn 14 = .ok (.goto 4, 3) := fchk_d fw_dX8_isIn_0_c (14, .goto 4, 3) (List.mem_of_getElem? (i := 9) rfl)
theorem dX8_isIn_17 : decode cX8_isIn 17 = .ok (.iconst 0, 1) := fchk_d fw_dX8_isIn_0_c (17, .iconst 0, 1) (List.mem_of_getElem? (i := 10) rfl)
theorem dX8_isIn_18 : decode cX8_isIn 18 = .ok (.ireturn, 1) := fchk_d fw_dX8_isIn_0_c (18, .ireturn, 1) (List.mem_of_getElem? (i := 11) rfl)
def fw_dX8_no_0 : List (Nat × Instr × Nat) := [(0, .aload_n 0, 1), (1, .getfield 48, 3), (4, .iload_n 1, 1), (5, .ineg, 1), (6, .dup2, 1), (7, .iaload, 1), (8, .iconst 1, 1), (9, .iadd, 1), (10, .iastore, 1), (11, .iload_n 1, 1), (12, .ireturn, 1)]
theorem fw_dX8_no_0_c : fchk 0 (cX8_no.data.toList.drop 0) fw_dX8_no_0 = true := by decide +kernel
theorem dX8_no_0 : decode cX8_no 0 = .ok (.aload_n 0, 1) := fchk_d fw_dX8_no_0_c (0, .aload_n 0, 1) (List.mem_of_getElem? (i := 0) rfl)
theorem dX8_no_1 : decode cX8_no 1 = .ok (.getfield 48, 3) := fchk_d fw_dX8_no_0_c (1, .getfield 48, 3) (List.mem_of_getElem? (i := 1) rfl)
theorem dX8_no_4 : decode cX8_no 4 = .ok (.iload_n 1, 1) := fchk_d fw_dX8_no_0_c (4, .iload_n 1, 1) (List.mem_of_getElem? (i := 2) rfl)
theorem dX8_no_5 : decode cX8_no 5 = .ok (.ineg, 1) := fchk_d fw_dX8_no_0_c (5, .ineg, 1) (List.mem_of_getElem? (i := 3) rfl)
theorem dX8_no_6 : decode cX8_no 6 = .ok (.dup2, 1) := fchk_d fw_dX8_no_0_c (6, .dup2, 1) (List.mem_of_getElem? (i := 4) rfl)
theorem dX8_no_7 : decode cX8_no 7 = .ok (.iaload, 1) := fchk_d fw_dX8_no_0_c (7, .iaload, 1) (List.mem_of_getElem? (i := 5) rfl)
theorem dX8_no_8 : decode cX8_no 8 = .ok (.iconst 1, 1) := fchk_d fw_dX8_no_0_c (8, .iconst 1, 1) (List.mem_of_getElem? (i := 6) rfl)
theorem dX8_no_9 : decode cX8_no 9 = .ok (.iadd, 1) := fchk_d fw_dX8_no_0_c (9, .iadd, 1) (List.mem_of_getElem? (i := 7) rfl)
theorem dX8_no_10 : decode cX8_no 10 = .ok (.iastore, 1) := fchk_d fw_dX8_no_0_c (10, .iastore, 1) (List.mem_of_getElem? (i := 8) rfl)
theorem dX8_no_11 : decode cX8_no 11 = .ok (.iload_n 1, 1) := fchk_d fw_dX8_no_0_c (11, .iload_n 1, 1) (List.mem_of_getElem? (i := 9) rfl)
theorem dX8_no_12 : decode cX8_no 12 = .ok (.ireturn, 1) := fchk_d fw_dX8_no_0_c (12, .ireturn, 1) (List.mem_of_getElem? (i := 10) rfl)
def fw_dX8_isRegister_0 : List (Nat × Instr × Nat) := [(0, .iload_n 0, 1), (1, .ifCond .lt 13, 3), (4, .iload_n 0, 1), (5, .bipush 8, 2), (7, .if_icmp .ge 7, 3), (10, .iconst 1, 1), (11, .goto 4, 3), (14, .iconst 0, 1), (15, .ireturn, 1)]
theorem fw_dX8_isRegister_0_c : fchk 0 (cX8_isRegister.data.toList.drop 0) fw_dX8_isRegister_0 = true := by decide +kernel
theorem dX8_isRegister_0 : decode cX8_isRegister 0 = .ok (.iload_n 0, 1) := fchk_d fw_dX8_isRegister_0_c (0, .iload_n 0, 1) (List.mem_of_getElem? (i := 0) rfl)
theorem dX8_isRegister_1 : decode cX8_isRegister 1 = .ok (.ifCond .lt 13, 3) := fchk_d fw_dX8_isRegister_0_c (1, .ifCond .lt 13, 3) (List.mem_of_getElem? (i := 1) rfl)
theorem dX8_isRegister_4 : decode cX8_isRegister 4 = .ok (.iload_n 0, 1) := fchk_d fw_dX8_isRegister_0_c (4, .iload_n 0, 1) (List.mem_of_getElem? (i := 2) rfl)
theorem dX8_isRegister_5 : decode cX8_isRegister 5 = .ok (.bipush 8, 2) := fchk_d fw_dX8_isRegister_0_c (5, .bipush 8, 2) (List.mem_of_getElem? (i := 3) rfl)
theorem dX8_isRegister_7 : decode cX8_isRegister 7 = .ok (.if_icmp .ge 7, 3) := fchk_d fw_dX8_isRegister_0_c (7, .if_icmp .ge 7, 3) (List.mem_of_getElem? (i := 4) rfl)
theorem dX8_isRegister_10 : decode cX8_isRegister 10 = .ok (.iconst 1, 1) := fchk_d fw_dX8_isRegister_0_c (10, .iconst 1, 1) (List.mem_of_getElem? (i := 5) rfl)
theorem dX8_isRegister_11 : decode cX8_isRegister 11 = .ok (.goto 4, 3) := fchk_d fw_dX8_isRegister_0_c (11, .goto 4, 3) (List.mem_of_getElem? (i := 6) rfl)
theorem dX8_isRegister_14 : decode cX8_isRegister 14 = .ok (.iconst 0, 1) := fchk_d fw_dX8_isRegister_0_c (14, .iconst 0, 1) (List.mem_of_getElem? (i := 7) rfl)
theorem dX8_isRegister_15 : decode cX8_isRegister 15 = .ok (.ireturn, 1) := fchk_d fw_dX8_isRegister_0_c (15, .ireturn, 1) (List.mem_of_getElem? (i := 8) rfl)
def fw_dX8_isCell_0 : List (Nat × Instr × Nat) := [(0, .iload_n 0, 1), (1, .ifCond .lt 13, 3), (4, .iload_n 0, 1), (5, .bipush 64, 2), (7, .if_icmp .ge 7, 3), (10, .iconst 1, 1), (11, .goto 4, 3), (14, .iconst 0, 1), (15, .ireturn, 1)]
theorem fw_dX8_isCell_0_c : fchk 0 (cX8_isCell.data.toList.drop 0) fw_dX8_isCell_0 = true := by decide +kernel
theorem dX8_isCell_0 : decode cX8_isCell 0 = .ok (.iload_n 0, 1) := fchk_d fw_dX8_isCell_0_c (0, .iload_n 0, 1) (List.mem_of_getElem? (i := 0) rfl)
theorem dX8_isCell_1 : decode cX8_isCell 1 = .ok (.ifCond .lt 13, 3) := fchk_d fw_dX8_isCell_0_c (1, .ifCond .lt 13, 3) (List.mem_of_getElem? (i := 1) rfl)
theorem dX8_isCell_4 : decode cX8_isCell 4 = .ok (.iload_n 0, 1) := fchk_d fw_dX8_isCell_0_c (4, .iload_n 0, 1) (List.mem_of_getElem? (i := 2) rfl)
theorem dX8_isCell_5 : decode cX8_isCell 5 = .ok (.bipush 64, 2) := fchk_d fw_dX8_isCell_0_c (5, .bipush 64, 2) (List.mem_of_getElem? (i := 3) rfl)
theorem dX8_isCell_7 : decode cX8_isCell 7 = .ok (.if_icmp .ge 7, 3) := fchk_d fw_dX8_isCell_0_c (7, .if_icmp .ge 7, 3) (List.mem_of_getElem? (i := 4) rfl)
theorem dX8_isCell_10 : decode cX8_isCell 10 = .ok (.iconst 1, 1) := fchk_d fw_dX8_isCell_0_c (10, .iconst 1, 1) (List.mem_of_getElem? (i := 5) rfl)
theorem dX8_isCell_11 : decode cX8_isCell 11 = .ok (.goto 4, 3) := fchk_d fw_dX8_isCell_0_c (11, .goto 4, 3) (List.mem_of_getElem? (i := 6) rfl)
theorem dX8_isCell_14 : decode cX8_isCell 14 = .ok (.iconst 0, 1) := fchk_d fw_dX8_isCell_0_c (14, .iconst 0, 1) (List.mem_of_getElem? (i := 7) rfl)
theorem dX8_isCell_15 : decode cX8_isCell 15 = .ok (.ireturn, 1) := fchk_d fw_dX8_isCell_0_c (15, .ireturn, 1) (List.mem_of_getElem? (i := 8) rfl)
def fw_dX8_isInstruction_0 : List (Nat × Instr × Nat) := [(0, .iload_n 0, 1), (1, .ifCond .lt 13, 3), (4, .iload_n 0, 1), (5, .bipush 12, 2), (7, .if_icmp .ge 7, 3), (10, .iconst 1, 1), (11, .goto 4, 3), (14, .iconst 0, 1), (15, .ireturn, 1)]
theorem fw_dX8_isInstruction_0_c : fchk 0 (cX8_isInstruction.data.toList.drop 0) fw_dX8_isInstruction_0 = true := by decide +kernel
theorem dX8_isInstruction_0 : decode cX8_isInstruction 0 = .ok (.iload_n 0, 1) := fchk_d fw_dX8_isInstruction_0_c (0, .iload_n 0, 1) (List.mem_of_getElem? (i := 0) rfl)
theorem dX8_isInstruction_1 : decode cX8_isInstruction 1 = .ok (.ifCond .lt 13, 3) := fchk_d fw_dX8_isInstruction_0_c (1, .ifCond .lt 13, 3) (List.mem_of_getElem? (i := 1) rfl)
theorem dX8_isInstruction_4 : decode cX8_isInstruction 4 = .ok (.iload_n 0, 1) := fchk_d fw_dX8_isInstruction_0_c (4, .iload_n 0, 1) (List.mem_of_getElem? (i := 2) rfl)
theorem dX8_isInstruction_5 : decode cX8_isInstruction 5 = .ok (.bipush 12, 2) := fchk_d fw_dX8_isInstruction_0_c (5, .bipush 12, 2) (List.mem_of_getElem? (i := 3) rfl)
theorem dX8_isInstruction_7 : decode cX8_isInstruction 7 = .ok (.if_icmp .ge 7, 3) := fchk_d fw_dX8_isInstruction_0_c (7, .if_icmp .ge 7, 3) (List.mem_of_getElem? (i := 4) rfl)
theorem dX8_isInstruction_10 : decode cX8_isInstruction 10 = .ok (.iconst 1, 1) := fchk_d fw_dX8_isInstruction_0_c (10, .iconst 1, 1) (List.mem_of_getElem? (i := 5) rfl)
theorem dX8_isInstruction_11 : decode cX8_isInstruction 11 = .ok (.goto 4, 3) := fchk_d fw_dX8_isInstruction_0_c (11, .goto 4, 3) (List.mem_of_getElem? (i := 6) rfl)
theorem dX8_isInstruction_14 : decode cX8_isInstruction 14 = .ok (.iconst 0, 1) := fchk_d fw_dX8_isInstruction_0_c (14, .iconst 0, 1) (List.mem_of_getElem? (i := 7) rfl)
theorem dX8_isInstruction_15 : decode cX8_isInstruction 15 = .ok (.ireturn, 1) := fchk_d fw_dX8_isInstruction_0_c (15, .ireturn, 1) (List.mem_of_getElem? (i := 8) rfl)
def fw_dX8_cut_0 : List (Nat × Instr × Nat) := [(0, .lload_n 2, 1), (1, .lconst 1, 1), (2, .aload_n 0, 1), (3, .getfield 25, 3), (6, .iload_n 1, 1), (7, .iaload, 1), (8, .lshl, 1), (9, .lconst 1, 1), (10, .lsub, 1), (11, .land, 1), (12, .lreturn, 1)]
theorem fw_dX8_cut_0_c : fchk 0 (cX8_cut.data.toList.drop 0) fw_dX8_cut_0 = true := by decide +kernel
theorem dX8_cut_0 : decode cX8_cut 0 = .ok (.lload_n 2, 1) := fchk_d fw_dX8_cut_0_c (0, .lload_n 2, 1) (List.mem_of_getElem? (i := 0) rfl)
theorem dX8_cut_1 : decode cX8_cut 1 = .ok (.lconst 1, 1) := fchk_d fw_dX8_cut_0_c (1, .lconst 1, 1) (List.mem_of_getElem? (i := 1) rfl)
theorem dX8_cut_2 : decode cX8_cut 2 = .ok (.aload_n 0, 1) := fchk_d fw_dX8_cut_0_c (2, .aload_n 0, 1) (List.mem_of_getElem? (i := 2) rfl)
theorem dX8_cut_3 : decode cX8_cut 3 = .ok (.getfield 25, 3) := fchk_d fw_dX8_cut_0_c (3, .getfield 25, 3) (List.mem_of_getElem? (i := 3) rfl)
theorem dX8_cut_6 : decode cX8_cut 6 = .ok (.iload_n 1, 1) := fchk_d fw_dX8_cut_0_c (6, .iload_n 1, 1) (List.mem_of_getElem? (i := 4) rfl)
theorem dX8_cut_7 : decode cX8_cut 7 = .ok (.iaload, 1) := fchk_d fw_dX8_cut_0_c (7, .iaload, 1) (List.mem_of_getElem? (i := 5) rfl)
theorem dX8_cut_8 : decode cX8_cut 8 = .ok (.lshl, 1) := fchk_d fw_dX8_cut_0_c (8, .lshl, 1) (List.mem_of_getElem? (i := 6) rfl)
theorem dX8_cut_9 : decode cX8_cut 9 = .ok (.lconst 1, 1) := fchk_d fw_dX8_cut_0_c (9, .lconst 1, 1) (List.mem_of_getElem? (i := 7) rfl)
theorem dX8_cut_10 : decode cX8_cut 10 = .ok (.lsub, 1) := fchk_d fw_dX8_cut_0_c (10, .lsub, 1) (List.mem_of_getElem? (i := 8) rfl)
theorem dX8_cut_11 : decode cX8_cut 11 = .ok (.land, 1) := fchk_d fw_dX8_cut_0_c (11, .land, 1) (List.mem_of_getElem? (i := 9) rfl)
theorem dX8_cut_12 : decode cX8_cut 12 = .ok (.lreturn, 1) := fchk_d fw_dX8_cut_0_c (12, .lreturn, 1) (List.mem_of_getElem? (i := 10) rfl)
set_option maxRecDepth 20000 in
theorem ggX8_width_X8_isRegister : GoodIn wsX8_width wsX8_isRegister := goodIn_r _ [7] rfl (by decide +kernel)
set_option maxRecDepth 20000 in
theorem gX8_width_X8_isRegister : GoodIn wsX8_width (va_wsS RX8 118 yX8_isRegister wsX8_isRegister) := goodIn_app (goodIn_of _ (by decide +kernel)) ggX8_width_X8_isRegister
set_option maxRecDepth 20000 in
theorem ggX8_width_X8_no : GoodIn wsX8_width wsX8_no := goodIn_r _ [11, 12, 20, 21, 22, 23, 24, 25, 26, 27, 28, 29, 30, 31, 32, 33, 34, 35, 36, 37, 38, 39, 40, 41, 42, 43, 44, 45, 46, 47, 48, 49, 50, 51, 52, 53, 54, 55, 56, 57, 58, 59, 60, 61, 62, 63] rfl (by decide +kernel)
set_option maxRecDepth 20000 in
theorem gX8_width_X8_no : GoodIn wsX8_width (wsV RX8 122 RX8 yX8_no wsX8_no) := goodIn_app (goodIn_of _ (by decide +kernel)) ggX8_width_X8_no
set_option maxRecDepth 20000 in
theorem ggX8_width_X8_isIn : GoodIn wsX8_width wsX8_isIn := goodIn_r _ [15] rfl (by decide +kernel)
set_option maxRecDepth 20000 in
theorem gX8_width_X8_isIn : GoodIn wsX8_width (va_wsS RX8 128 yX8_isIn wsX8_isIn) := goodIn_app (goodIn_of _ (by decide +kernel)) ggX8_width_X8_isIn
set_option maxRecDepth 20000 in
theorem ggX8_width_X8_cut : GoodIn wsX8_width wsX8_cut := goodIn_r _ [19, 2, 20, 21, 22, 23, 24, 25, 26, 27, 28, 29, 30, 31, 32, 33, 34, 35, 36, 37, 38, 39, 40, 41, 42, 43, 44, 45, 46, 47, 48, 49, 50, 51, 52, 53, 54, 55, 56, 57, 58, 59, 60, 61, 62, 63] rfl (by decide +kernel)
set_option maxRecDepth 20000 in
theorem gX8_width_X8_cut : GoodIn wsX8_width (wsV RX8 132 RX8 yX8_cut wsX8_cut) := goodIn_app (goodIn_of _ (by decide +kernel)) ggX8_width_X8_cut
def fw_dX8_width_0 : List (Nat × Instr × Nat) := [(0, .iload_n 1, 1), (1, .invokestatic 118, 3), (4, .ifCond .ne 10, 3), (7, .aload_n 0, 1), (8, .bipush (-3), 2), (10, .invokevirtual 122, 3), (13, .ireturn, 1), (14, .iload_n 2, 1), (15, .i2l, 1), (16, .lconst 1, 1), (17, .ldc2_w 126, 3), (20, .invokestatic 128, 3), (23, .ifCond .ne 10, 3), (26, .aload_n 0, 1), (27, .bipush (-6), 2), (29, .invokevirtual 122, 3), (32, .ireturn, 1), (33, .aload_n 0, 1), (34, .getfield 25, 3), (37, .iload_n 1, 1), (38, .iaload, 1), (39, .istore_n 3, 1), (40, .aload_n 0, 1), (41, .getfield 25, 3), (44, .iload_n 1, 1), (45, .iload_n 2, 1), (46, .iastore, 1), (47, .aload_n 0, 1), (48, .getfield 7, 3), (51, .iload_n 1, 1), (52, .aload_n 0, 1), (53, .iload_n 1, 1), (54, .aload_n 0, 1), (55, .getfield 7, 3), (58, .iload_n 1, 1), (59, .laload, 1), (60, .invokevirtual 132, 3), (63, .lastore, 1), (64, .iload_n 3, 1), (65, .ireturn, 1)]
theorem fw_dX8_width_0_c : fchk 0 (cX8_width.data.toList.drop 0) fw_dX8_width_0 = true := by decide +kernel
theorem dX8_width_0 : decode cX8_width 0 = .ok (.iload_n 1, 1) := fchk_d fw_dX8_width_0_c (0, .iload_n 1, 1) (List.mem_of_getElem? (i := 0) rfl)
theorem dX8_width_1 : decode cX8_width 1 = .ok (.invokestatic 118, 3) := fchk_d fw_dX8_width_0_c (1, .invokestatic 118, 3) (List.mem_of_getElem? (i := 1) rfl)
theorem dX8_width_4 : decode cX8_width 4 = .ok (.ifCond .ne 10, 3) := fchk_d fw_dX8_width_0_c (4, .ifCond .ne 10, 3) (List.mem_of_getElem? (i := 2) rfl)
theorem dX8_width_7 : decode cX8_width 7 = .ok (.aload_n 0, 1) := fchk_d fw_dX8_width_0_c (7, .aload_n 0, 1) (List.mem_of_getElem? (i := 3) rfl)
theorem dX8_width_8 : decode cX8_width 8 = .ok (.bipush (-3), 2) := fchk_d fw_dX8_width_0_c (8, .bipush (-3), 2) (List.mem_of_getElem? (i := 4) rfl)
theorem dX8_width_10 : decode cX8_width 10 = .ok (.invokevirtual 122, 3) := fchk_d fw_dX8_width_0_c (10, .invokevirtual 122, 3) (List.mem_of_getElem? (i := 5) rfl)
theorem dX8_width_13 : decode cX8_width 13 = .ok (.ireturn, 1) := fchk_d fw_dX8_width_0_c (13, .ireturn, 1) (List.mem_of_getElem? (i := 6) rfl)
theorem dX8_width_14 : decode cX8_width 14 = .ok (.iload_n 2, 1) := fchk_d fw_dX8_width_0_c (14, .iload_n 2, 1) (List.mem_of_getElem? (i := 7) rfl)
theorem dX8_width_15 : decode cX8_width 15 = .ok (.i2l, 1) := fchk_d fw_dX8_width_0_c (15, .i2l, 1) (List.mem_of_getElem? (i := 8) rfl)
theorem dX8_width_16 : decode cX8_width 16 = .ok (.lconst 1, 1) := fchk_d fw_dX8_width_0_c (16, .lconst 1, 1) (List.mem_of_getElem? (i := 9) rfl)
theorem dX8_width_17 : decode cX8_width 17 = .ok (.ldc2_w 126, 3) := fchk_d fw_dX8_width_0_c (17, .ldc2_w 126, 3) (List.mem_of_getElem? (i := 10) rfl)
theorem dX8_width_20 : decode cX8_width 20 = .ok (.invokestatic 128, 3) := fchk_d fw_dX8_width_0_c (20, .invokestatic 128, 3) (List.mem_of_getElem? (i := 11) rfl)
theorem dX8_width_23 : decode cX8_width 23 = .ok (.ifCond .ne 10, 3) := fchk_d fw_dX8_width_0_c (23, .ifCond .ne 10, 3) (List.mem_of_getElem? (i := 12) rfl)
theorem dX8_width_26 : decode cX8_width 26 = .ok (.aload_n 0, 1) := fchk_d fw_dX8_width_0_c (26, .aload_n 0, 1) (List.mem_of_getElem? (i := 13) rfl)
theorem dX8_width_27 : decode cX8_width 27 = .ok (.bipush (-6), 2) := fchk_d fw_dX8_width_0_c (27, .bipush (-6), 2) (List.mem_of_getElem? (i := 14) rfl)
theorem dX8_width_29 : decode cX8_width 29 = .ok (.invokevirtual 122, 3) := fchk_d fw_dX8_width_0_c (29, .invokevirtual 122, 3) (List.mem_of_getElem? (i := 15) rfl)
theorem dX8_width_32 : decode cX8_width 32 = .ok (.ireturn, 1) := fchk_d fw_dX8_width_0_c (32, .ireturn, 1) (List.mem_of_getElem? (i := 16) rfl)
theorem dX8_width_33 : decode cX8_width 33 = .ok (.aload_n 0, 1) := fchk_d fw_dX8_width_0_c (33, .aload_n 0, 1) (List.mem_of_getElem? (i := 17) rfl)
theorem dX8_width_34 : decode cX8_width 34 = .ok (.getfield 25, 3) := fchk_d fw_dX8_width_0_c (34, .getfield 25, 3) (List.mem_of_getElem? (i := 18) rfl)
theorem dX8_width_37 : decode cX8_width 37 = .ok (.iload_n 1, 1) := fchk_d fw_dX8_width_0_c (37, .iload_n 1, 1) (List.mem_of_getElem? (i := 19) rfl)
theorem dX8_width_38 : decode cX8_width 38 = .ok (.iaload, 1) := fchk_d fw_dX8_width_0_c (38, .iaload, 1) (List.mem_of_getElem? (i := 20) rfl)
theorem dX8_width_39 : decode cX8_width 39 = .ok (.istore_n 3, 1) := fchk_d fw_dX8_width_0_c (39, .istore_n 3, 1) (List.mem_of_getElem? (i := 21) rfl)
theorem dX8_width_40 : decode cX8_width 40 = .ok (.aload_n 0, 1) := fchk_d fw_dX8_width_0_c (40, .aload_n 0, 1) (List.mem_of_getElem? (i := 22) rfl)
theorem dX8_width_41 : decode cX8_width 41 = .ok (.getfield 25, 3) := fchk_d fw_dX8_width_0_c (41, .getfield 25, 3) (List.mem_of_getElem? (i := 23) rfl)
theorem dX8_width_44 : decode cX8_width 44 = .ok (.iload_n 1, 1) := fchk_d fw_dX8_width_0_c (44, .iload_n 1, 1) (List.mem_of_getElem? (i := 24) rfl)
theorem dX8_width_45 : decode cX8_width 45 = .ok (.iload_n 2, 1) := fchk_d fw_dX8_width_0_c (45, .iload_n 2, 1) (List.mem_of_getElem? (i := 25) rfl)
theorem dX8_width_46 : decode cX8_width 46 = .ok (.iastore, 1) := fchk_d fw_dX8_width_0_c (46, .iastore, 1) (List.mem_of_getElem? (i := 26) rfl)
theorem dX8_width_47 : decode cX8_width 47 = .ok (.aload_n 0, 1) := fchk_d fw_dX8_width_0_c (47, .aload_n 0, 1) (List.mem_of_getElem? (i := 27) rfl)
theorem dX8_width_48 : decode cX8_width 48 = .ok (.getfield 7, 3) := fchk_d fw_dX8_width_0_c (48, .getfield 7, 3) (List.mem_of_getElem? (i := 28) rfl)
theorem dX8_width_51 : decode cX8_width 51 = .ok (.iload_n 1, 1) := fchk_d fw_dX8_width_0_c (51, .iload_n 1, 1) (List.mem_of_getElem? (i := 29) rfl)
theorem dX8_width_52 : decode cX8_width 52 = .ok (.aload_n 0, 1) := fchk_d fw_dX8_width_0_c (52, .aload_n 0, 1) (List.mem_of_getElem? (i := 30) rfl)
theorem dX8_width_53 : decode cX8_width 53 = .ok (.iload_n 1, 1) := fchk_d fw_dX8_width_0_c (53, .iload_n 1, 1) (List.mem_of_getElem? (i := 31) rfl)
theorem dX8_width_54 : decode cX8_width 54 = .ok (.aload_n 0, 1) := fchk_d fw_dX8_width_0_c (54, .aload_n 0, 1) (List.mem_of_getElem? (i := 32) rfl)
theorem dX8_width_55 : decode cX8_width 55 = .ok (.getfield 7, 3) := fchk_d fw_dX8_width_0_c (55, .getfield 7, 3) (List.mem_of_getElem? (i := 33) rfl)
theorem dX8_width_58 : decode cX8_width 58 = .ok (.iload_n 1, 1) := fchk_d fw_dX8_width_0_c (58, .iload_n 1, 1) (List.mem_of_getElem? (i := 34) rfl)
theorem dX8_width_59 : decode cX8_width 59 = .ok (.laload, 1) := fchk_d fw_dX8_width_0_c (59, .laload, 1) (List.mem_of_getElem? (i := 35) rfl)
theorem dX8_width_60 : decode cX8_width 60 = .ok (.invokevirtual 132, 3) := fchk_d fw_dX8_width_0_c (60, .invokevirtual 132, 3) (List.mem_of_getElem? (i := 36) rfl)
theorem dX8_width_63 : decode cX8_width 63 = .ok (.lastore, 1) := fchk_d fw_dX8_width_0_c (63, .lastore, 1) (List.mem_of_getElem? (i := 37) rfl)
theorem dX8_width_64 : decode cX8_width 64 = .ok (.iload_n 3, 1) := fchk_d fw_dX8_width_0_c (64, .iload_n 3, 1) (List.mem_of_getElem? (i := 38) rfl)
theorem dX8_width_65 : decode cX8_width 65 = .ok (.ireturn, 1) := fchk_d fw_dX8_width_0_c (65, .ireturn, 1) (List.mem_of_getElem? (i := 39) rfl)
set_option maxRecDepth 20000 in
theorem ggX8_set_X8_isRegister : GoodIn wsX8_set wsX8_isRegister := goodIn_r _ [5] rfl (by decide +kernel)
set_option maxRecDepth 20000 in
theorem gX8_set_X8_isRegister : GoodIn wsX8_set (va_wsS RX8 118 yX8_isRegister wsX8_isRegister) := goodIn_app (goodIn_of _ (by decide +kernel)) ggX8_set_X8_isRegister
set_option maxRecDepth 20000 in
theorem ggX8_set_X8_no : GoodIn wsX8_set wsX8_no := goodIn_r _ [9, 10, 16, 17, 18, 19, 20, 21, 22, 23, 24, 25, 26, 27, 28, 29, 30, 31, 32, 33, 34, 35, 36, 37, 38, 39, 40, 41, 42, 43, 44, 45, 46, 47, 48, 49, 50, 51, 52, 53, 54, 55, 56, 57, 58, 59] rfl (by decide +kernel)
set_option maxRecDepth 20000 in
theorem gX8_set_X8_no : GoodIn wsX8_set (wsV RX8 122 RX8 yX8_no wsX8_no) := goodIn_app (goodIn_of _ (by decide +kernel)) ggX8_set_X8_no
set_option maxRecDepth 20000 in
theorem ggX8_set_X8_cut : GoodIn wsX8_set wsX8_cut := goodIn_r _ [14, 15, 16, 17, 18, 19, 20, 21, 22, 23, 24, 25, 26, 27, 28, 29, 30, 31, 32, 33, 34, 35, 36, 37, 38, 39, 40, 41, 42, 43, 44, 45, 46, 47, 48, 49, 50, 51, 52, 53, 54, 55, 56, 57, 58, 59] rfl (by decide +kernel)
set_option maxRecDepth 20000 in
theorem gX8_set_X8_cut : GoodIn wsX8_set (wsV RX8 132 RX8 yX8_cut wsX8_cut) := goodIn_app (goodIn_of _ (by decide +kernel)) ggX8_set_X8_cut
def fw_dX8_set_0 : List (Nat × Instr × Nat) := [(0, .iload_n 1, 1), (1, .invokestatic 118, 3), (4, .ifCond .ne 10, 3), (7, .aload_n 0, 1), (8, .bipush (-3), 2), (10, .invokevirtual 122, 3), (13, .ireturn, 1), (14, .aload_n 0, 1), (15, .getfield 7, 3), (18, .iload_n 1, 1), (19, .laload, 1), (20, .lstore 4, 2), (22, .aload_n 0, 1), (23, .getfield 7, 3), (26, .iload_n 1, 1), (27, .aload_n 0, 1), (28, .iload_n 1, 1), (29, .lload_n 2, 1), (30, .invokevirtual 132, 3), (33, .lastore, 1), (34, .lload 4, 2), (36, .aload_n 0, 1), (37, .getfield 7, 3), (40, .iload_n 1, 1), (41, .laload, 1), (42, .lcmp, 1), (43, .ifCond .eq 7, 3), (46, .iconst 1, 1), (47, .goto 4, 3), (50, .iconst 0, 1), (51, .ireturn, 1)]
theorem fw_dX8_set_0_c : fchk 0 (cX8_set.data.toList.drop 0) fw_dX8_set_0 = true := by decide +kernel
theorem dX8_set_0 : decode cX8_set 0 = .ok (.iload_n 1, 1) := fchk_d fw_dX8_set_0_c (0, .iload_n 1, 1) (List.mem_of_getElem? (i := 0) rfl)
theorem dX8_set_1 : decode cX8_set 1 = .ok (.invokestatic 118, 3) := fchk_d fw_dX8_set_0_c (1, .invokestatic 118, 3) (List.mem_of_getElem? (i := 1) rfl)
theorem dX8_set_4 : decode cX8_set 4 = .ok (.ifCond .ne 10, 3) := fchk_d fw_dX8_set_0_c (4, .ifCond .ne 10, 3) (List.mem_of_getElem? (i := 2) rfl)
theorem dX8_set_7 : decode cX8_set 7 = .ok (.aload_n 0, 1) := fchk_d fw_dX8_set_0_c (7, .aload_n 0, 1) (List.mem_of_getElem? (i := 3) rfl)
theorem dX8_set_8 : decode cX8_set 8 = .ok (.bipush (-3), 2) := fchk_d fw_dX8_set_0_c (8, .bipush (-3), 2) (List.mem_of_getElem? (i := 4) rfl)
theorem dX8_set_10 : decode cX8_set 10 = .ok (.invokevirtual 122, 3) := fchk_d fw_dX8_set_0_c (10, .invokevirtual 122, 3) (List.mem_of_getElem? (i := 5) rfl)
theorem dX8_set_13 : decode cX8_set 13 = .ok (.ireturn, 1) := fchk_d fw_dX8_set_0_c (13, .ireturn, 1) (List.mem_of_getElem? (i := 6) rfl)
theorem dX8_set_14 : decode cX8_set 14 = .ok (.aload_n 0, 1) := fchk_d fw_dX8_set_0_c (14, .aload_n 0, 1) (List.mem_of_getElem? (i := 7) rfl)
theorem dX8_set_15 : decode cX8_set 15 = .ok (.getfield 7, 3) := fchk_d fw_dX8_set_0_c (15, .getfield 7, 3) (List.mem_of_getElem? (i := 8) rfl)
theorem dX8_set_18 : decode cX8_set 18 = .ok (.iload_n 1, 1) := fchk_d fw_dX8_set_0_c (18, .iload_n 1, 1) (List.mem_of_getElem? (i := 9) rfl)
theorem dX8_set_19 : decode cX8_set 19 = .ok (.laload, 1) := fchk_d fw_dX8_set_0_c (19, .laload, 1) (List.mem_of_getElem? (i := 10) rfl)
theorem dX8_set_20 : decode cX8_set 20 = .ok (.lstore 4, 2) := fchk_d fw_dX8_set_0_c (20, .lstore 4, 2) (List.mem_of_getElem? (i := 11) rfl)
theorem dX8_set_22 : decode cX8_set 22 = .ok (.aload_n 0, 1) := fchk_d fw_dX8_set_0_c (22, .aload_n 0, 1) (List.mem_of_getElem? (i := 12) rfl)
theorem dX8_set_23 : decode cX8_set 23 = .ok (.getfield 7, 3) := fchk_d fw_dX8_set_0_c (23, .getfield 7, 3) (List.mem_of_getElem? (i := 13) rfl)
theorem dX8_set_26 : decode cX8_set 26 = .ok (.iload_n 1, 1) := fchk_d fw_dX8_set_0_c (26, .iload_n 1, 1) (List.mem_of_getElem? (i := 14) rfl)
theorem dX8_set_27 : decode cX8_set 27 = .ok (.aload_n 0, 1) := fchk_d fw_dX8_set_0_c (27, .aload_n 0, 1) (List.mem_of_getElem? (i := 15) rfl)
theorem dX8_set_28 : decode cX8_set 28 = .ok (.iload_n 1, 1) := fchk_d fw_dX8_set_0_c (28, .iload_n 1, 1) (List.mem_of_getElem? (i := 16) rfl)
theorem dX8_set_29 : decode cX8_set 29 = .ok (.lload_n 2, 1) := fchk_d fw_dX8_set_0_c (29, .lload_n 2, 1) (List.mem_of_getElem? (i := 17) rfl)
theorem dX8_set_30 : decode cX8_set 30 = .ok (.invokevirtual 132, 3) := fchk_d fw_dX8_set_0_c (30, .invokevirtual 132, 3) (List.mem_of_getElem? (i := 18) rfl)
theorem dX8_set_33 : decode cX8_set 33 = .ok (.lastore, 1) := fchk_d fw_dX8_set_0_c (33, .lastore, 1) (List.mem_of_getElem? (i := 19) rfl)
theorem dX8_set_34 : decode cX8_set 34 = .ok (.lload 4, 2) := fchk_d fw_dX8_set_0_c (34, .lload 4, 2) (List.mem_of_getElem? (i := 20) rfl)
theorem dX8_set_36 : decode cX8_set 36 = .ok (.aload_n 0, 1) := fchk_d fw_dX8_set_0_c (36, .aload_n 0, 1) (List.mem_of_getElem? (i := 21) rfl)
theorem dX8_set_37 : decode cX8_set 37 = .ok (.getfield 7, 3) := fchk_d fw_dX8_set_0_c (37, .getfield 7, 3) (List.mem_of_getElem? (i := 22) rfl)
theorem dX8_set_40 : decode cX8_set 40 = .ok (.iload_n 1, 1) := fchk_d fw_dX8_set_0_c (40, .iload_n 1, 1) (List.mem_of_getElem? (i := 23) rfl)
theorem dX8_set_41 : decode cX8_set 41 = .ok (.laload, 1) := fchk_d fw_dX8_set_0_c (41, .laload, 1) (List.mem_of_getElem? (i := 24) rfl)
theorem dX8_set_42 : decode cX8_set 42 = .ok (.lcmp, 1) := fchk_d fw_dX8_set_0_c (42, .lcmp, 1) (List.mem_of_getElem? (i := 25) rfl)
theorem dX8_set_43 : decode cX8_set 43 = .ok (.ifCond .eq 7, 3) := fchk_d fw_dX8_set_0_c (43, .ifCond .eq 7, 3) (List.mem_of_getElem? (i := 26) rfl)
theorem dX8_set_46 : decode cX8_set 46 = .ok (.iconst 1, 1) := fchk_d fw_dX8_set_0_c (46, .iconst 1, 1) (List.mem_of_getElem? (i := 27) rfl)
theorem dX8_set_47 : decode cX8_set 47 = .ok (.goto 4, 3) := fchk_d fw_dX8_set_0_c (47, .goto 4, 3) (List.mem_of_getElem? (i := 28) rfl)
theorem dX8_set_50 : decode cX8_set 50 = .ok (.iconst 0, 1) := fchk_d fw_dX8_set_0_c (50, .iconst 0, 1) (List.mem_of_getElem? (i := 29) rfl)
theorem dX8_set_51 : decode cX8_set 51 = .ok (.ireturn, 1) := fchk_d fw_dX8_set_0_c (51, .ireturn, 1) (List.mem_of_getElem? (i := 30) rfl)
set_option maxRecDepth 20000 in
theorem ggX8_register_X8_isRegister : GoodIn wsX8_register wsX8_isRegister := goodIn_r _ [5] rfl (by decide +kernel)
set_option maxRecDepth 20000 in
theorem gX8_register_X8_isRegister : GoodIn wsX8_register (va_wsS RX8 118 yX8_isRegister wsX8_isRegister) := goodIn_app (goodIn_of _ (by decide +kernel)) ggX8_register_X8_isRegister
set_option maxRecDepth 20000 in
theorem ggX8_register_X8_no : GoodIn wsX8_register wsX8_no := goodIn_r _ [9, 10, 11, 12, 13, 14, 15, 16, 17, 18, 19, 20, 21, 22, 23, 24, 25, 26, 27, 28, 29, 30, 31, 32, 33, 34, 35, 36, 37, 38, 39, 40, 41, 42, 43, 44, 45, 46, 47, 48, 49, 50, 51, 52, 53, 54] rfl (by decide +kernel)
set_option maxRecDepth 20000 in
theorem gX8_register_X8_no : GoodIn wsX8_register (wsV RX8 122 RX8 yX8_no wsX8_no) := goodIn_app (goodIn_of _ (by decide +kernel)) ggX8_register_X8_no
def fw_dX8_register_0 : List (Nat × Instr × Nat) := [(0, .iload_n 1, 1), (1, .invokestatic 118, 3), (4, .ifCond .eq 10, 3), (7, .aload_n 0, 1), (8, .getfield 7, 3), (11, .iload_n 1, 1), (12, .laload, 1), (13, .lreturn, 1), (14, .aload_n 0, 1), (15, .bipush (-3), 2), (17, .invokevirtual 122, 3), (20, .istore_n 2, 1), (21, .lconst 0, 1), (22, .lreturn, 1)]
theorem fw_dX8_register_0_c : fchk 0 (cX8_register.data.toList.drop 0) fw_dX8_register_0 = true := by decide +kernel
theorem dX8_register_0 : decode cX8_register 0 = .ok (.iload_n 1, 1) := fchk_d fw_dX8_register_0_c (0, .iload_n 1, 1) (List.mem_of_getElem? (i := 0) rfl)
theorem dX8_register_1 : decode cX8_register 1 = .ok (.invokestatic 118, 3) := fchk_d fw_dX8_register_0_c (1, .invokestatic 118, 3) (List.mem_of_getElem? (i := 1) rfl)
theorem dX8_register_4 : decode cX8_register 4 = .ok (.ifCond .eq 10, 3) := fchk_d fw_dX8_register_0_c (4, .ifCond .eq 10, 3) (List.mem_of_getElem? (i := 2) rfl)
theorem dX8_register_7 : decode cX8_register 7 = .ok (.aload_n 0, 1) := fchk_d fw_dX8_register_0_c (7, .aload_n 0, 1) (List.mem_of_getElem? (i := 3) rfl)
theorem dX8_register_8 : decode cX8_register 8 = .ok (.getfield 7, 3) := fchk_d fw_dX8_register_0_c (8, .getfield 7, 3) (List.mem_of_getElem? (i := 4) rfl)
theorem dX8_register_11 : decode cX8_register 11 = .ok (.iload_n 1, 1) := fchk_d fw_dX8_register_0_c (11, .iload_n 1, 1) (List.mem_of_getElem? (i := 5) rfl)
theorem dX8_register_12 : decode cX8_register 12 = .ok (.laload, 1) := fchk_d fw_dX8_register_0_c (12, .laload, 1) (List.mem_of_getElem? (i := 6) rfl)
theorem dX8_register_13 : decode cX8_register 13 = .ok (.lreturn, 1) := fchk_d fw_dX8_register_0_c (13, .lreturn, 1) (List.mem_of_getElem? (i := 7) rfl)
theorem dX8_register_14 : decode cX8_register 14 = .ok (.aload_n 0, 1) := fchk_d fw_dX8_register_0_c (14, .aload_n 0, 1) (List.mem_of_getElem? (i := 8) rfl)
theorem dX8_register_15 : decode cX8_register 15 = .ok (.bipush (-3), 2) := fchk_d fw_dX8_register_0_c (15, .bipush (-3), 2) (List.mem_of_getElem? (i := 9) rfl)
theorem dX8_register_17 : decode cX8_register 17 = .ok (.invokevirtual 122, 3) := fchk_d fw_dX8_register_0_c (17, .invokevirtual 122, 3) (List.mem_of_getElem? (i := 10) rfl)
theorem dX8_register_20 : decode cX8_register 20 = .ok (.istore_n 2, 1) := fchk_d fw_dX8_register_0_c (20, .istore_n 2, 1) (List.mem_of_getElem? (i := 11) rfl)
theorem dX8_register_21 : decode cX8_register 21 = .ok (.lconst 0, 1) := fchk_d fw_dX8_register_0_c (21, .lconst 0, 1) (List.mem_of_getElem? (i := 12) rfl)
theorem dX8_register_22 : decode cX8_register 22 = .ok (.lreturn, 1) := fchk_d fw_dX8_register_0_c (22, .lreturn, 1) (List.mem_of_getElem? (i := 13) rfl)
set_option maxRecDepth 20000 in
theorem ggX8_poke_X8_isCell : GoodIn wsX8_poke wsX8_isCell := goodIn_r _ [6] rfl (by decide +kernel)
set_option maxRecDepth 20000 in
theorem gX8_poke_X8_isCell : GoodIn wsX8_poke (va_wsS RX8 136 yX8_isCell wsX8_isCell) := goodIn_app (goodIn_of _ (by decide +kernel)) ggX8_poke_X8_isCell
set_option maxRecDepth 20000 in
theorem ggX8_poke_X8_no : GoodIn wsX8_poke wsX8_no := goodIn_r _ [10, 11, 12, 13, 14, 15, 16, 17, 18, 19, 20, 21, 22, 23, 24, 25, 26, 27, 28, 29, 30, 31, 32, 33, 34, 35, 36, 37, 38, 39, 40, 41, 42, 43, 44, 45, 46, 47, 48, 49, 50, 51, 52, 53, 54, 55] rfl (by decide +kernel)
set_option maxRecDepth 20000 in
theorem gX8_poke_X8_no : GoodIn wsX8_poke (wsV RX8 122 RX8 yX8_no wsX8_no) := goodIn_app (goodIn_of _ (by decide +kernel)) ggX8_poke_X8_no
def fw_dX8_poke_0 : List (Nat × Instr × Nat) := [(0, .iload_n 1, 1), (1, .invokestatic 136, 3), (4, .ifCond .ne 10, 3), (7, .aload_n 0, 1), (8, .bipush (-3), 2), (10, .invokevirtual 122, 3), (13, .ireturn, 1), (14, .aload_n 0, 1), (15, .getfield 7, 3), (18, .bipush 10, 2), (20, .iload_n 1, 1), (21, .iadd, 1), (22, .laload, 1), (23, .lstore 4, 2), (25, .aload_n 0, 1), (26, .getfield 7, 3), (29, .bipush 10, 2), (31, .iload_n 1, 1), (32, .iadd, 1), (33, .lload_n 2, 1), (34, .ldc2_w 139, 3), (37, .land, 1), (38, .lastore, 1), (39, .lload 4, 2), (41, .aload_n 0, 1), (42, .getfield 7, 3), (45, .bipush 10, 2), (47, .iload_n 1, 1), (48, .iadd, 1), (49, .laload, 1), (50, .lcmp, 1), (51, .ifCond .eq 7, 3), (54, .iconst 1, 1), (55, .goto 4, 3), (58, .iconst 0, 1), (59, .ireturn, 1)]
theorem fw_dX8_poke_0_c : fchk 0 (cX8_poke.data.toList.drop 0) fw_dX8_poke_0 = true := by decide +kernel
theorem dX8_poke_0 : decode cX8_poke 0 = .ok (.iload_n 1, 1) := fchk_d fw_dX8_poke_0_c (0, .iload_n 1, 1) (List.mem_of_getElem? (i := 0) rfl)
theorem dX8_poke_1 : decode cX8_poke 1 = .ok (.invokestatic 136, 3) := fchk_d fw_dX8_poke_0_c (1, .invokestatic 136, 3) (List.mem_of_getElem? (i := 1) rfl)
theorem dX8_poke_4 : decode cX8_poke 4 = .ok (.ifCond .ne 10, 3) := fchk_d fw_dX8_poke_0_c (4, .ifCond .ne 10, 3) (List.mem_of_getElem? (i := 2) rfl)
theorem dX8_poke_7 : decode cX8_poke 7 = .ok (.aload_n 0, 1) := fchk_d fw_dX8_poke_0_c (7, .aload_n 0, 1) (List.mem_of_getElem? (i := 3) rfl)
theorem dX8_poke_8 : decode cX8_poke 8 = .ok (.bipush (-3), 2) := fchk_d fw_dX8_poke_0_c (8, .bipush (-3), 2) (List.mem_of_getElem? (i := 4) rfl)
theorem dX8_poke_10 : decode cX8_poke 10 = .ok (.invokevirtual 122, 3) := fchk_d fw_dX8_poke_0_c (10, .invokevirtual 122, 3) (List.mem_of_getElem? (i := 5) rfl)
theorem dX8_poke_13 : decode cX8_poke 13 = .ok (.ireturn, 1) := fchk_d fw_dX8_poke_0_c (13, .ireturn, 1) (List.mem_of_getElem? (i := 6) rfl)
theorem dX8_poke_14 : decode cX8_poke 14 = .ok (.aload_n 0, 1) := fchk_d fw_dX8_poke_0_c (14, .aload_n 0, 1) (List.mem_of_getElem? (i := 7) rfl)
theorem dX8_poke_15 : decode cX8_poke 15 = .ok (.getfield 7, 3) := fchk_d fw_dX8_poke_0_c (15, .getfield 7, 3) (List.mem_of_getElem? (i := 8) rfl)
theorem dX8_poke_18 : decode cX8_poke 18 = .ok (.bipush 10, 2) := fchk_d fw_dX8_poke_0_c (18, .bipush 10, 2) (List.mem_of_getElem? (i := 9) rfl)
theorem dX8_poke_20 : decode cX8_poke 20 = .ok (.iload_n 1, 1) := fchk_d fw_dX8_poke_0_c (20, .iload_n 1, 1) (List.mem_of_getElem? (i := 10) rfl)
theorem dX8_poke_21 : decode cX8_poke 21 = .ok (.iadd, 1) := fchk_d fw_dX8_poke_0_c (21, .iadd, 1) (List.mem_of_getElem? (i := 11) rfl)
theorem dX8_poke_22 : decode cX8_poke 22 = .ok (.laload, 1) := fchk_d fw_dX8_poke_0_c (22, .laload, 1) (List.mem_of_getElem? (i := 12) rfl)
theorem dX8_poke_23 : decode cX8_poke 23 = .ok (.lstore 4, 2) := fchk_d fw_dX8_poke_0_c (23, .lstore 4, 2) (List.mem_of_getElem? (i := 13) rfl)
theorem dX8_poke_25 : decode cX8_poke 25 = .ok (.aload_n 0, 1) := fchk_d fw_dX8_poke_0_c (25, .aload_n 0, 1) (List.mem_of_getElem? (i := 14) rfl)
theorem dX8_poke_26 : decode cX8_poke 26 = .ok (.getfield 7, 3) := fchk_d fw_dX8_poke_0_c (26, .getfield 7, 3) (List.mem_of_getElem? (i := 15) rfl)
theorem dX8_poke_29 : decode cX8_poke 29 = .ok (.bipush 10, 2) := fchk_d fw_dX8_poke_0_c (29, .bipush 10, 2) (List.mem_of_getElem? (i := 16) rfl)
theorem dX8_poke_31 : decode cX8_poke 31 = .ok (.iload_n 1, 1) := fchk_d fw_dX8_poke_0_c (31, .iload_n 1, 1) (List.mem_of_getElem? (i := 17) rfl)
theorem dX8_poke_32 : decode cX8_poke 32 = .ok (.iadd, 1) := fchk_d fw_dX8_poke_0_c (32, .iadd, 1) (List.mem_of_getElem? (i := 18) rfl)
theorem dX8_poke_33 : decode cX8_poke 33 = .ok (.lload_n 2, 1) := fchk_d fw_dX8_poke_0_c (33, .lload_n 2, 1) (List.mem_of_getElem? (i := 19) rfl)
theorem dX8_poke_34 : decode cX8_poke 34 = .ok (.ldc2_w 139, 3) := fchk_d fw_dX8_poke_0_c (34, .ldc2_w 139, 3) (List.mem_of_getElem? (i := 20) rfl)
theorem dX8_poke_37 : decode cX8_poke 37 = .ok (.land, 1) := fchk_d fw_dX8_poke_0_c (37, .land, 1) (List.mem_of_getElem? (i := 21) rfl)
theorem dX8_poke_38 : decode cX8_poke 38 = .ok (.lastore, 1) := fchk_d fw_dX8_poke_0_c (38, .lastore, 1) (List.mem_of_getElem? (i := 22) rfl)
theorem dX8_poke_39 : decode cX8_poke 39 = .ok (.lload 4, 2) := fchk_d fw_dX8_poke_0_c (39, .lload 4, 2) (List.mem_of_getElem? (i := 23) rfl)
theorem dX8_poke_41 : decode cX8_poke 41 = .ok (.aload_n 0, 1) := fchk_d fw_dX8_poke_0_c (41, .aload_n 0, 1) (List.mem_of_getElem? (i := 24) rfl)
theorem dX8_poke_42 : decode cX8_poke 42 = .ok (.getfield 7, 3) := fchk_d fw_dX8_poke_0_c (42, .getfield 7, 3) (List.mem_of_getElem? (i := 25) rfl)
theorem dX8_poke_45 : decode cX8_poke 45 = .ok (.bipush 10, 2) := fchk_d fw_dX8_poke_0_c (45, .bipush 10, 2) (List.mem_of_getElem? (i := 26) rfl)
theorem dX8_poke_47 : decode cX8_poke 47 = .ok (.iload_n 1, 1) := fchk_d fw_dX8_poke_0_c (47, .iload_n 1, 1) (List.mem_of_getElem? (i := 27) rfl)
theorem dX8_poke_48 : decode cX8_poke 48 = .ok (.iadd, 1) := fchk_d fw_dX8_poke_0_c (48, .iadd, 1) (List.mem_of_getElem? (i := 28) rfl)
theorem dX8_poke_49 : decode cX8_poke 49 = .ok (.laload, 1) := fchk_d fw_dX8_poke_0_c (49, .laload, 1) (List.mem_of_getElem? (i := 29) rfl)
theorem dX8_poke_50 : decode cX8_poke 50 = .ok (.lcmp, 1) := fchk_d fw_dX8_poke_0_c (50, .lcmp, 1) (List.mem_of_getElem? (i := 30) rfl)
theorem dX8_poke_51 : decode cX8_poke 51 = .ok (.ifCond .eq 7, 3) := fchk_d fw_dX8_poke_0_c (51, .ifCond .eq 7, 3) (List.mem_of_getElem? (i := 31) rfl)
theorem dX8_poke_54 : decode cX8_poke 54 = .ok (.iconst 1, 1) := fchk_d fw_dX8_poke_0_c (54, .iconst 1, 1) (List.mem_of_getElem? (i := 32) rfl)
theorem dX8_poke_55 : decode cX8_poke 55 = .ok (.goto 4, 3) := fchk_d fw_dX8_poke_0_c (55, .goto 4, 3) (List.mem_of_getElem? (i := 33) rfl)
theorem dX8_poke_58 : decode cX8_poke 58 = .ok (.iconst 0, 1) := fchk_d fw_dX8_poke_0_c (58, .iconst 0, 1) (List.mem_of_getElem? (i := 34) rfl)
theorem dX8_poke_59 : decode cX8_poke 59 = .ok (.ireturn, 1) := fchk_d fw_dX8_poke_0_c (59, .ireturn, 1) (List.mem_of_getElem? (i := 35) rfl)
set_option maxRecDepth 20000 in
theorem ggX8_cell_X8_isCell : GoodIn wsX8_cell wsX8_isCell := goodIn_r _ [5] rfl (by decide +kernel)
set_option maxRecDepth 20000 in
theorem gX8_cell_X8_isCell : GoodIn wsX8_cell (va_wsS RX8 136 yX8_isCell wsX8_isCell) := goodIn_app (goodIn_of _ (by decide +kernel)) ggX8_cell_X8_isCell
set_option maxRecDepth 20000 in
theorem ggX8_cell_X8_no : GoodIn wsX8_cell wsX8_no := goodIn_r _ [9, 10, 11, 12, 13, 14, 15, 16, 17, 18, 19, 20, 21, 22, 23, 24, 25, 26, 27, 28, 29, 30, 31, 32, 33, 34, 35, 36, 37, 38, 39, 40, 41, 42, 43, 44, 45, 46, 47, 48, 49, 50, 51, 52, 53, 54] rfl (by decide +kernel)
set_option maxRecDepth 20000 in
theorem gX8_cell_X8_no : GoodIn wsX8_cell (wsV RX8 122 RX8 yX8_no wsX8_no) := goodIn_app (goodIn_of _ (by decide +kernel)) ggX8_cell_X8_no
def fw_dX8_cell_0 : List (Nat × Instr × Nat) := [(0, .iload_n 1, 1), (1, .invokestatic 136, 3), (4, .ifCond .eq 13, 3), (7, .aload_n 0, 1), (8, .getfield 7, 3), (11, .bipush 10, 2), (13, .iload_n 1, 1), (14, .iadd, 1), (15, .laload, 1), (16, .lreturn, 1), (17, .aload_n 0, 1), (18, .bipush (-3), 2), (20, .invokevirtual 122, 3), (23, .istore_n 2, 1), (24, .lconst 0, 1), (25, .lreturn, 1)]
theorem fw_dX8_cell_0_c : fchk 0 (cX8_cell.data.toList.drop 0) fw_dX8_cell_0 = true := by decide +kernel
theorem dX8_cell_0 : decode cX8_cell 0 = .ok (.iload_n 1, 1) := fchk_d fw_dX8_cell_0_c (0, .iload_n 1, 1) (List.mem_of_getElem? (i := 0) rfl)
theorem dX8_cell_1 : decode cX8_cell 1 = .ok (.invokestatic 136, 3) := fchk_d fw_dX8_cell_0_c (1, .invokestatic 136, 3) (List.mem_of_getElem? (i := 1) rfl)
theorem dX8_cell_4 : decode cX8_cell 4 = .ok (.ifCond .eq 13, 3) := fchk_d fw_dX8_cell_0_c (4, .ifCond .eq 13, 3) (List.mem_of_getElem? (i := 2) rfl)
theorem dX8_cell_7 : decode cX8_cell 7 = .ok (.aload_n 0, 1) := fchk_d fw_dX8_cell_0_c (7, .aload_n 0, 1) (List.mem_of_getElem? (i := 3) rfl)
theorem dX8_cell_8 : decode cX8_cell 8 = .ok (.getfield 7, 3) := fchk_d fw_dX8_cell_0_c (8, .getfield 7, 3) (List.mem_of_getElem? (i := 4) rfl)
theorem dX8_cell_11 : decode cX8_cell 11 = .ok (.bipush 10, 2) := fchk_d fw_dX8_cell_0_c (11, .bipush 10, 2) (List.mem_of_getElem? (i := 5) rfl)
theorem dX8_cell_13 : decode cX8_cell 13 = .ok (.iload_n 1, 1) := fchk_d fw_dX8_cell_0_c (13, .iload_n 1, 1) (List.mem_of_getElem? (i := 6) rfl)
theorem dX8_cell_14 : decode cX8_cell 14 = .ok (.iadd, 1) := fchk_d fw_dX8_cell_0_c (14, .iadd, 1) (List.mem_of_getElem? (i := 7) rfl)
theorem dX8_cell_15 : decode cX8_cell 15 = .ok (.laload, 1) := fchk_d fw_dX8_cell_0_c (15, .laload, 1) (List.mem_of_getElem? (i := 8) rfl)
theorem dX8_cell_16 : decode cX8_cell 16 = .ok (.lreturn, 1) := fchk_d fw_dX8_cell_0_c (16, .lreturn, 1) (List.mem_of_getElem? (i := 9) rfl)
theorem dX8_cell_17 : decode cX8_cell 17 = .ok (.aload_n 0, 1) := fchk_d fw_dX8_cell_0_c (17, .aload_n 0, 1) (List.mem_of_getElem? (i := 10) rfl)
theorem dX8_cell_18 : decode cX8_cell 18 = .ok (.bipush (-3), 2) := fchk_d fw_dX8_cell_0_c (18, .bipush (-3), 2) (List.mem_of_getElem? (i := 11) rfl)
theorem dX8_cell_20 : decode cX8_cell 20 = .ok (.invokevirtual 122, 3) := fchk_d fw_dX8_cell_0_c (20, .invokevirtual 122, 3) (List.mem_of_getElem? (i := 12) rfl)
theorem dX8_cell_23 : decode cX8_cell 23 = .ok (.istore_n 2, 1) := fchk_d fw_dX8_cell_0_c (23, .istore_n 2, 1) (List.mem_of_getElem? (i := 13) rfl)
theorem dX8_cell_24 : decode cX8_cell 24 = .ok (.lconst 0, 1) := fchk_d fw_dX8_cell_0_c (24, .lconst 0, 1) (List.mem_of_getElem? (i := 14) rfl)
theorem dX8_cell_25 : decode cX8_cell 25 = .ok (.lreturn, 1) := fchk_d fw_dX8_cell_0_c (25, .lreturn, 1) (List.mem_of_getElem? (i := 15) rfl)
set_option maxRecDepth 20000 in
theorem ggX8_flag_X8_isIn : GoodIn wsX8_flag wsX8_isIn := goodIn_r _ [5] rfl (by decide +kernel)
set_option maxRecDepth 20000 in
theorem gX8_flag_X8_isIn : GoodIn wsX8_flag (va_wsS RX8 128 yX8_isIn wsX8_isIn) := goodIn_app (goodIn_of _ (by decide +kernel)) ggX8_flag_X8_isIn
set_option maxRecDepth 20000 in
theorem ggX8_flag_X8_no : GoodIn wsX8_flag wsX8_no := goodIn_r _ [9, 10, 11, 12, 13, 14, 15, 16, 17, 18, 19, 20, 21, 22, 23, 24, 25, 26, 27, 28, 29, 30, 31, 32, 33, 34, 35, 36, 37, 38, 39, 40, 41, 42, 43, 44, 45, 46, 47, 48, 49, 50, 51, 52, 53, 54] rfl (by decide +kernel)
set_option maxRecDepth 20000 in
theorem gX8_flag_X8_no : GoodIn wsX8_flag (wsV RX8 122 RX8 yX8_no wsX8_no) := goodIn_app (goodIn_of _ (by decide +kernel)) ggX8_flag_X8_no
def fw_dX8_flag_0 : List (Nat × Instr × Nat) := [(0, .iload_n 1, 1), (1, .i2l, 1), (2, .lconst 0, 1), (3, .lconst 1, 1), (4, .invokestatic 128, 3), (7, .ifCond .ne 10, 3), (10, .aload_n 0, 1), (11, .bipush (-3), 2), (13, .invokevirtual 122, 3), (16, .ireturn, 1), (17, .aload_n 0, 1), (18, .getfield 7, 3), (21, .bipush 8, 2), (23, .iload_n 1, 1), (24, .iadd, 1), (25, .laload, 1), (26, .l2i, 1), (27, .istore_n 3, 1), (28, .aload_n 0, 1), (29, .getfield 7, 3), (32, .bipush 8, 2), (34, .iload_n 1, 1), (35, .iadd, 1), (36, .iload_n 2, 1), (37, .ifCond .eq 7, 3), (40, .lconst 1, 1), (41, .goto 4, 3), (44, .lconst 0, 1), (45, .lastore, 1), (46, .iload_n 3, 1), (47, .ireturn, 1)]
theorem fw_dX8_flag_0_c : fchk 0 (cX8_flag.data.toList.drop 0) fw_dX8_flag_0 = true := by decide +kernel
theorem dX8_flag_0 : decode cX8_flag 0 = .ok (.iload_n 1, 1) := fchk_d fw_dX8_flag_0_c (0, .iload_n 1, 1) (List.mem_of_getElem? (i := 0) rfl)
theorem dX8_flag_1 : decode cX8_flag 1 = .ok (.i2l, 1) := fchk_d fw_dX8_flag_0_c (1, .i2l, 1) (List.mem_of_getElem? (i := 1) rfl)
theorem dX8_flag_2 : decode cX8_flag 2 = .ok (.lconst 0, 1) := fchk_d fw_dX8_flag_0_c (2, .lconst 0, 1) (List.mem_of_getElem? (i := 2) rfl)
theorem dX8_flag_3 : decode cX8_flag 3 = .ok (.lconst 1, 1) := fchk_d fw_dX8_flag_0_c (3, .lconst 1, 1) (List.mem_of_getElem? (i := 3) rfl)
theorem dX8_flag_4 : decode cX8_flag 4 = .ok (.invokestatic 128, 3) := fchk_d fw_dX8_flag_0_c (4, .invokestatic 128, 3) (List.mem_of_getElem? (i := 4) rfl)
theorem dX8_flag_7 : decode cX8_flag 7 = .ok (.ifCond .ne 10, 3) := fchk_d fw_dX8_flag_0_c (7, .ifCond .ne 10, 3) (List.mem_of_getElem? (i := 5) rfl)
theorem dX8_flag_10 : decode cX8_flag 10 = .ok (.aload_n 0, 1) := fchk_d fw_dX8_flag_0_c (10, .aload_n 0, 1) (List.mem_of_getElem? (i := 6) rfl)
theorem dX8_flag_11 : decode cX8_flag 11 = .ok (.bipush (-3), 2) := fchk_d fw_dX8_flag_0_c (11, .bipush (-3), 2) (List.mem_of_getElem? (i := 7) rfl)
theorem dX8_flag_13 : decode cX8_flag 13 = .ok (.invokevirtual 122, 3) := fchk_d fw_dX8_flag_0_c (13, .invokevirtual 122, 3) (List.mem_of_getElem? (i := 8) rfl)
theorem dX8_flag_16 : decode cX8_flag 16 = .ok (.ireturn, 1) := fchk_d fw_dX8_flag_0_c (16, .ireturn, 1) (List.mem_of_getElem? (i := 9) rfl)
theorem dX8_flag_17 : decode cX8_flag 17 = .ok (.aload_n 0, 1) := fchk_d fw_dX8_flag_0_c (17, .aload_n 0, 1) (List.mem_of_getElem? (i := 10) rfl)
theorem dX8_flag_18 : decode cX8_flag 18 = .ok (.getfield 7, 3) := fchk_d fw_dX8_flag_0_c (18, .getfield 7, 3) (List.mem_of_getElem? (i := 11) rfl)
theorem dX8_flag_21 : decode cX8_flag 21 = .ok (.bipush 8, 2) := fchk_d fw_dX8_flag_0_c (21, .bipush 8, 2) (List.mem_of_getElem? (i := 12) rfl)
theorem dX8_flag_23 : decode cX8_flag 23 = .ok (.iload_n 1, 1) := fchk_d fw_dX8_flag_0_c (23, .iload_n 1, 1) (List.mem_of_getElem? (i := 13) rfl)
theorem dX8_flag_24 : decode cX8_flag 24 = .ok (.iadd, 1) := fchk_d fw_dX8_flag_0_c (24, .iadd, 1) (List.mem_of_getElem? (i := 14) rfl)
theorem dX8_flag_25 : decode cX8_flag 25 = .ok (.laload, 1) := fchk_d fw_dX8_flag_0_c (25, .laload, 1) (List.mem_of_getElem? (i := 15) rfl)
theorem dX8_flag_26 : decode cX8_flag 26 = .ok (.l2i, 1) := fchk_d fw_dX8_flag_0_c (26, .l2i, 1) (List.mem_of_getElem? (i := 16) rfl)
theorem dX8_flag_27 : decode cX8_flag 27 = .ok (.istore_n 3, 1) := fchk_d fw_dX8_flag_0_c (27, .istore_n 3, 1) (List.mem_of_getElem? (i := 17) rfl)
theorem dX8_flag_28 : decode cX8_flag 28 = .ok (.aload_n 0, 1) := fchk_d fw_dX8_flag_0_c (28, .aload_n 0, 1) (List.mem_of_getElem? (i := 18) rfl)
theorem dX8_flag_29 : decode cX8_flag 29 = .ok (.getfield 7, 3) := fchk_d fw_dX8_flag_0_c (29, .getfield 7, 3) (List.mem_of_getElem? (i := 19) rfl)
theorem dX8_flag_32 : decode cX8_flag 32 = .ok (.bipush 8, 2) := fchk_d fw_dX8_flag_0_c (32, .bipush 8, 2) (List.mem_of_getElem? (i := 20) rfl)
theorem dX8_flag_34 : decode cX8_flag 34 = .ok (.iload_n 1, 1) := fchk_d fw_dX8_flag_0_c (34, .iload_n 1, 1) (List.mem_of_getElem? (i := 21) rfl)
theorem dX8_flag_35 : decode cX8_flag 35 = .ok (.iadd, 1) := fchk_d fw_dX8_flag_0_c (35, .iadd, 1) (List.mem_of_getElem? (i := 22) rfl)
theorem dX8_flag_36 : decode cX8_flag 36 = .ok (.iload_n 2, 1) := fchk_d fw_dX8_flag_0_c (36, .iload_n 2, 1) (List.mem_of_getElem? (i := 23) rfl)
theorem dX8_flag_37 : decode cX8_flag 37 = .ok (.ifCond .eq 7, 3) := fchk_d fw_dX8_flag_0_c (37, .ifCond .eq 7, 3) (List.mem_of_getElem? (i := 24) rfl)
theorem dX8_flag_40 : decode cX8_flag 40 = .ok (.lconst 1, 1) := fchk_d fw_dX8_flag_0_c (40, .lconst 1, 1) (List.mem_of_getElem? (i := 25) rfl)
theorem dX8_flag_41 : decode cX8_flag 41 = .ok (.goto 4, 3) := fchk_d fw_dX8_flag_0_c (41, .goto 4, 3) (List.mem_of_getElem? (i := 26) rfl)
theorem dX8_flag_44 : decode cX8_flag 44 = .ok (.lconst 0, 1) := fchk_d fw_dX8_flag_0_c (44, .lconst 0, 1) (List.mem_of_getElem? (i := 27) rfl)
theorem dX8_flag_45 : decode cX8_flag 45 = .ok (.lastore, 1) := fchk_d fw_dX8_flag_0_c (45, .lastore, 1) (List.mem_of_getElem? (i := 28) rfl)
theorem dX8_flag_46 : decode cX8_flag 46 = .ok (.iload_n 3, 1) := fchk_d fw_dX8_flag_0_c (46, .iload_n 3, 1) (List.mem_of_getElem? (i := 29) rfl)
theorem dX8_flag_47 : decode cX8_flag 47 = .ok (.ireturn, 1) := fchk_d fw_dX8_flag_0_c (47, .ireturn, 1) (List.mem_of_getElem? (i := 30) rfl)
def fw_dX8_flags_0 : List (Nat × Instr × Nat) := [(0, .aload_n 0, 1), (1, .getfield 7, 3), (4, .bipush 8, 2), (6, .laload, 1), (7, .ldc2_w 141, 3), (10, .aload_n 0, 1), (11, .getfield 7, 3), (14, .bipush 9, 2), (16, .laload, 1), (17, .lmul, 1), (18, .ladd, 1), (19, .l2i, 1), (20, .ireturn, 1)]
theorem fw_dX8_flags_0_c : fchk 0 (cX8_flags.data.toList.drop 0) fw_dX8_flags_0 = true := by decide +kernel
theorem dX8_flags_0 : decode cX8_flags 0 = .ok (.aload_n 0, 1) := fchk_d fw_dX8_flags_0_c (0, .aload_n 0, 1) (List.mem_of_getElem? (i := 0) rfl)
theorem dX8_flags_1 : decode cX8_flags 1 = .ok (.getfield 7, 3) := fchk_d fw_dX8_flags_0_c (1, .getfield 7, 3) (List.mem_of_getElem? (i := 1) rfl)
theorem dX8_flags_4 : decode cX8_flags 4 = .ok (.bipush 8, 2) := fchk_d fw_dX8_flags_0_c (4, .bipush 8, 2) (List.mem_of_getElem? (i := 2) rfl)
theorem dX8_flags_6 : decode cX8_flags 6 = .ok (.laload, 1) := fchk_d fw_dX8_flags_0_c (6, .laload, 1) (List.mem_of_getElem? (i := 3) rfl)
theorem dX8_flags_7 : decode cX8_flags 7 = .ok (.ldc2_w 141, 3) := fchk_d fw_dX8_flags_0_c (7, .ldc2_w 141, 3) (List.mem_of_getElem? (i := 4) rfl)
theorem dX8_flags_10 : decode cX8_flags 10 = .ok (.aload_n 0, 1) := fchk_d fw_dX8_flags_0_c (10, .aload_n 0, 1) (List.mem_of_getElem? (i := 5) rfl)
theorem dX8_flags_11 : decode cX8_flags 11 = .ok (.getfield 7, 3) := fchk_d fw_dX8_flags_0_c (11, .getfield 7, 3) (List.mem_of_getElem? (i := 6) rfl)
theorem dX8_flags_14 : decode cX8_flags 14 = .ok (.bipush 9, 2) := fchk_d fw_dX8_flags_0_c (14, .bipush 9, 2) (List.mem_of_getElem? (i := 7) rfl)
theorem dX8_flags_16 : decode cX8_flags 16 = .ok (.laload, 1) := fchk_d fw_dX8_flags_0_c (16, .laload, 1) (List.mem_of_getElem? (i := 8) rfl)
theorem dX8_flags_17 : decode cX8_flags 17 = .ok (.lmul, 1) := fchk_d fw_dX8_flags_0_c (17, .lmul, 1) (List.mem_of_getElem? (i := 9) rfl)
theorem dX8_flags_18 : decode cX8_flags 18 = .ok (.ladd, 1) := fchk_d fw_dX8_flags_0_c (18, .ladd, 1) (List.mem_of_getElem? (i := 10) rfl)
theorem dX8_flags_19 : decode cX8_flags 19 = .ok (.l2i, 1) := fchk_d fw_dX8_flags_0_c (19, .l2i, 1) (List.mem_of_getElem? (i := 11) rfl)
theorem dX8_flags_20 : decode cX8_flags 20 = .ok (.ireturn, 1) := fchk_d fw_dX8_flags_0_c (20, .ireturn, 1) (List.mem_of_getElem? (i := 12) rfl)
def fw_dX8_hasD_0 : List (Nat × Instr × Nat) := [(0, .iload_n 0, 1), (1, .bipush 7, 2), (3, .if_icmp .gt 7, 3), (6, .iconst 1, 1), (7, .goto 4, 3), (10, .iconst 0, 1), (11, .ireturn, 1)]
theorem fw_dX8_hasD_0_c : fchk 0 (cX8_hasD.data.toList.drop 0) fw_dX8_hasD_0 = true := by decide +kernel
theorem dX8_hasD_0 : decode cX8_hasD 0 = .ok (.iload_n 0, 1) := fchk_d fw_dX8_hasD_0_c (0, .iload_n 0, 1) (List.mem_of_getElem? (i := 0) rfl)
theorem dX8_hasD_1 : decode cX8_hasD 1 = .ok (.bipush 7, 2) := fchk_d fw_dX8_hasD_0_c (1, .bipush 7, 2) (List.mem_of_getElem? (i := 1) rfl)
theorem dX8_hasD_3 : decode cX8_hasD 3 = .ok (.if_icmp .gt 7, 3) := fchk_d fw_dX8_hasD_0_c (3, .if_icmp .gt 7, 3) (List.mem_of_getElem? (i := 2) rfl)
theorem dX8_hasD_6 : decode cX8_hasD 6 = .ok (.iconst 1, 1) := fchk_d fw_dX8_hasD_0_c (6, .iconst 1, 1) (List.mem_of_getElem? (i := 3) rfl)
theorem dX8_hasD_7 : decode cX8_hasD 7 = .ok (.goto 4, 3) := fchk_d fw_dX8_hasD_0_c (7, .goto 4, 3) (List.mem_of_getElem? (i := 4) rfl)
theorem dX8_hasD_10 : decode cX8_hasD 10 = .ok (.iconst 0, 1) := fchk_d fw_dX8_hasD_0_c (10, .iconst 0, 1) (List.mem_of_getElem? (i := 5) rfl)
theorem dX8_hasD_11 : decode cX8_hasD 11 = .ok (.ireturn, 1) := fchk_d fw_dX8_hasD_0_c (11, .ireturn, 1) (List.mem_of_getElem? (i := 6) rfl)
def fw_dX8_hasY_0 : List (Nat × Instr × Nat) := [(0, .iload_n 0, 1), (1, .iconst 2, 1), (2, .if_icmp .lt 13, 3), (5, .iload_n 0, 1), (6, .bipush 7, 2), (8, .if_icmp .eq 7, 3), (11, .iconst 1, 1), (12, .goto 4, 3), (15, .iconst 0, 1), (16, .ireturn, 1)]
theorem fw_dX8_hasY_0_c : fchk 0 (cX8_hasY.data.toList.drop 0) fw_dX8_hasY_0 = true := by decide +kernel
theorem dX8_hasY_0 : decode cX8_hasY 0 = .ok (.iload_n 0, 1) := fchk_d fw_dX8_hasY_0_c (0, .iload_n 0, 1) (List.mem_of_getElem? (i := 0) rfl)
theorem dX8_hasY_1 : decode cX8_hasY 1 = .ok (.iconst 2, 1) := fchk_d fw_dX8_hasY_0_c (1, .iconst 2, 1) (List.mem_of_getElem? (i := 1) rfl)
theorem dX8_hasY_2 : decode cX8_hasY 2 = .ok (.if_icmp .lt 13, 3) := fchk_d fw_dX8_hasY_0_c (2, .if_icmp .lt 13, 3) (List.mem_of_getElem? (i := 2) rfl)
theorem dX8_hasY_5 : decode cX8_hasY 5 = .ok (.iload_n 0, 1) := fchk_d fw_dX8_hasY_0_c (5, .iload_n 0, 1) (List.mem_of_getElem? (i := 3) rfl)
theorem dX8_hasY_6 : decode cX8_hasY 6 = .ok (.bipush 7, 2) := fchk_d fw_dX8_hasY_0_c (6, .bipush 7, 2) (List.mem_of_getElem? (i := 4) rfl)
theorem dX8_hasY_8 : decode cX8_hasY 8 = .ok (.if_icmp .eq 7, 3) := fchk_d fw_dX8_hasY_0_c (8, .if_icmp .eq 7, 3) (List.mem_of_getElem? (i := 5) rfl)
theorem dX8_hasY_11 : decode cX8_hasY 11 = .ok (.iconst 1, 1) := fchk_d fw_dX8_hasY_0_c (11, .iconst 1, 1) (List.mem_of_getElem? (i := 6) rfl)
theorem dX8_hasY_12 : decode cX8_hasY 12 = .ok (.goto 4, 3) := fchk_d fw_dX8_hasY_0_c (12, .goto 4, 3) (List.mem_of_getElem? (i := 7) rfl)
theorem dX8_hasY_15 : decode cX8_hasY 15 = .ok (.iconst 0, 1) := fchk_d fw_dX8_hasY_0_c (15, .iconst 0, 1) (List.mem_of_getElem? (i := 8) rfl)
theorem dX8_hasY_16 : decode cX8_hasY 16 = .ok (.ireturn, 1) := fchk_d fw_dX8_hasY_0_c (16, .ireturn, 1) (List.mem_of_getElem? (i := 9) rfl)
set_option maxRecDepth 20000 in
theorem ggX8_isActs_X8_isIn : GoodIn wsX8_isActs wsX8_isIn := goodIn_r _ [8] rfl (by decide +kernel)
set_option maxRecDepth 20000 in
theorem gX8_isActs_X8_isIn : GoodIn wsX8_isActs (va_wsS RX8 128 yX8_isIn wsX8_isIn) := goodIn_app (goodIn_of _ (by decide +kernel)) ggX8_isActs_X8_isIn
set_option maxRecDepth 20000 in
theorem ggX8_isActs_X8_hasD : GoodIn wsX8_isActs wsX8_hasD := goodIn_r _ [11] rfl (by decide +kernel)
set_option maxRecDepth 20000 in
theorem gX8_isActs_X8_hasD : GoodIn wsX8_isActs (va_wsS RX8 145 yX8_hasD wsX8_hasD) := goodIn_app (goodIn_of _ (by decide +kernel)) ggX8_isActs_X8_hasD
set_option maxRecDepth 20000 in
theorem ggX8_isActs_X8_isRegister : GoodIn wsX8_isActs wsX8_isRegister := goodIn_r _ [14] rfl (by decide +kernel)
set_option maxRecDepth 20000 in
theorem gX8_isActs_X8_isRegister : GoodIn wsX8_isActs (va_wsS RX8 118 yX8_isRegister wsX8_isRegister) := goodIn_app (goodIn_of _ (by decide +kernel)) ggX8_isActs_X8_isRegister
set_option maxRecDepth 20000 in
theorem ggX8_isActs_X8_hasY : GoodIn wsX8_isActs wsX8_hasY := goodIn_r _ [17] rfl (by decide +kernel)
set_option maxRecDepth 20000 in
theorem gX8_isActs_X8_hasY : GoodIn wsX8_isActs (va_wsS RX8 150 yX8_hasY wsX8_hasY) := goodIn_app (goodIn_of _ (by decide +kernel)) ggX8_isActs_X8_hasY
def fw_dX8_isActs_0 : List (Nat × Instr × Nat) := [(0, .iload_n 0, 1), (1, .i2l, 1), (2, .lconst 0, 1), (3, .ldc2_w 143, 3), (6, .invokestatic 128, 3), (9, .ifCond .eq 17, 3), (12, .iload_n 0, 1), (13, .invokestatic 145, 3), (16, .ifCond .eq 12, 3), (19, .iload_n 1, 1), (20, .invokestatic 118, 3), (23, .ifCond .ne 5, 3), (26, .iconst 0, 1), (27, .ireturn, 1), (28, .iload_n 0, 1), (29, .bipush 9, 2), (31, .if_icmp .lt 7, 3), (34, .iconst 1, 1), (35, .goto 4, 3), (38, .iconst 0, 1), (39, .istore 4, 2), (41, .iload_n 0, 1), (42, .ifCond .ne 18, 3), (45, .iload_n 2, 1), (46, .i2l, 1), (47, .lconst 0, 1), (48, .ldc2_w 148, 3), (51, .invokestatic 128, 3), (54, .ifCond .ne 33, 3), (57, .goto 28, 3), (60, .iload 4, 2), (62, .ifCond .eq 16, 3), (65, .iload_n 2, 1), (66, .i2l, 1), (67, .lconst 0, 1), (68, .lconst 1, 1), (69, .invokestatic 128, 3), (72, .ifCond .ne 15, 3), (75, .goto 10, 3), (78, .iload_n 2, 1)]
theorem fw_dX8_isActs_0_c : fchk 0 (cX8_isActs.data.toList.drop 0) fw_dX8_isActs_0 = true := by decide +kernel
theorem dX8_isActs_0 : decode cX8_isActs 0 = .ok (.iload_n 0, 1) := fchk_d fw_dX8_isActs_0_c (0, .iload_n 0, 1) (List.mem_of_getElem? (i := 0) rfl)
theorem dX8_isActs_1 : decode cX8_isActs 1 = .ok (.i2l, 1) := fchk_d fw_dX8_isActs_0_c (1, .i2l, 1) (List.mem_of_getElem? (i := 1) rfl)
theorem dX8_isActs_2 : decode cX8_isActs 2 = .ok (.lconst 0, 1) := fchk_d fw_dX8_isActs_0_c (2, .lconst 0, 1) (List.mem_of_getElem? (i := 2) rfl)
theorem dX8_isActs_3 : decode cX8_isActs 3 = .ok (.ldc2_w 143, 3) := fchk_d fw_dX8_isActs_0_c (3, .ldc2_w 143, 3) (List.mem_of_getElem? (i := 3) rfl)
theorem dX8_isActs_6 : decode cX8_isActs 6 = .ok (.invokestatic 128, 3) := fchk_d fw_dX8_isActs_0_c (6, .invokestatic 128, 3) (List.mem_of_getElem? (i := 4) rfl)
theorem dX8_isActs_9 : decode cX8_isActs 9 = .ok (.ifCond .eq 17, 3) := fchk_d fw_dX8_isActs_0_c (9, .ifCond .eq 17, 3) (List.mem_of_getElem? (i := 5) rfl)
theorem dX8_isActs_12 : decode cX8_isActs 12 = .ok (.iload_n 0, 1) := fchk_d fw_dX8_isActs_0_c (12, .iload_n 0, 1) (List.mem_of_getElem? (i := 6) rfl)
theorem dX8_isActs_13 : decode cX8_isActs 13 = .ok (.invokestatic 145, 3) := fchk_d fw_dX8_isActs_0_c (13, .invokestatic 145, 3) (List.mem_of_getElem? (i := 7) rfl)
theorem dX8_isActs_16 : decode cX8_isActs 16 = .ok (.ifCond .eq 12, 3) := fchk_d fw_dX8_isActs_0_c (16, .ifCond .eq 12, 3) (List.mem_of_getElem? (i := 8) rfl)
theorem dX8_isActs_19 : decode cX8_isActs 19 = .ok (.iload_n 1, 1) := fchk_d fw_dX8_isActs_0_c (19, .iload_n 1, 1) (List.mem_of_getElem? (i := 9) rfl)
theorem dX8_isActs_20 : decode cX8_isActs 20 = .ok (.invokestatic 118, 3) := fchk_d fw_dX8_isActs_0_c (20, .invokestatic 118, 3) (List.mem_of_getElem? (i := 10) rfl)
theorem dX8_isActs_23 : decode cX8_isActs 23 = .ok (.ifCond .ne 5, 3) := fchk_d fw_dX8_isActs_0_c (23, .ifCond .ne 5, 3) (List.mem_of_getElem? (i := 11) rfl)
theorem dX8_isActs_26 : decode cX8_isActs 26 = .ok (.iconst 0, 1) := fchk_d fw_dX8_isActs_0_c (26, .iconst 0, 1) (List.mem_of_getElem? (i := 12) rfl)
theorem dX8_isActs_27 : decode cX8_isActs 27 = .ok (.ireturn, 1) := fchk_d fw_dX8_isActs_0_c (27, .ireturn, 1) (List.mem_of_getElem? (i := 13) rfl)
theorem dX8_isActs_28 : decode cX8_isActs 28 = .ok (.iload_n 0, 1) := fchk_d fw_dX8_isActs_0_c (28, .iload_n 0, 1) (List.mem_of_getElem? (i := 14) rfl)
theorem dX8_isActs_29 : decode cX8_isActs 29 = .ok (.bipush 9, 2) := fchk_d fw_dX8_isActs_0_c (29, .bipush 9, 2) (List.mem_of_getElem? (i := 15) rfl)
theorem dX8_isActs_31 : decode cX8_isActs 31 = .ok (.if_icmp .lt 7, 3) := fchk_d fw_dX8_isActs_0_c (31, .if_icmp .lt 7, 3) (List.mem_of_getElem? (i := 16) rfl)
theorem dX8_isActs_34 : decode cX8_isActs 34 = .ok (.iconst 1, 1) := fchk_d fw_dX8_isActs_0_c (34, .iconst 1, 1) (List.mem_of_getElem? (i := 17) rfl)
theorem dX8_isActs_35 : decode cX8_isActs 35 = .ok (.goto 4, 3) := fchk_d fw_dX8_isActs_0_c (35, .goto 4, 3) (List.mem_of_getElem? (i := 18) rfl)
theorem dX8_isActs_38 : decode cX8_isActs 38 = .ok (.iconst 0, 1) := fchk_d fw_dX8_isActs_0_c (38, .iconst 0, 1) (List.mem_of_getElem? (i := 19) rfl)
theorem dX8_isActs_39 : decode cX8_isActs 39 = .ok (.istore 4, 2) := fchk_d fw_dX8_isActs_0_c (39, .istore 4, 2) (List.mem_of_getElem? (i := 20) rfl)
theorem dX8_isActs_41 : decode cX8_isActs 41 = .ok (.iload_n 0, 1) := fchk_d fw_dX8_isActs_0_c (41, .iload_n 0, 1) (List.mem_of_getElem? (i := 21) rfl)
theorem dX8_isActs_42 : decode cX8_isActs 42 = .ok (.ifCond .ne 18, 3) := fchk_d fw_dX8_isActs_0_c (42, .ifCond .ne 18, 3) (List.mem_of_getElem? (i := 22) rfl)
theorem dX8_isActs_45 : decode cX8_isActs 45 = .ok (.iload_n 2, 1) := fchk_d fw_dX8_isActs_0_c (45, .iload_n 2, 1) (List.mem_of_getElem? (i := 23) rfl)
theorem dX8_isActs_46 : decode cX8_isActs 46 = .ok (.i2l, 1) := fchk_d fw_dX8_isActs_0_c (46, .i2l, 1) (List.mem_of_getElem? (i := 24) rfl)
theorem dX8_isActs_47 : decode cX8_isActs 47 = .ok (.lconst 0, 1) := fchk_d fw_dX8_isActs_0_c (47, .lconst 0, 1) (List.mem_of_getElem? (i := 25) rfl)
theorem dX8_isActs_48 : decode cX8_isActs 48 = .ok (.ldc2_w 148, 3) := fchk_d fw_dX8_isActs_0_c (48, .ldc2_w 148, 3) (List.mem_of_getElem? (i := 26) rfl)
theorem dX8_isActs_51 : decode cX8_isActs 51 = .ok (.invokestatic 128, 3) := fchk_d fw_dX8_isActs_0_c (51, .invokestatic 128, 3) (List.mem_of_getElem? (i := 27) rfl)
theorem dX8_isActs_54 : decode cX8_isActs 54 = .ok (.ifCond .ne 33, 3) := fchk_d fw_dX8_isActs_0_c (54, .ifCond .ne 33, 3) (List.mem_of_getElem? (i := 28) rfl)
theorem dX8_isActs_57 : decode cX8_isActs 57 = .ok (.goto 28, 3) := fchk_d fw_dX8_isActs_0_c (57, .goto 28, 3) (List.mem_of_getElem? (i := 29) rfl)
theorem dX8_isActs_60 : decode cX8_isActs 60 = .ok (.iload 4, 2) := fchk_d fw_dX8_isActs_0_c (60, .iload 4, 2) (List.mem_of_getElem? (i := 30) rfl)
theorem dX8_isActs_62 : decode cX8_isActs 62 = .ok (.ifCond .eq 16, 3) := fchk_d fw_dX8_isActs_0_c (62, .ifCond .eq 16, 3) (List.mem_of_getElem? (i := 31) rfl)
theorem dX8_isActs_65 : decode cX8_isActs 65 = .ok (.iload_n 2, 1) := fchk_d fw_dX8_isActs_0_c (65, .iload_n 2, 1) (List.mem_of_getElem? (i := 32) rfl)
theorem dX8_isActs_66 : decode cX8_isActs 66 = .ok (.i2l, 1) := fchk_d fw_dX8_isActs_0_c (66, .i2l, 1) (List.mem_of_getElem? (i := 33) rfl)
theorem dX8_isActs_67 : decode cX8_isActs 67 = .ok (.lconst 0, 1) := fchk_d fw_dX8_isActs_0_c (67, .lconst 0, 1) (List.mem_of_getElem? (i := 34) rfl)
theorem dX8_isActs_68 : decode cX8_isActs 68 = .ok (.lconst 1, 1) := fchk_d fw_dX8_isActs_0_c (68, .lconst 1, 1) (List.mem_of_getElem? (i := 35) rfl)
theorem dX8_isActs_69 : decode cX8_isActs 69 = .ok (.invokestatic 128, 3) := fchk_d fw_dX8_isActs_0_c (69, .invokestatic 128, 3) (List.mem_of_getElem? (i := 36) rfl)
theorem dX8_isActs_72 : decode cX8_isActs 72 = .ok (.ifCond .ne 15, 3) := fchk_d fw_dX8_isActs_0_c (72, .ifCond .ne 15, 3) (List.mem_of_getElem? (i := 37) rfl)
theorem dX8_isActs_75 : decode cX8_isActs 75 = .ok (.goto 10, 3) := fchk_d fw_dX8_isActs_0_c (75, .goto 10, 3) (List.mem_of_getElem? (i := 38) rfl)
theorem dX8_isActs_78 : decode cX8_isActs 78 = .ok (.iload_n 2, 1) := fchk_d fw_dX8_isActs_0_c (78, .iload_n 2, 1) (List.mem_of_getElem? (i := 39) rfl)
def fw_dX8_isActs_79 : List (Nat × Instr × Nat) := [(79, .invokestatic 118, 3), (82, .ifCond .ne 5, 3), (85, .iconst 0, 1), (86, .ireturn, 1), (87, .iload_n 0, 1), (88, .invokestatic 150, 3), (91, .ifCond .ne 5, 3), (94, .iconst 1, 1), (95, .ireturn, 1), (96, .iload_n 0, 1), (97, .bipush 6, 2), (99, .if_icmp .ne 17, 3), (102, .iload_n 3, 1), (103, .i2l, 1), (104, .ldc2_w 153, 3), (107, .ldc2_w 155, 3), (110, .invokestatic 128, 3), (113, .goto 22, 3), (116, .iload 4, 2), (118, .ifCond .eq 13, 3), (121, .iload_n 3, 1), (122, .i2l, 1), (123, .lconst 0, 1), (124, .lconst 1, 1), (125, .invokestatic 128, 3), (128, .goto 7, 3), (131, .iload_n 3, 1), (132, .invokestatic 118, 3), (135, .ireturn, 1)]
theorem fw_dX8_isActs_79_c : fchk 79 (cX8_isActs.data.toList.drop 79) fw_dX8_isActs_79 = true := by decide +kernel
theorem dX8_isActs_79 : decode cX8_isActs 79 = .ok (.invokestatic 118, 3) := fchk_d fw_dX8_isActs_79_c (79, .invokestatic 118, 3) (List.mem_of_getElem? (i := 0) rfl)
theorem dX8_isActs_82 : decode cX8_isActs 82 = .ok (.ifCond .ne 5, 3) := fchk_d fw_dX8_isActs_79_c (82, .ifCond .ne 5, 3) (List.mem_of_getElem? (i := 1) rfl)
theorem dX8_isActs_85 : decode cX8_isActs 85 = .ok (.iconst 0, 1) := fchk_d fw_dX8_isActs_79_c (85, .iconst 0, 1) (List.mem_of_getElem? (i := 2) rfl)
theorem dX8_isActs_86 : decode cX8_isActs 86 = .ok (.ireturn, 1) := fchk_d fw_dX8_isActs_79_c (86, .ireturn, 1) (List.mem_of_getElem? (i := 3) rfl)
theorem dX8_isActs_87 : decode cX8_isActs 87 = .ok (.iload_n 0, 1) := fchk_d fw_dX8_isActs_79_c (87, .iload_n 0, 1) (List.mem_of_getElem? (i := 4) rfl)
theorem dX8_isActs_88 : decode cX8_isActs 88 = .ok (.invokestatic 150, 3) := fchk_d fw_dX8_isActs_79_c (88, .invokestatic 150, 3) (List.mem_of_getElem? (i := 5) rfl)
theorem dX8_isActs_91 : decode cX8_isActs 91 = .ok (.ifCond .ne 5, 3) := fchk_d fw_dX8_isActs_79_c (91, .ifCond .ne 5, 3) (List.mem_of_getElem? (i := 6) rfl)
theorem dX8_isActs_94 : decode cX8_isActs 94 = .ok (.iconst 1, 1) := fchk_d fw_dX8_isActs_79_c (94, .iconst 1, 1) (List.mem_of_getElem? (i := 7) rfl)
theorem dX8_isActs_95 : decode cX8_isActs 95 = .ok (.ireturn, 1) := fchk_d fw_dX8_isActs_79_c (95, .ireturn, 1) (List.mem_of_getElem? (i := 8) rfl)
theorem dX8_isActs_96 : decode cX8_isActs 96 = .ok (.iload_n 0, 1) := fchk_d fw_dX8_isActs_79_c (96, .iload_n 0, 1) (List.mem_of_getElem? (i := 9) rfl)
theorem dX8_isActs_97 : decode cX8_isActs 97 = .ok (.bipush 6, 2) := fchk_d fw_dX8_isActs_79_c (97, .bipush 6, 2) (List.mem_of_getElem? (i := 10) rfl)
theorem dX8_isActs_99 : decode cX8_isActs 99 = .ok (.if_icmp .ne 17, 3) := fchk_d fw_dX8_isActs_79_c (99, .if_icmp .ne 17, 3) (List.mem_of_getElem? (i := 11) rfl)
theorem dX8_isActs_102 : decode cX8_isActs 102 = .ok (.iload_n 3, 1) := fchk_d fw_dX8_isActs_79_c (102, .iload_n 3, 1) (List.mem_of_getElem? (i := 12) rfl)
theorem dX8_isActs_103 : decode cX8_isActs 103 = .ok (.i2l, 1) := fchk_d fw_dX8_isActs_79_c (103, .i2l, 1) (List.mem_of_getElem? (i := 13) rfl)
theorem dX8_isActs_104 : decode cX8_isActs 104 = .ok (.ldc2_w 153, 3) := fchk_d fw_dX8_isActs_79_c (104, .ldc2_w 153, 3) (List.mem_of_getElem? (i := 14) rfl)
theorem dX8_isActs_107 : decode cX8_isActs 107 = .ok (.ldc2_w 155, 3) := fchk_d fw_dX8_isActs_79_c (107, .ldc2_w 155, 3) (List.mem_of_getElem? (i := 15) rfl)
theorem dX8_isActs_110 : decode cX8_isActs 110 = .ok (.invokestatic 128, 3) := fchk_d fw_dX8_isActs_79_c (110, .invokestatic 128, 3) (List.mem_of_getElem? (i := 16) rfl)
theorem dX8_isActs_113 : decode cX8_isActs 113 = .ok (.goto 22, 3) := fchk_d fw_dX8_isActs_79_c (113, .goto 22, 3) (List.mem_of_getElem? (i := 17) rfl)
theorem dX8_isActs_116 : decode cX8_isActs 116 = .ok (.iload 4, 2) := fchk_d fw_dX8_isActs_79_c (116, .iload 4, 2) (List.mem_of_getElem? (i := 18) rfl)
theorem dX8_isActs_118 : decode cX8_isActs 118 = .ok (.ifCond .eq 13, 3) := fchk_d fw_dX8_isActs_79_c (118, .ifCond .eq 13, 3) (List.mem_of_getElem? (i := 19) rfl)
theorem dX8_isActs_121 : decode cX8_isActs 121 = .ok (.iload_n 3, 1) := fchk_d fw_dX8_isActs_79_c (121, .iload_n 3, 1) (List.mem_of_getElem? (i := 20) rfl)
theorem dX8_isActs_122 : decode cX8_isActs 122 = .ok (.i2l, 1) := fchk_d fw_dX8_isActs_79_c (122, .i2l, 1) (List.mem_of_getElem? (i := 21) rfl)
theorem dX8_isActs_123 : decode cX8_isActs 123 = .ok (.lconst 0, 1) := fchk_d fw_dX8_isActs_79_c (123, .lconst 0, 1) (List.mem_of_getElem? (i := 22) rfl)
theorem dX8_isActs_124 : decode cX8_isActs 124 = .ok (.lconst 1, 1) := fchk_d fw_dX8_isActs_79_c (124, .lconst 1, 1) (List.mem_of_getElem? (i := 23) rfl)
theorem dX8_isActs_125 : decode cX8_isActs 125 = .ok (.invokestatic 128, 3) := fchk_d fw_dX8_isActs_79_c (125, .invokestatic 128, 3) (List.mem_of_getElem? (i := 24) rfl)
theorem dX8_isActs_128 : decode cX8_isActs 128 = .ok (.goto 7, 3) := fchk_d fw_dX8_isActs_79_c (128, .goto 7, 3) (List.mem_of_getElem? (i := 25) rfl)
theorem dX8_isActs_131 : decode cX8_isActs 131 = .ok (.iload_n 3, 1) := fchk_d fw_dX8_isActs_79_c (131, .iload_n 3, 1) (List.mem_of_getElem? (i := 26) rfl)
theorem dX8_isActs_132 : decode cX8_isActs 132 = .ok (.invokestatic 118, 3) := fchk_d fw_dX8_isActs_79_c (132, .invokestatic 118, 3) (List.mem_of_getElem? (i := 27) rfl)
theorem dX8_isActs_135 : decode cX8_isActs 135 = .ok (.ireturn, 1) := fchk_d fw_dX8_isActs_79_c (135, .ireturn, 1) (List.mem_of_getElem? (i := 28) rfl)
set_option maxRecDepth 20000 in
theorem ggX8_act_X8_isInstruction : GoodIn wsX8_act wsX8_isInstruction := goodIn_r _ [11] rfl (by decide +kernel)
set_option maxRecDepth 20000 in
theorem gX8_act_X8_isInstruction : GoodIn wsX8_act (va_wsS RX8 157 yX8_isInstruction wsX8_isInstruction) := goodIn_app (goodIn_of _ (by decide +kernel)) ggX8_act_X8_isInstruction
set_option maxRecDepth 20000 in
theorem ggX8_act_X8_no : GoodIn wsX8_act wsX8_no := goodIn_r _ [15, 16, 36, 37, 38, 39, 40, 41, 42, 43, 44, 45, 46, 47, 48, 49, 50, 51, 52, 53, 54, 55, 56, 57, 58, 59, 60, 61, 62, 63, 64, 65, 66, 67, 68, 69, 70, 71, 72, 73, 74, 75, 76, 77, 78, 79] rfl (by decide +kernel)
set_option maxRecDepth 20000 in
theorem gX8_act_X8_no : GoodIn wsX8_act (wsV RX8 122 RX8 yX8_no wsX8_no) := goodIn_app (goodIn_of _ (by decide +kernel)) ggX8_act_X8_no
set_option maxRecDepth 20000 in
theorem ggX8_act_X8_isActs : GoodIn wsX8_act wsX8_isActs := goodIn_r _ [19, 20, 21, 22, 23, 24, 25, 10, 26, 27, 28, 29, 30, 31, 32, 33, 34, 35] rfl (by decide +kernel)
set_option maxRecDepth 20000 in
theorem gX8_act_X8_isActs : GoodIn wsX8_act (va_wsS RX8 160 yX8_isActs wsX8_isActs) := goodIn_app (goodIn_of _ (by decide +kernel)) ggX8_act_X8_isActs
set_option maxRecDepth 20000 in
theorem ggX8_act_X8_hasD : GoodIn wsX8_act wsX8_hasD := goodIn_r _ [29] rfl (by decide +kernel)
set_option maxRecDepth 20000 in
theorem gX8_act_X8_hasD : GoodIn wsX8_act (va_wsS RX8 145 yX8_hasD wsX8_hasD) := goodIn_app (goodIn_of _ (by decide +kernel)) ggX8_act_X8_hasD
set_option maxRecDepth 20000 in
theorem ggX8_act_X8_hasY : GoodIn wsX8_act wsX8_hasY := goodIn_r _ [35] rfl (by decide +kernel)
set_option maxRecDepth 20000 in
theorem gX8_act_X8_hasY : GoodIn wsX8_act (va_wsS RX8 150 yX8_hasY wsX8_hasY) := goodIn_app (goodIn_of _ (by decide +kernel)) ggX8_act_X8_hasY
def fw_dX8_act_0 : List (Nat × Instr × Nat) := [(0, .iload_n 1, 1), (1, .invokestatic 157, 3), (4, .ifCond .ne 10, 3), (7, .aload_n 0, 1), (8, .bipush (-3), 2), (10, .invokevirtual 122, 3), (13, .ireturn, 1), (14, .iload_n 2, 1), (15, .iload_n 3, 1), (16, .iload 4, 2), (18, .iload 5, 2), (20, .invokestatic 160, 3), (23, .ifCond .ne 10, 3), (26, .aload_n 0, 1), (27, .bipush (-6), 2), (29, .invokevirtual 122, 3), (32, .ireturn, 1), (33, .aload_n 0, 1), (34, .getfield 41, 3), (37, .iload_n 1, 1), (38, .iaload, 1), (39, .bipush 10, 2), (41, .if_icmp .ne 10, 3), (44, .aload_n 0, 1), (45, .bipush (-7), 2), (47, .invokevirtual 122, 3), (50, .ireturn, 1), (51, .bipush 10, 2), (53, .iload_n 1, 1), (54, .imul, 1), (55, .aload_n 0, 1), (56, .getfield 41, 3), (59, .iload_n 1, 1), (60, .iaload, 1), (61, .iadd, 1), (62, .istore 6, 2), (64, .aload_n 0, 1), (65, .getfield 29, 3), (68, .iload 6, 2), (70, .iload_n 2, 1)]
theorem fw_dX8_act_0_c : fchk 0 (cX8_act.data.toList.drop 0) fw_dX8_act_0 = true := by decide +kernel
theorem dX8_act_0 : decode cX8_act 0 = .ok (.iload_n 1, 1) := fchk_d fw_dX8_act_0_c (0, .iload_n 1, 1) (List.mem_of_getElem? (i := 0) rfl)
theorem dX8_act_1 : decode cX8_act 1 = .ok (.invokestatic 157, 3) := fchk_d fw_dX8_act_0_c (1, .invokestatic 157, 3) (List.mem_of_getElem? (i := 1) rfl)
theorem dX8_act_4 : decode cX8_act 4 = .ok (.ifCond .ne 10, 3) := fchk_d fw_dX8_act_0_c (4, .ifCond .ne 10, 3) (List.mem_of_getElem? (i := 2) rfl)
theorem dX8_act_7 : decode cX8_act 7 = .ok (.aload_n 0, 1) := fchk_d fw_dX8_act_0_c (7, .aload_n 0, 1) (List.mem_of_getElem? (i := 3) rfl)
theorem dX8_act_8 : decode cX8_act 8 = .ok (.bipush (-3), 2) := fchk_d fw_dX8_act_0_c (8, .bipush (-3), 2) (List.mem_of_getElem? (i := 4) rfl)
theorem dX8_act_10 : decode cX8_act 10 = .ok (.invokevirtual 122, 3) := fchk_d fw_dX8_act_0_c (10, .invokevirtual 122, 3) (List.mem_of_getElem? (i := 5) rfl)
theorem dX8_act_13 : decode cX8_act 13 = .ok (.ireturn, 1) := fchk_d fw_dX8_act_0_c (13, .ireturn, 1) (List.mem_of_getElem? (i := 6) rfl)
theorem dX8_act_14 : decode cX8_act 14 = .ok (.iload_n 2, 1) := fchk_d fw_dX8_act_0_c (14, .iload_n 2, 1) (List.mem_of_getElem? (i := 7) rfl)
theorem dX8_act_15 : decode cX8_act 15 = .ok (.iload_n 3, 1) := fchk_d fw_dX8_act_0_c (15, .iload_n 3, 1) (List.mem_of_getElem? (i := 8) rfl)
theorem dX8_act_16 : decode cX8_act 16 = .ok (.iload 4, 2) := fchk_d fw_dX8_act_0_c (16, .iload 4, 2) (List.mem_of_getElem? (i := 9) rfl)
theorem dX8_act_18 : decode cX8_act 18 = .ok (.iload 5, 2) := fchk_d fw_dX8_act_0_c (18, .iload 5, 2) (List.mem_of_getElem? (i := 10) rfl)
theorem dX8_act_20 : decode cX8_act 20 = .ok (.invokestatic 160, 3) := fchk_d fw_dX8_act_0_c (20, .invokestatic 160, 3) (List.mem_of_getElem? (i := 11) rfl)
theorem dX8_act_23 : decode cX8_act 23 = .ok (.ifCond .ne 10, 3) := fchk_d fw_dX8_act_0_c (23, .ifCond .ne 10, 3) (List.mem_of_getElem? (i := 12) rfl)
theorem dX8_act_26 : decode cX8_act 26 = .ok (.aload_n 0, 1) := fchk_d fw_dX8_act_0_c (26, .aload_n 0, 1) (List.mem_of_getElem? (i := 13) rfl)
theorem dX8_act_27 : decode cX8_act 27 = .ok (.bipush (-6), 2) := fchk_d fw_dX8_act_0_c (27, .bipush (-6), 2) (List.mem_of_getElem? (i := 14) rfl)
theorem dX8_act_29 : decode cX8_act 29 = .ok (.invokevirtual 122, 3) := fchk_d fw_dX8_act_0_c (29, .invokevirtual 122, 3) (List.mem_of_getElem? (i := 15) rfl)
theorem dX8_act_32 : decode cX8_act 32 = .ok (.ireturn, 1) := fchk_d fw_dX8_act_0_c (32, .ireturn, 1) (List.mem_of_getElem? (i := 16) rfl)
theorem dX8_act_33 : decode cX8_act 33 = .ok (.aload_n 0, 1) := fchk_d fw_dX8_act_0_c (33, .aload_n 0, 1) (List.mem_of_getElem? (i := 17) rfl)
theorem dX8_act_34 : decode cX8_act 34 = .ok (.getfield 41, 3) := fchk_d fw_dX8_act_0_c (34, .getfield 41, 3) (List.mem_of_getElem? (i := 18) rfl)
theorem dX8_act_37 : decode cX8_act 37 = .ok (.iload_n 1, 1) := fchk_d fw_dX8_act_0_c (37, .iload_n 1, 1) (List.mem_of_getElem? (i := 19) rfl)
theorem dX8_act_38 : decode cX8_act 38 = .ok (.iaload, 1) := fchk_d fw_dX8_act_0_c (38, .iaload, 1) (List.mem_of_getElem? (i := 20) rfl)
theorem dX8_act_39 : decode cX8_act 39 = .ok (.bipush 10, 2) := fchk_d fw_dX8_act_0_c (39, .bipush 10, 2) (List.mem_of_getElem? (i := 21) rfl)
theorem dX8_act_41 : decode cX8_act 41 = .ok (.if_icmp .ne 10, 3) := fchk_d fw_dX8_act_0_c (41, .if_icmp .ne 10, 3) (List.mem_of_getElem? (i := 22) rfl)
theorem dX8_act_44 : decode cX8_act 44 = .ok (.aload_n 0, 1) := fchk_d fw_dX8_act_0_c (44, .aload_n 0, 1) (List.mem_of_getElem? (i := 23) rfl)
theorem dX8_act_45 : decode cX8_act 45 = .ok (.bipush (-7), 2) := fchk_d fw_dX8_act_0_c (45, .bipush (-7), 2) (List.mem_of_getElem? (i := 24) rfl)
theorem dX8_act_47 : decode cX8_act 47 = .ok (.invokevirtual 122, 3) := fchk_d fw_dX8_act_0_c (47, .invokevirtual 122, 3) (List.mem_of_getElem? (i := 25) rfl)
theorem dX8_act_50 : decode cX8_act 50 = .ok (.ireturn, 1) := fchk_d fw_dX8_act_0_c (50, .ireturn, 1) (List.mem_of_getElem? (i := 26) rfl)
theorem dX8_act_51 : decode cX8_act 51 = .ok (.bipush 10, 2) := fchk_d fw_dX8_act_0_c (51, .bipush 10, 2) (List.mem_of_getElem? (i := 27) rfl)
theorem dX8_act_53 : decode cX8_act 53 = .ok (.iload_n 1, 1) := fchk_d fw_dX8_act_0_c (53, .iload_n 1, 1) (List.mem_of_getElem? (i := 28) rfl)
theorem dX8_act_54 : decode cX8_act 54 = .ok (.imul, 1) := fchk_d fw_dX8_act_0_c (54, .imul, 1) (List.mem_of_getElem? (i := 29) rfl)
theorem dX8_act_55 : decode cX8_act 55 = .ok (.aload_n 0, 1) := fchk_d fw_dX8_act_0_c (55, .aload_n 0, 1) (List.mem_of_getElem? (i := 30) rfl)
theorem dX8_act_56 : decode cX8_act 56 = .ok (.getfield 41, 3) := fchk_d fw_dX8_act_0_c (56, .getfield 41, 3) (List.mem_of_getElem? (i := 31) rfl)
theorem dX8_act_59 : decode cX8_act 59 = .ok (.iload_n 1, 1) := fchk_d fw_dX8_act_0_c (59, .iload_n 1, 1) (List.mem_of_getElem? (i := 32) rfl)
theorem dX8_act_60 : decode cX8_act 60 = .ok (.iaload, 1) := fchk_d fw_dX8_act_0_c (60, .iaload, 1) (List.mem_of_getElem? (i := 33) rfl)
theorem dX8_act_61 : decode cX8_act 61 = .ok (.iadd, 1) := fchk_d fw_dX8_act_0_c (61, .iadd, 1) (List.mem_of_getElem? (i := 34) rfl)
theorem dX8_act_62 : decode cX8_act 62 = .ok (.istore 6, 2) := fchk_d fw_dX8_act_0_c (62, .istore 6, 2) (List.mem_of_getElem? (i := 35) rfl)
theorem dX8_act_64 : decode cX8_act 64 = .ok (.aload_n 0, 1) := fchk_d fw_dX8_act_0_c (64, .aload_n 0, 1) (List.mem_of_getElem? (i := 36) rfl)
theorem dX8_act_65 : decode cX8_act 65 = .ok (.getfield 29, 3) := fchk_d fw_dX8_act_0_c (65, .getfield 29, 3) (List.mem_of_getElem? (i := 37) rfl)
theorem dX8_act_68 : decode cX8_act 68 = .ok (.iload 6, 2) := fchk_d fw_dX8_act_0_c (68, .iload 6, 2) (List.mem_of_getElem? (i := 38) rfl)
theorem dX8_act_70 : decode cX8_act 70 = .ok (.iload_n 2, 1) := fchk_d fw_dX8_act_0_c (70, .iload_n 2, 1) (List.mem_of_getElem? (i := 39) rfl)
def fw_dX8_act_71 : List (Nat × Instr × Nat) := [(71, .iastore, 1), (72, .aload_n 0, 1), (73, .getfield 32, 3), (76, .iload 6, 2), (78, .iload_n 2, 1), (79, .invokestatic 145, 3), (82, .ifCond .eq 7, 3), (85, .iload_n 3, 1), (86, .goto 4, 3), (89, .iconst (-1), 1), (90, .iastore, 1), (91, .aload_n 0, 1), (92, .getfield 35, 3), (95, .iload 6, 2), (97, .iload 4, 2), (99, .iastore, 1), (100, .aload_n 0, 1), (101, .getfield 38, 3), (104, .iload 6, 2), (106, .iload_n 2, 1), (107, .invokestatic 150, 3), (110, .ifCond .eq 8, 3), (113, .iload 5, 2), (115, .goto 4, 3), (118, .iconst (-1), 1), (119, .iastore, 1), (120, .aload_n 0, 1), (121, .getfield 41, 3), (124, .iload_n 1, 1), (125, .dup2, 1), (126, .iaload, 1), (127, .iconst 1, 1), (128, .iadd, 1), (129, .iastore, 1), (130, .aload_n 0, 1), (131, .getfield 66, 3), (134, .iload_n 1, 1), (135, .iconst 0, 1), (136, .bastore, 1), (137, .aload_n 0, 1)]
theorem fw_dX8_act_71_c : fchk 71 (cX8_act.data.toList.drop 71) fw_dX8_act_71 = true := by decide +kernel
theorem dX8_act_71 : decode cX8_act 71 = .ok (.iastore, 1) := fchk_d fw_dX8_act_71_c (71, .iastore, 1) (List.mem_of_getElem? (i := 0) rfl)
theorem dX8_act_72 : decode cX8_act 72 = .ok (.aload_n 0, 1) := fchk_d fw_dX8_act_71_c (72, .aload_n 0, 1) (List.mem_of_getElem? (i := 1) rfl)
theorem dX8_act_73 : decode cX8_act 73 = .ok (.getfield 32, 3) := fchk_d fw_dX8_act_71_c (73, .getfield 32, 3) (List.mem_of_getElem? (i := 2) rfl)
theorem dX8_act_76 : decode cX8_act 76 = .ok (.iload 6, 2) := fchk_d fw_dX8_act_71_c (76, .iload 6, 2) (List.mem_of_getElem? (i := 3) rfl)
theorem dX8_act_78 : decode cX8_act 78 = .ok (.iload_n 2, 1) := fchk_d fw_dX8_act_71_c (78, .iload_n 2, 1) (List.mem_of_getElem? (i := 4) rfl)
theorem dX8_act_79 : decode cX8_act 79 = .ok (.invokestatic 145, 3) := fchk_d fw_dX8_act_71_c (79, .invokestatic 145, 3) (List.mem_of_getElem? (i := 5) rfl)
theorem dX8_act_82 : decode cX8_act 82 = .ok (.ifCond .eq 7, 3) := fchk_d fw_dX8_act_71_c (82, .ifCond .eq 7, 3) (List.mem_of_getElem? (i := 6) rfl)
theorem dX8_act_85 : decode cX8_act 85 = .ok (.iload_n 3, 1) := fchk_d fw_dX8_act_71_c (85, .iload_n 3, 1) (List.mem_of_getElem? (i := 7) rfl)
theorem dX8_act_86 : decode cX8_act 86 = .ok (.goto 4, 3) := fchk_d fw_dX8_act_71_c (86, .goto 4, 3) (List.mem_of_getElem? (i := 8) rfl)
theorem dX8_act_89 : decode cX8_act 89 = .ok (.iconst (-1), 1) := fchk_d fw_dX8_act_71_c (89, .iconst (-1), 1) (List.mem_of_getElem? (i := 9) rfl)
theorem dX8_act_90 : decode cX8_act 90 = .ok (.iastore, 1) := fchk_d fw_dX8_act_71_c (90, .iastore, 1) (List.mem_of_getElem? (i := 10) rfl)
theorem dX8_act_91 : decode cX8_act 91 = .ok (.aload_n 0, 1) := fchk_d fw_dX8_act_71_c (91, .aload_n 0, 1) (List.mem_of_getElem? (i := 11) rfl)
theorem dX8_act_92 : decode cX8_act 92 = .ok (.getfield 35, 3) := fchk_d fw_dX8_act_71_c (92, .getfield 35, 3) (List.mem_of_getElem? (i := 12) rfl)
theorem dX8_act_95 : decode cX8_act 95 = .ok (.iload 6, 2) := fchk_d fw_dX8_act_71_c (95, .iload 6, 2) (List.mem_of_getElem? (i := 13) rfl)
theorem dX8_act_97 : decode cX8_act 97 = .ok (.iload 4, 2) := fchk_d fw_dX8_act_71_c (97, .iload 4, 2) (List.mem_of_getElem? (i := 14) rfl)
theorem dX8_act_99 : decode cX8_act 99 = .ok (.iastore, 1) := fchk_d fw_dX8_act_71_c (99, .iastore, 1) (List.mem_of_getElem? (i := 15) rfl)
theorem dX8_act_100 : decode cX8_act 100 = .ok (.aload_n 0, 1) := fchk_d fw_dX8_act_71_c (100, .aload_n 0, 1) (List.mem_of_getElem? (i := 16) rfl)
theorem dX8_act_101 : decode cX8_act 101 = .ok (.getfield 38, 3) := fchk_d fw_dX8_act_71_c (101, .getfield 38, 3) (List.mem_of_getElem? (i := 17) rfl)
theorem dX8_act_104 : decode cX8_act 104 = .ok (.iload 6, 2) := fchk_d fw_dX8_act_71_c (104, .iload 6, 2) (List.mem_of_getElem? (i := 18) rfl)
theorem dX8_act_106 : decode cX8_act 106 = .ok (.iload_n 2, 1) := fchk_d fw_dX8_act_71_c (106, .iload_n 2, 1) (List.mem_of_getElem? (i := 19) rfl)
theorem dX8_act_107 : decode cX8_act 107 = .ok (.invokestatic 150, 3) := fchk_d fw_dX8_act_71_c (107, .invokestatic 150, 3) (List.mem_of_getElem? (i := 20) rfl)
theorem dX8_act_110 : decode cX8_act 110 = .ok (.ifCond .eq 8, 3) := fchk_d fw_dX8_act_71_c (110, .ifCond .eq 8, 3) (List.mem_of_getElem? (i := 21) rfl)
theorem dX8_act_113 : decode cX8_act 113 = .ok (.iload 5, 2) := fchk_d fw_dX8_act_71_c (113, .iload 5, 2) (List.mem_of_getElem? (i := 22) rfl)
theorem dX8_act_115 : decode cX8_act 115 = .ok (.goto 4, 3) := fchk_d fw_dX8_act_71_c (115, .goto 4, 3) (List.mem_of_getElem? (i := 23) rfl)
theorem dX8_act_118 : decode cX8_act 118 = .ok (.iconst (-1), 1) := fchk_d fw_dX8_act_71_c (118, .iconst (-1), 1) (List.mem_of_getElem? (i := 24) rfl)
theorem dX8_act_119 : decode cX8_act 119 = .ok (.iastore, 1) := fchk_d fw_dX8_act_71_c (119, .iastore, 1) (List.mem_of_getElem? (i := 25) rfl)
theorem dX8_act_120 : decode cX8_act 120 = .ok (.aload_n 0, 1) := fchk_d fw_dX8_act_71_c (120, .aload_n 0, 1) (List.mem_of_getElem? (i := 26) rfl)
theorem dX8_act_121 : decode cX8_act 121 = .ok (.getfield 41, 3) := fchk_d fw_dX8_act_71_c (121, .getfield 41, 3) (List.mem_of_getElem? (i := 27) rfl)
theorem dX8_act_124 : decode cX8_act 124 = .ok (.iload_n 1, 1) := fchk_d fw_dX8_act_71_c (124, .iload_n 1, 1) (List.mem_of_getElem? (i := 28) rfl)
theorem dX8_act_125 : decode cX8_act 125 = .ok (.dup2, 1) := fchk_d fw_dX8_act_71_c (125, .dup2, 1) (List.mem_of_getElem? (i := 29) rfl)
theorem dX8_act_126 : decode cX8_act 126 = .ok (.iaload, 1) := fchk_d fw_dX8_act_71_c (126, .iaload, 1) (List.mem_of_getElem? (i := 30) rfl)
theorem dX8_act_127 : decode cX8_act 127 = .ok (.iconst 1, 1) := fchk_d fw_dX8_act_71_c (127, .iconst 1, 1) (List.mem_of_getElem? (i := 31) rfl)
theorem dX8_act_128 : decode cX8_act 128 = .ok (.iadd, 1) := fchk_d fw_dX8_act_71_c (128, .iadd, 1) (List.mem_of_getElem? (i := 32) rfl)
theorem dX8_act_129 : decode cX8_act 129 = .ok (.iastore, 1) := fchk_d fw_dX8_act_71_c (129, .iastore, 1) (List.mem_of_getElem? (i := 33) rfl)
theorem dX8_act_130 : decode cX8_act 130 = .ok (.aload_n 0, 1) := fchk_d fw_dX8_act_71_c (130, .aload_n 0, 1) (List.mem_of_getElem? (i := 34) rfl)
theorem dX8_act_131 : decode cX8_act 131 = .ok (.getfield 66, 3) := fchk_d fw_dX8_act_71_c (131, .getfield 66, 3) (List.mem_of_getElem? (i := 35) rfl)
theorem dX8_act_134 : decode cX8_act 134 = .ok (.iload_n 1, 1) := fchk_d fw_dX8_act_71_c (134, .iload_n 1, 1) (List.mem_of_getElem? (i := 36) rfl)
theorem dX8_act_135 : decode cX8_act 135 = .ok (.iconst 0, 1) := fchk_d fw_dX8_act_71_c (135, .iconst 0, 1) (List.mem_of_getElem? (i := 37) rfl)
theorem dX8_act_136 : decode cX8_act 136 = .ok (.bastore, 1) := fchk_d fw_dX8_act_71_c (136, .bastore, 1) (List.mem_of_getElem? (i := 38) rfl)
theorem dX8_act_137 : decode cX8_act 137 = .ok (.aload_n 0, 1) := fchk_d fw_dX8_act_71_c (137, .aload_n 0, 1) (List.mem_of_getElem? (i := 39) rfl)
def fw_dX8_act_138 : List (Nat × Instr × Nat) := [(138, .iconst 0, 1), (139, .putfield 164, 3), (142, .aload_n 0, 1), (143, .getfield 41, 3), (146, .iload_n 1, 1), (147, .iaload, 1), (148, .ireturn, 1)]
theorem fw_dX8_act_138_c : fchk 138 (cX8_act.data.toList.drop 138) fw_dX8_act_138 = true := by decide +kernel
theorem dX8_act_138 : decode cX8_act 138 = .ok (.iconst 0, 1) := fchk_d fw_dX8_act_138_c (138, .iconst 0, 1) (List.mem_of_getElem? (i := 0) rfl)
theorem dX8_act_139 : decode cX8_act 139 = .ok (.putfield 164, 3) := fchk_d fw_dX8_act_138_c (139, .putfield 164, 3) (List.mem_of_getElem? (i := 1) rfl)
theorem dX8_act_142 : decode cX8_act 142 = .ok (.aload_n 0, 1) := fchk_d fw_dX8_act_138_c (142, .aload_n 0, 1) (List.mem_of_getElem? (i := 2) rfl)
theorem dX8_act_143 : decode cX8_act 143 = .ok (.getfield 41, 3) := fchk_d fw_dX8_act_138_c (143, .getfield 41, 3) (List.mem_of_getElem? (i := 3) rfl)
theorem dX8_act_146 : decode cX8_act 146 = .ok (.iload_n 1, 1) := fchk_d fw_dX8_act_138_c (146, .iload_n 1, 1) (List.mem_of_getElem? (i := 4) rfl)
theorem dX8_act_147 : decode cX8_act 147 = .ok (.iaload, 1) := fchk_d fw_dX8_act_138_c (147, .iaload, 1) (List.mem_of_getElem? (i := 5) rfl)
theorem dX8_act_148 : decode cX8_act 148 = .ok (.ireturn, 1) := fchk_d fw_dX8_act_138_c (148, .ireturn, 1) (List.mem_of_getElem? (i := 6) rfl)
set_option maxRecDepth 20000 in
theorem ggX8_clear_X8_isInstruction : GoodIn wsX8_clear wsX8_isInstruction := goodIn_r _ [7] rfl (by decide +kernel)
set_option maxRecDepth 20000 in
theorem gX8_clear_X8_isInstruction : GoodIn wsX8_clear (va_wsS RX8 157 yX8_isInstruction wsX8_isInstruction) := goodIn_app (goodIn_of _ (by decide +kernel)) ggX8_clear_X8_isInstruction
set_option maxRecDepth 20000 in
theorem ggX8_clear_X8_no : GoodIn wsX8_clear wsX8_no := goodIn_r _ [11, 12, 13, 14, 15, 16, 17, 18, 19, 20, 21, 22, 23, 24, 25, 26, 27, 28, 29, 30, 31, 32, 33, 34, 35, 36, 37, 38, 39, 40, 41, 42, 43, 44, 45, 46, 47, 48, 49, 50, 51, 52, 53, 54, 55, 56] rfl (by decide +kernel)
set_option maxRecDepth 20000 in
theorem gX8_clear_X8_no : GoodIn wsX8_clear (wsV RX8 122 RX8 yX8_no wsX8_no) := goodIn_app (goodIn_of _ (by decide +kernel)) ggX8_clear_X8_no
def fw_dX8_clear_0 : List (Nat × Instr × Nat) := [(0, .iload_n 1, 1), (1, .invokestatic 157, 3), (4, .ifCond .ne 10, 3), (7, .aload_n 0, 1), (8, .bipush (-3), 2), (10, .invokevirtual 122, 3), (13, .ireturn, 1), (14, .aload_n 0, 1), (15, .getfield 41, 3), (18, .iload_n 1, 1), (19, .iaload, 1), (20, .istore_n 2, 1), (21, .iload_n 2, 1), (22, .ifCond .ne 5, 3), (25, .iconst 0, 1), (26, .ireturn, 1), (27, .aload_n 0, 1), (28, .getfield 41, 3), (31, .iload_n 1, 1), (32, .iconst 0, 1), (33, .iastore, 1), (34, .aload_n 0, 1), (35, .getfield 66, 3), (38, .iload_n 1, 1), (39, .iconst 0, 1), (40, .bastore, 1), (41, .aload_n 0, 1), (42, .iconst 0, 1), (43, .putfield 164, 3), (46, .iload_n 2, 1), (47, .ireturn, 1)]
theorem fw_dX8_clear_0_c : fchk 0 (cX8_clear.data.toList.drop 0) fw_dX8_clear_0 = true := by decide +kernel
theorem dX8_clear_0 : decode cX8_clear 0 = .ok (.iload_n 1, 1) := fchk_d fw_dX8_clear_0_c (0, .iload_n 1, 1) (List.mem_of_getElem? (i := 0) rfl)
theorem dX8_clear_1 : decode cX8_clear 1 = .ok (.invokestatic 157, 3) := fchk_d fw_dX8_clear_0_c (1, .invokestatic 157, 3) (List.mem_of_getElem? (i := 1) rfl)
theorem dX8_clear_4 : decode cX8_clear 4 = .ok (.ifCond .ne 10, 3) := fchk_d fw_dX8_clear_0_c (4, .ifCond .ne 10, 3) (List.mem_of_getElem? (i := 2) rfl)
theorem dX8_clear_7 : decode cX8_clear 7 = .ok (.aload_n 0, 1) := fchk_d fw_dX8_clear_0_c (7, .aload_n 0, 1) (List.mem_of_getElem? (i := 3) rfl)
theorem dX8_clear_8 : decode cX8_clear 8 = .ok (.bipush (-3), 2) := fchk_d fw_dX8_clear_0_c (8, .bipush (-3), 2) (List.mem_of_getElem? (i := 4) rfl)
theorem dX8_clear_10 : decode cX8_clear 10 = .ok (.invokevirtual 122, 3) := fchk_d fw_dX8_clear_0_c (10, .invokevirtual 122, 3) (List.mem_of_getElem? (i := 5) rfl)
theorem dX8_clear_13 : decode cX8_clear 13 = .ok (.ireturn, 1) := fchk_d fw_dX8_clear_0_c (13, .ireturn, 1) (List.mem_of_getElem? (i := 6) rfl)
theorem dX8_clear_14 : decode cX8_clear 14 = .ok (.aload_n 0, 1) := fchk_d fw_dX8_clear_0_c (14, .aload_n 0, 1) (List.mem_of_getElem? (i := 7) rfl)
theorem dX8_clear_15 : decode cX8_clear 15 = .ok (.getfield 41, 3) := fchk_d fw_dX8_clear_0_c (15, .getfield 41, 3) (List.mem_of_getElem? (i := 8) rfl)
theorem dX8_clear_18 : decode cX8_clear 18 = .ok (.iload_n 1, 1) := fchk_d fw_dX8_clear_0_c (18, .iload_n 1, 1) (List.mem_of_getElem? (i := 9) rfl)
theorem dX8_clear_19 : decode cX8_clear 19 = .ok (.iaload, 1) := fchk_d fw_dX8_clear_0_c (19, .iaload, 1) (List.mem_of_getElem? (i := 10) rfl)
theorem dX8_clear_20 : decode cX8_clear 20 = .ok (.istore_n 2, 1) := fchk_d fw_dX8_clear_0_c (20, .istore_n 2, 1) (List.mem_of_getElem? (i := 11) rfl)
theorem dX8_clear_21 : decode cX8_clear 21 = .ok (.iload_n 2, 1) := fchk_d fw_dX8_clear_0_c (21, .iload_n 2, 1) (List.mem_of_getElem? (i := 12) rfl)
theorem dX8_clear_22 : decode cX8_clear 22 = .ok (.ifCond .ne 5, 3) := fchk_d fw_dX8_clear_0_c (22, .ifCond .ne 5, 3) (List.mem_of_getElem? (i := 13) rfl)
theorem dX8_clear_25 : decode cX8_clear 25 = .ok (.iconst 0, 1) := fchk_d fw_dX8_clear_0_c (25, .iconst 0, 1) (List.mem_of_getElem? (i := 14) rfl)
theorem dX8_clear_26 : decode cX8_clear 26 = .ok (.ireturn, 1) := fchk_d fw_dX8_clear_0_c (26, .ireturn, 1) (List.mem_of_getElem? (i := 15) rfl)
theorem dX8_clear_27 : decode cX8_clear 27 = .ok (.aload_n 0, 1) := fchk_d fw_dX8_clear_0_c (27, .aload_n 0, 1) (List.mem_of_getElem? (i := 16) rfl)
theorem dX8_clear_28 : decode cX8_clear 28 = .ok (.getfield 41, 3) := fchk_d fw_dX8_clear_0_c (28, .getfield 41, 3) (List.mem_of_getElem? (i := 17) rfl)
theorem dX8_clear_31 : decode cX8_clear 31 = .ok (.iload_n 1, 1) := fchk_d fw_dX8_clear_0_c (31, .iload_n 1, 1) (List.mem_of_getElem? (i := 18) rfl)
theorem dX8_clear_32 : decode cX8_clear 32 = .ok (.iconst 0, 1) := fchk_d fw_dX8_clear_0_c (32, .iconst 0, 1) (List.mem_of_getElem? (i := 19) rfl)
theorem dX8_clear_33 : decode cX8_clear 33 = .ok (.iastore, 1) := fchk_d fw_dX8_clear_0_c (33, .iastore, 1) (List.mem_of_getElem? (i := 20) rfl)
theorem dX8_clear_34 : decode cX8_clear 34 = .ok (.aload_n 0, 1) := fchk_d fw_dX8_clear_0_c (34, .aload_n 0, 1) (List.mem_of_getElem? (i := 21) rfl)
theorem dX8_clear_35 : decode cX8_clear 35 = .ok (.getfield 66, 3) := fchk_d fw_dX8_clear_0_c (35, .getfield 66, 3) (List.mem_of_getElem? (i := 22) rfl)
theorem dX8_clear_38 : decode cX8_clear 38 = .ok (.iload_n 1, 1) := fchk_d fw_dX8_clear_0_c (38, .iload_n 1, 1) (List.mem_of_getElem? (i := 23) rfl)
theorem dX8_clear_39 : decode cX8_clear 39 = .ok (.iconst 0, 1) := fchk_d fw_dX8_clear_0_c (39, .iconst 0, 1) (List.mem_of_getElem? (i := 24) rfl)
theorem dX8_clear_40 : decode cX8_clear 40 = .ok (.bastore, 1) := fchk_d fw_dX8_clear_0_c (40, .bastore, 1) (List.mem_of_getElem? (i := 25) rfl)
theorem dX8_clear_41 : decode cX8_clear 41 = .ok (.aload_n 0, 1) := fchk_d fw_dX8_clear_0_c (41, .aload_n 0, 1) (List.mem_of_getElem? (i := 26) rfl)
theorem dX8_clear_42 : decode cX8_clear 42 = .ok (.iconst 0, 1) := fchk_d fw_dX8_clear_0_c (42, .iconst 0, 1) (List.mem_of_getElem? (i := 27) rfl)
theorem dX8_clear_43 : decode cX8_clear 43 = .ok (.putfield 164, 3) := fchk_d fw_dX8_clear_0_c (43, .putfield 164, 3) (List.mem_of_getElem? (i := 28) rfl)
theorem dX8_clear_46 : decode cX8_clear 46 = .ok (.iload_n 2, 1) := fchk_d fw_dX8_clear_0_c (46, .iload_n 2, 1) (List.mem_of_getElem? (i := 29) rfl)
theorem dX8_clear_47 : decode cX8_clear 47 = .ok (.ireturn, 1) := fchk_d fw_dX8_clear_0_c (47, .ireturn, 1) (List.mem_of_getElem? (i := 30) rfl)
set_option maxRecDepth 20000 in
theorem ggX8_isAct_X8_isInstruction : GoodIn wsX8_isAct wsX8_isInstruction := goodIn_r _ [5] rfl (by decide +kernel)
set_option maxRecDepth 20000 in
theorem gX8_isAct_X8_isInstruction : GoodIn wsX8_isAct (va_wsS RX8 157 yX8_isInstruction wsX8_isInstruction) := goodIn_app (goodIn_of _ (by decide +kernel)) ggX8_isAct_X8_isInstruction
def fw_dX8_isAct_0 : List (Nat × Instr × Nat) := [(0, .iload_n 1, 1), (1, .invokestatic 157, 3), (4, .ifCond .eq 21, 3), (7, .iload_n 2, 1), (8, .ifCond .lt 17, 3), (11, .iload_n 2, 1), (12, .aload_n 0, 1), (13, .getfield 41, 3), (16, .iload_n 1, 1), (17, .iaload, 1), (18, .if_icmp .ge 7, 3), (21, .iconst 1, 1), (22, .goto 4, 3), (25, .iconst 0, 1), (26, .ireturn, 1)]
theorem fw_dX8_isAct_0_c : fchk 0 (cX8_isAct.data.toList.drop 0) fw_dX8_isAct_0 = true := by decide +kernel
theorem dX8_isAct_0 : decode cX8_isAct 0 = .ok (.iload_n 1, 1) := fchk_d fw_dX8_isAct_0_c (0, .iload_n 1, 1) (List.mem_of_getElem? (i := 0) rfl)
theorem dX8_isAct_1 : decode cX8_isAct 1 = .ok (.invokestatic 157, 3) := fchk_d fw_dX8_isAct_0_c (1, .invokestatic 157, 3) (List.mem_of_getElem? (i := 1) rfl)
theorem dX8_isAct_4 : decode cX8_isAct 4 = .ok (.ifCond .eq 21, 3) := fchk_d fw_dX8_isAct_0_c (4, .ifCond .eq 21, 3) (List.mem_of_getElem? (i := 2) rfl)
theorem dX8_isAct_7 : decode cX8_isAct 7 = .ok (.iload_n 2, 1) := fchk_d fw_dX8_isAct_0_c (7, .iload_n 2, 1) (List.mem_of_getElem? (i := 3) rfl)
theorem dX8_isAct_8 : decode cX8_isAct 8 = .ok (.ifCond .lt 17, 3) := fchk_d fw_dX8_isAct_0_c (8, .ifCond .lt 17, 3) (List.mem_of_getElem? (i := 4) rfl)
theorem dX8_isAct_11 : decode cX8_isAct 11 = .ok (.iload_n 2, 1) := fchk_d fw_dX8_isAct_0_c (11, .iload_n 2, 1) (List.mem_of_getElem? (i := 5) rfl)
theorem dX8_isAct_12 : decode cX8_isAct 12 = .ok (.aload_n 0, 1) := fchk_d fw_dX8_isAct_0_c (12, .aload_n 0, 1) (List.mem_of_getElem? (i := 6) rfl)
theorem dX8_isAct_13 : decode cX8_isAct 13 = .ok (.getfield 41, 3) := fchk_d fw_dX8_isAct_0_c (13, .getfield 41, 3) (List.mem_of_getElem? (i := 7) rfl)
theorem dX8_isAct_16 : decode cX8_isAct 16 = .ok (.iload_n 1, 1) := fchk_d fw_dX8_isAct_0_c (16, .iload_n 1, 1) (List.mem_of_getElem? (i := 8) rfl)
theorem dX8_isAct_17 : decode cX8_isAct 17 = .ok (.iaload, 1) := fchk_d fw_dX8_isAct_0_c (17, .iaload, 1) (List.mem_of_getElem? (i := 9) rfl)
theorem dX8_isAct_18 : decode cX8_isAct 18 = .ok (.if_icmp .ge 7, 3) := fchk_d fw_dX8_isAct_0_c (18, .if_icmp .ge 7, 3) (List.mem_of_getElem? (i := 10) rfl)
theorem dX8_isAct_21 : decode cX8_isAct 21 = .ok (.iconst 1, 1) := fchk_d fw_dX8_isAct_0_c (21, .iconst 1, 1) (List.mem_of_getElem? (i := 11) rfl)
theorem dX8_isAct_22 : decode cX8_isAct 22 = .ok (.goto 4, 3) := fchk_d fw_dX8_isAct_0_c (22, .goto 4, 3) (List.mem_of_getElem? (i := 12) rfl)
theorem dX8_isAct_25 : decode cX8_isAct 25 = .ok (.iconst 0, 1) := fchk_d fw_dX8_isAct_0_c (25, .iconst 0, 1) (List.mem_of_getElem? (i := 13) rfl)
theorem dX8_isAct_26 : decode cX8_isAct 26 = .ok (.ireturn, 1) := fchk_d fw_dX8_isAct_0_c (26, .ireturn, 1) (List.mem_of_getElem? (i := 14) rfl)
def fw_dX8_partOf_0 : List (Nat × Instr × Nat) := [(0, .iload_n 0, 1), (1, .iconst 1, 1), (2, .if_icmp .gt 7, 3), (5, .iconst 0, 1), (6, .goto 33, 3), (9, .iload_n 0, 1), (10, .iconst 5, 1), (11, .if_icmp .gt 7, 3), (14, .iconst 1, 1), (15, .goto 24, 3), (18, .iload_n 0, 1), (19, .bipush 6, 2), (21, .if_icmp .ne 7, 3), (24, .iconst 2, 1), (25, .goto 14, 3), (28, .iload_n 0, 1), (29, .bipush 8, 2), (31, .if_icmp .gt 7, 3), (34, .iconst 3, 1), (35, .goto 4, 3), (38, .iconst 4, 1), (39, .ireturn, 1)]
theorem fw_dX8_partOf_0_c : fchk 0 (cX8_partOf.data.toList.drop 0) fw_dX8_partOf_0 = true := by decide +kernel
theorem dX8_partOf_0 : decode cX8_partOf 0 = .ok (.iload_n 0, 1) := fchk_d fw_dX8_partOf_0_c (0, .iload_n 0, 1) (List.mem_of_getElem? (i := 0) rfl)
theorem dX8_partOf_1 : decode cX8_partOf 1 = .ok (.iconst 1, 1) := fchk_d fw_dX8_partOf_0_c (1, .iconst 1, 1) (List.mem_of_getElem? (i := 1) rfl)
theorem dX8_partOf_2 : decode cX8_partOf 2 = .ok (.if_icmp .gt 7, 3) := fchk_d fw_dX8_partOf_0_c (2, .if_icmp .gt 7, 3) (List.mem_of_getElem? (i := 2) rfl)
theorem dX8_partOf_5 : decode cX8_partOf 5 = .ok (.iconst 0, 1) := fchk_d fw_dX8_partOf_0_c (5, .iconst 0, 1) (List.mem_of_getElem? (i := 3) rfl)
theorem dX8_partOf_6 : decode cX8_partOf 6 = .ok (.goto 33, 3) := fchk_d fw_dX8_partOf_0_c (6, .goto 33, 3) (List.mem_of_getElem? (i := 4) rfl)
theorem dX8_partOf_9 : decode cX8_partOf 9 = .ok (.iload_n 0, 1) := fchk_d fw_dX8_partOf_0_c (9, .iload_n 0, 1) (List.mem_of_getElem? (i := 5) rfl)
theorem dX8_partOf_10 : decode cX8_partOf 10 = .ok (.iconst 5, 1) := fchk_d fw_dX8_partOf_0_c (10, .iconst 5, 1) (List.mem_of_getElem? (i := 6) rfl)
theorem dX8_partOf_11 : decode cX8_partOf 11 = .ok (.if_icmp .gt 7, 3) := fchk_d fw_dX8_partOf_0_c (11, .if_icmp .gt 7, 3) (List.mem_of_getElem? (i := 7) rfl)
theorem dX8_partOf_14 : decode cX8_partOf 14 = .ok (.iconst 1, 1) := fchk_d fw_dX8_partOf_0_c (14, .iconst 1, 1) (List.mem_of_getElem? (i := 8) rfl)
theorem dX8_partOf_15 : decode cX8_partOf 15 = .ok (.goto 24, 3) := fchk_d fw_dX8_partOf_0_c (15, .goto 24, 3) (List.mem_of_getElem? (i := 9) rfl)
theorem dX8_partOf_18 : decode cX8_partOf 18 = .ok (.iload_n 0, 1) := fchk_d fw_dX8_partOf_0_c (18, .iload_n 0, 1) (List.mem_of_getElem? (i := 10) rfl)
theorem dX8_partOf_19 : decode cX8_partOf 19 = .ok (.bipush 6, 2) := fchk_d fw_dX8_partOf_0_c (19, .bipush 6, 2) (List.mem_of_getElem? (i := 11) rfl)
theorem dX8_partOf_21 : decode cX8_partOf 21 = .ok (.if_icmp .ne 7, 3) := fchk_d fw_dX8_partOf_0_c (21, .if_icmp .ne 7, 3) (List.mem_of_getElem? (i := 12) rfl)
theorem dX8_partOf_24 : decode cX8_partOf 24 = .ok (.iconst 2, 1) := fchk_d fw_dX8_partOf_0_c (24, .iconst 2, 1) (List.mem_of_getElem? (i := 13) rfl)
theorem dX8_partOf_25 : decode cX8_partOf 25 = .ok (.goto 14, 3) := fchk_d fw_dX8_partOf_0_c (25, .goto 14, 3) (List.mem_of_getElem? (i := 14) rfl)
theorem dX8_partOf_28 : decode cX8_partOf 28 = .ok (.iload_n 0, 1) := fchk_d fw_dX8_partOf_0_c (28, .iload_n 0, 1) (List.mem_of_getElem? (i := 15) rfl)
theorem dX8_partOf_29 : decode cX8_partOf 29 = .ok (.bipush 8, 2) := fchk_d fw_dX8_partOf_0_c (29, .bipush 8, 2) (List.mem_of_getElem? (i := 16) rfl)
theorem dX8_partOf_31 : decode cX8_partOf 31 = .ok (.if_icmp .gt 7, 3) := fchk_d fw_dX8_partOf_0_c (31, .if_icmp .gt 7, 3) (List.mem_of_getElem? (i := 17) rfl)
theorem dX8_partOf_34 : decode cX8_partOf 34 = .ok (.iconst 3, 1) := fchk_d fw_dX8_partOf_0_c (34, .iconst 3, 1) (List.mem_of_getElem? (i := 18) rfl)
theorem dX8_partOf_35 : decode cX8_partOf 35 = .ok (.goto 4, 3) := fchk_d fw_dX8_partOf_0_c (35, .goto 4, 3) (List.mem_of_getElem? (i := 19) rfl)
theorem dX8_partOf_38 : decode cX8_partOf 38 = .ok (.iconst 4, 1) := fchk_d fw_dX8_partOf_0_c (38, .iconst 4, 1) (List.mem_of_getElem? (i := 20) rfl)
theorem dX8_partOf_39 : decode cX8_partOf 39 = .ok (.ireturn, 1) := fchk_d fw_dX8_partOf_0_c (39, .ireturn, 1) (List.mem_of_getElem? (i := 21) rfl)
def fw_dX8_canTrap_0 : List (Nat × Instr × Nat) := [(0, .iload_n 0, 1), (1, .bipush 7, 2), (3, .if_icmp .eq 15, 3), (6, .iload_n 0, 1), (7, .bipush 8, 2), (9, .if_icmp .eq 9, 3), (12, .iload_n 0, 1), (13, .bipush 10, 2), (15, .if_icmp .ne 7, 3), (18, .iconst 1, 1), (19, .goto 4, 3), (22, .iconst 0, 1), (23, .ireturn, 1)]
theorem fw_dX8_canTrap_0_c : fchk 0 (cX8_canTrap.data.toList.drop 0) fw_dX8_canTrap_0 = true := by decide +kernel
theorem dX8_canTrap_0 : decode cX8_canTrap 0 = .ok (.iload_n 0, 1) := fchk_d fw_dX8_canTrap_0_c (0, .iload_n 0, 1) (List.mem_of_getElem? (i := 0) rfl)
theorem dX8_canTrap_1 : decode cX8_canTrap 1 = .ok (.bipush 7, 2) := fchk_d fw_dX8_canTrap_0_c (1, .bipush 7, 2) (List.mem_of_getElem? (i := 1) rfl)
theorem dX8_canTrap_3 : decode cX8_canTrap 3 = .ok (.if_icmp .eq 15, 3) := fchk_d fw_dX8_canTrap_0_c (3, .if_icmp .eq 15, 3) (List.mem_of_getElem? (i := 2) rfl)
theorem dX8_canTrap_6 : decode cX8_canTrap 6 = .ok (.iload_n 0, 1) := fchk_d fw_dX8_canTrap_0_c (6, .iload_n 0, 1) (List.mem_of_getElem? (i := 3) rfl)
theorem dX8_canTrap_7 : decode cX8_canTrap 7 = .ok (.bipush 8, 2) := fchk_d fw_dX8_canTrap_0_c (7, .bipush 8, 2) (List.mem_of_getElem? (i := 4) rfl)
theorem dX8_canTrap_9 : decode cX8_canTrap 9 = .ok (.if_icmp .eq 9, 3) := fchk_d fw_dX8_canTrap_0_c (9, .if_icmp .eq 9, 3) (List.mem_of_getElem? (i := 5) rfl)
theorem dX8_canTrap_12 : decode cX8_canTrap 12 = .ok (.iload_n 0, 1) := fchk_d fw_dX8_canTrap_0_c (12, .iload_n 0, 1) (List.mem_of_getElem? (i := 6) rfl)
theorem dX8_canTrap_13 : decode cX8_canTrap 13 = .ok (.bipush 10, 2) := fchk_d fw_dX8_canTrap_0_c (13, .bipush 10, 2) (List.mem_of_getElem? (i := 7) rfl)
theorem dX8_canTrap_15 : decode cX8_canTrap 15 = .ok (.if_icmp .ne 7, 3) := fchk_d fw_dX8_canTrap_0_c (15, .if_icmp .ne 7, 3) (List.mem_of_getElem? (i := 8) rfl)
theorem dX8_canTrap_18 : decode cX8_canTrap 18 = .ok (.iconst 1, 1) := fchk_d fw_dX8_canTrap_0_c (18, .iconst 1, 1) (List.mem_of_getElem? (i := 9) rfl)
theorem dX8_canTrap_19 : decode cX8_canTrap 19 = .ok (.goto 4, 3) := fchk_d fw_dX8_canTrap_0_c (19, .goto 4, 3) (List.mem_of_getElem? (i := 10) rfl)
theorem dX8_canTrap_22 : decode cX8_canTrap 22 = .ok (.iconst 0, 1) := fchk_d fw_dX8_canTrap_0_c (22, .iconst 0, 1) (List.mem_of_getElem? (i := 11) rfl)
theorem dX8_canTrap_23 : decode cX8_canTrap 23 = .ok (.ireturn, 1) := fchk_d fw_dX8_canTrap_0_c (23, .ireturn, 1) (List.mem_of_getElem? (i := 12) rfl)
set_option maxRecDepth 20000 in
theorem ggX8_look_X8_isAct : GoodIn wsX8_look wsX8_isAct := goodIn_r _ [9, 10, 11, 12, 8, 13, 25, 26, 27, 28, 29, 30, 31, 32, 33, 34, 35, 36, 37, 38, 39, 40, 41, 42, 43, 44, 45, 46, 47, 48, 49, 50, 51, 52, 53, 54, 55, 56, 57, 58, 59, 60, 61, 62, 63, 64, 65, 66, 67, 68] rfl (by decide +kernel)
set_option maxRecDepth 20000 in
theorem gX8_look_X8_isAct : GoodIn wsX8_look (wsV RX8 168 RX8 yX8_isAct wsX8_isAct) := goodIn_app (goodIn_of _ (by decide +kernel)) ggX8_look_X8_isAct
set_option maxRecDepth 20000 in
theorem ggX8_look_X8_no : GoodIn wsX8_look wsX8_no := goodIn_r _ [17, 18, 25, 26, 27, 28, 29, 30, 31, 32, 33, 34, 35, 36, 37, 38, 39, 40, 41, 42, 43, 44, 45, 46, 47, 48, 49, 50, 51, 52, 53, 54, 55, 56, 57, 58, 59, 60, 61, 62, 63, 64, 65, 66, 67, 68] rfl (by decide +kernel)
set_option maxRecDepth 20000 in
theorem gX8_look_X8_no : GoodIn wsX8_look (wsV RX8 122 RX8 yX8_no wsX8_no) := goodIn_app (goodIn_of _ (by decide +kernel)) ggX8_look_X8_no
set_option maxRecDepth 20000 in
theorem ggX8_look_X8_partOf : GoodIn wsX8_look wsX8_partOf := goodIn_r _ [21] rfl (by decide +kernel)
set_option maxRecDepth 20000 in
theorem gX8_look_X8_partOf : GoodIn wsX8_look (va_wsS RX8 172 yX8_partOf wsX8_partOf) := goodIn_app (goodIn_of _ (by decide +kernel)) ggX8_look_X8_partOf
set_option maxRecDepth 20000 in
theorem ggX8_look_X8_canTrap : GoodIn wsX8_look wsX8_canTrap := goodIn_r _ [24] rfl (by decide +kernel)
set_option maxRecDepth 20000 in
theorem gX8_look_X8_canTrap : GoodIn wsX8_look (va_wsS RX8 175 yX8_canTrap wsX8_canTrap) := goodIn_app (goodIn_of _ (by decide +kernel)) ggX8_look_X8_canTrap
def fw_dX8_look_0 : List (Nat × Instr × Nat) := [(0, .aload_n 0, 1), (1, .iload_n 1, 1), (2, .iload_n 2, 1), (3, .invokevirtual 168, 3), (6, .ifCond .ne 10, 3), (9, .aload_n 0, 1), (10, .bipush (-3), 2), (12, .invokevirtual 122, 3), (15, .ireturn, 1), (16, .bipush 10, 2), (18, .iload_n 1, 1), (19, .imul, 1), (20, .iload_n 2, 1), (21, .iadd, 1), (22, .istore 4, 2), (24, .iload_n 3, 1)]
theorem fw_dX8_look_0_c : fchk 0 (cX8_look.data.toList.drop 0) fw_dX8_look_0 = true := by decide +kernel
theorem dX8_look_0 : decode cX8_look 0 = .ok (.aload_n 0, 1) := fchk_d fw_dX8_look_0_c (0, .aload_n 0, 1) (List.mem_of_getElem? (i := 0) rfl)
theorem dX8_look_1 : decode cX8_look 1 = .ok (.iload_n 1, 1) := fchk_d fw_dX8_look_0_c (1, .iload_n 1, 1) (List.mem_of_getElem? (i := 1) rfl)
theorem dX8_look_2 : decode cX8_look 2 = .ok (.iload_n 2, 1) := fchk_d fw_dX8_look_0_c (2, .iload_n 2, 1) (List.mem_of_getElem? (i := 2) rfl)
theorem dX8_look_3 : decode cX8_look 3 = .ok (.invokevirtual 168, 3) := fchk_d fw_dX8_look_0_c (3, .invokevirtual 168, 3) (List.mem_of_getElem? (i := 3) rfl)
theorem dX8_look_6 : decode cX8_look 6 = .ok (.ifCond .ne 10, 3) := fchk_d fw_dX8_look_0_c (6, .ifCond .ne 10, 3) (List.mem_of_getElem? (i := 4) rfl)
theorem dX8_look_9 : decode cX8_look 9 = .ok (.aload_n 0, 1) := fchk_d fw_dX8_look_0_c (9, .aload_n 0, 1) (List.mem_of_getElem? (i := 5) rfl)
theorem dX8_look_10 : decode cX8_look 10 = .ok (.bipush (-3), 2) := fchk_d fw_dX8_look_0_c (10, .bipush (-3), 2) (List.mem_of_getElem? (i := 6) rfl)
theorem dX8_look_12 : decode cX8_look 12 = .ok (.invokevirtual 122, 3) := fchk_d fw_dX8_look_0_c (12, .invokevirtual 122, 3) (List.mem_of_getElem? (i := 7) rfl)
theorem dX8_look_15 : decode cX8_look 15 = .ok (.ireturn, 1) := fchk_d fw_dX8_look_0_c (15, .ireturn, 1) (List.mem_of_getElem? (i := 8) rfl)
theorem dX8_look_16 : decode cX8_look 16 = .ok (.bipush 10, 2) := fchk_d fw_dX8_look_0_c (16, .bipush 10, 2) (List.mem_of_getElem? (i := 9) rfl)
theorem dX8_look_18 : decode cX8_look 18 = .ok (.iload_n 1, 1) := fchk_d fw_dX8_look_0_c (18, .iload_n 1, 1) (List.mem_of_getElem? (i := 10) rfl)
theorem dX8_look_19 : decode cX8_look 19 = .ok (.imul, 1) := fchk_d fw_dX8_look_0_c (19, .imul, 1) (List.mem_of_getElem? (i := 11) rfl)
theorem dX8_look_20 : decode cX8_look 20 = .ok (.iload_n 2, 1) := fchk_d fw_dX8_look_0_c (20, .iload_n 2, 1) (List.mem_of_getElem? (i := 12) rfl)
theorem dX8_look_21 : decode cX8_look 21 = .ok (.iadd, 1) := fchk_d fw_dX8_look_0_c (21, .iadd, 1) (List.mem_of_getElem? (i := 13) rfl)
theorem dX8_look_22 : decode cX8_look 22 = .ok (.istore 4, 2) := fchk_d fw_dX8_look_0_c (22, .istore 4, 2) (List.mem_of_getElem? (i := 14) rfl)
theorem dX8_look_24 : decode cX8_look 24 = .ok (.iload_n 3, 1) := fchk_d fw_dX8_look_0_c (24, .iload_n 3, 1) (List.mem_of_getElem? (i := 15) rfl)
theorem dX8_look_25 : decode cX8_look 25 = .ok (.tableswitch 101 0 5 #[39, 47, 55, 63, 71, 82], 39) := by decide +kernel
def fw_dX8_look_64 : List (Nat × Instr × Nat) := [(64, .aload_n 0, 1), (65, .getfield 29, 3), (68, .iload 4, 2), (70, .iaload, 1), (71, .ireturn, 1), (72, .aload_n 0, 1), (73, .getfield 32, 3), (76, .iload 4, 2), (78, .iaload, 1), (79, .ireturn, 1), (80, .aload_n 0, 1), (81, .getfield 35, 3), (84, .iload 4, 2), (86, .iaload, 1), (87, .ireturn, 1), (88, .aload_n 0, 1), (89, .getfield 38, 3), (92, .iload 4, 2), (94, .iaload, 1), (95, .ireturn, 1), (96, .aload_n 0, 1), (97, .getfield 29, 3), (100, .iload 4, 2), (102, .iaload, 1), (103, .invokestatic 172, 3), (106, .ireturn, 1), (107, .aload_n 0, 1), (108, .getfield 29, 3), (111, .iload 4, 2), (113, .iaload, 1), (114, .invokestatic 175, 3), (117, .ifCond .eq 7, 3), (120, .iconst 1, 1), (121, .goto 4, 3), (124, .iconst 0, 1), (125, .ireturn, 1), (126, .aload_n 0, 1), (127, .bipush (-6), 2), (129, .invokevirtual 122, 3), (132, .ireturn, 1)]
theorem fw_dX8_look_64_c : fchk 64 (cX8_look.data.toList.drop 64) fw_dX8_look_64 = true := by decide +kernel
theorem dX8_look_64 : decode cX8_look 64 = .ok (.aload_n 0, 1) := fchk_d fw_dX8_look_64_c (64, .aload_n 0, 1) (List.mem_of_getElem? (i := 0) rfl)
theorem dX8_look_65 : decode cX8_look 65 = .ok (.getfield 29, 3) := fchk_d fw_dX8_look_64_c (65, .getfield 29, 3) (List.mem_of_getElem? (i := 1) rfl)
theorem dX8_look_68 : decode cX8_look 68 = .ok (.iload 4, 2) := fchk_d fw_dX8_look_64_c (68, .iload 4, 2) (List.mem_of_getElem? (i := 2) rfl)
theorem dX8_look_70 : decode cX8_look 70 = .ok (.iaload, 1) := fchk_d fw_dX8_look_64_c (70, .iaload, 1) (List.mem_of_getElem? (i := 3) rfl)
theorem dX8_look_71 : decode cX8_look 71 = .ok (.ireturn, 1) := fchk_d fw_dX8_look_64_c (71, .ireturn, 1) (List.mem_of_getElem? (i := 4) rfl)
theorem dX8_look_72 : decode cX8_look 72 = .ok (.aload_n 0, 1) := fchk_d fw_dX8_look_64_c (72, .aload_n 0, 1) (List.mem_of_getElem? (i := 5) rfl)
theorem dX8_look_73 : decode cX8_look 73 = .ok (.getfield 32, 3) := fchk_d fw_dX8_look_64_c (73, .getfield 32, 3) (List.mem_of_getElem? (i := 6) rfl)
theorem dX8_look_76 : decode cX8_look 76 = .ok (.iload 4, 2) := fchk_d fw_dX8_look_64_c (76, .iload 4, 2) (List.mem_of_getElem? (i := 7) rfl)
theorem dX8_look_78 : decode cX8_look 78 = .ok (.iaload, 1) := fchk_d fw_dX8_look_64_c (78, .iaload, 1) (List.mem_of_getElem? (i := 8) rfl)
theorem dX8_look_79 : decode cX8_look 79 = .ok (.ireturn, 1) := fchk_d fw_dX8_look_64_c (79, .ireturn, 1) (List.mem_of_getElem? (i := 9) rfl)
theorem dX8_look_80 : decode cX8_look 80 = .ok (.aload_n 0, 1) := fchk_d fw_dX8_look_64_c (80, .aload_n 0, 1) (List.mem_of_getElem? (i := 10) rfl)
theorem dX8_look_81 : decode cX8_look 81 = .ok (.getfield 35, 3) := fchk_d fw_dX8_look_64_c (81, .getfield 35, 3) (List.mem_of_getElem? (i := 11) rfl)
theorem dX8_look_84 : decode cX8_look 84 = .ok (.iload 4, 2) := fchk_d fw_dX8_look_64_c (84, .iload 4, 2) (List.mem_of_getElem? (i := 12) rfl)
theorem dX8_look_86 : decode cX8_look 86 = .ok (.iaload, 1) := fchk_d fw_dX8_look_64_c (86, .iaload, 1) (List.mem_of_getElem? (i := 13) rfl)
theorem dX8_look_87 : decode cX8_look 87 = .ok (.ireturn, 1) := fchk_d fw_dX8_look_64_c (87, .ireturn, 1) (List.mem_of_getElem? (i := 14) rfl)
theorem dX8_look_88 : decode cX8_look 88 = .ok (.aload_n 0, 1) := fchk_d fw_dX8_look_64_c (88, .aload_n 0, 1) (List.mem_of_getElem? (i := 15) rfl)
theorem dX8_look_89 : decode cX8_look 89 = .ok (.getfield 38, 3) := fchk_d fw_dX8_look_64_c (89, .getfield 38, 3) (List.mem_of_getElem? (i := 16) rfl)
theorem dX8_look_92 : decode cX8_look 92 = .ok (.iload 4, 2) := fchk_d fw_dX8_look_64_c (92, .iload 4, 2) (List.mem_of_getElem? (i := 17) rfl)
theorem dX8_look_94 : decode cX8_look 94 = .ok (.iaload, 1) := fchk_d fw_dX8_look_64_c (94, .iaload, 1) (List.mem_of_getElem? (i := 18) rfl)
theorem dX8_look_95 : decode cX8_look 95 = .ok (.ireturn, 1) := fchk_d fw_dX8_look_64_c (95, .ireturn, 1) (List.mem_of_getElem? (i := 19) rfl)
theorem dX8_look_96 : decode cX8_look 96 = .ok (.aload_n 0, 1) := fchk_d fw_dX8_look_64_c (96, .aload_n 0, 1) (List.mem_of_getElem? (i := 20) rfl)
theorem dX8_look_97 : decode cX8_look 97 = .ok (.getfield 29, 3) := fchk_d fw_dX8_look_64_c (97, .getfield 29, 3) (List.mem_of_getElem? (i := 21) rfl)
theorem dX8_look_100 : decode cX8_look 100 = .ok (.iload 4, 2) := fchk_d fw_dX8_look_64_c (100, .iload 4, 2) (List.mem_of_getElem? (i := 22) rfl)
theorem dX8_look_102 : decode cX8_look 102 = .ok (.iaload, 1) := fchk_d fw_dX8_look_64_c (102, .iaload, 1) (List.mem_of_getElem? (i := 23) rfl)
theorem dX8_look_103 : decode cX8_look 103 = .ok (.invokestatic 172, 3) := fchk_d fw_dX8_look_64_c (103, .invokestatic 172, 3) (List.mem_of_getElem? (i := 24) rfl)
theorem dX8_look_106 : decode cX8_look 106 = .ok (.ireturn, 1) := fchk_d fw_dX8_look_64_c (106, .ireturn, 1) (List.mem_of_getElem? (i := 25) rfl)
theorem dX8_look_107 : decode cX8_look 107 = .ok (.aload_n 0, 1) := fchk_d fw_dX8_look_64_c (107, .aload_n 0, 1) (List.mem_of_getElem? (i := 26) rfl)
theorem dX8_look_108 : decode cX8_look 108 = .ok (.getfield 29, 3) := fchk_d fw_dX8_look_64_c (108, .getfield 29, 3) (List.mem_of_getElem? (i := 27) rfl)
theorem dX8_look_111 : decode cX8_look 111 = .ok (.iload 4, 2) := fchk_d fw_dX8_look_64_c (111, .iload 4, 2) (List.mem_of_getElem? (i := 28) rfl)
theorem dX8_look_113 : decode cX8_look 113 = .ok (.iaload, 1) := fchk_d fw_dX8_look_64_c (113, .iaload, 1) (List.mem_of_getElem? (i := 29) rfl)
theorem dX8_look_114 : decode cX8_look 114 = .ok (.invokestatic 175, 3) := fchk_d fw_dX8_look_64_c (114, .invokestatic 175, 3) (List.mem_of_getElem? (i := 30) rfl)
theorem dX8_look_117 : decode cX8_look 117 = .ok (.ifCond .eq 7, 3) := fchk_d fw_dX8_look_64_c (117, .ifCond .eq 7, 3) (List.mem_of_getElem? (i := 31) rfl)
theorem dX8_look_120 : decode cX8_look 120 = .ok (.iconst 1, 1) := fchk_d fw_dX8_look_64_c (120, .iconst 1, 1) (List.mem_of_getElem? (i := 32) rfl)
theorem dX8_look_121 : decode cX8_look 121 = .ok (.goto 4, 3) := fchk_d fw_dX8_look_64_c (121, .goto 4, 3) (List.mem_of_getElem? (i := 33) rfl)
theorem dX8_look_124 : decode cX8_look 124 = .ok (.iconst 0, 1) := fchk_d fw_dX8_look_64_c (124, .iconst 0, 1) (List.mem_of_getElem? (i := 34) rfl)
theorem dX8_look_125 : decode cX8_look 125 = .ok (.ireturn, 1) := fchk_d fw_dX8_look_64_c (125, .ireturn, 1) (List.mem_of_getElem? (i := 35) rfl)
theorem dX8_look_126 : decode cX8_look 126 = .ok (.aload_n 0, 1) := fchk_d fw_dX8_look_64_c (126, .aload_n 0, 1) (List.mem_of_getElem? (i := 36) rfl)
theorem dX8_look_127 : decode cX8_look 127 = .ok (.bipush (-6), 2) := fchk_d fw_dX8_look_64_c (127, .bipush (-6), 2) (List.mem_of_getElem? (i := 37) rfl)
theorem dX8_look_129 : decode cX8_look 129 = .ok (.invokevirtual 122, 3) := fchk_d fw_dX8_look_64_c (129, .invokevirtual 122, 3) (List.mem_of_getElem? (i := 38) rfl)
theorem dX8_look_132 : decode cX8_look 132 = .ok (.ireturn, 1) := fchk_d fw_dX8_look_64_c (132, .ireturn, 1) (List.mem_of_getElem? (i := 39) rfl)
set_option maxRecDepth 20000 in
theorem ggX8_buses_X8_isIn : GoodIn wsX8_buses wsX8_isIn := goodIn_r _ [8] rfl (by decide +kernel)
set_option maxRecDepth 20000 in
theorem gX8_buses_X8_isIn : GoodIn wsX8_buses (va_wsS RX8 128 yX8_isIn wsX8_isIn) := goodIn_app (goodIn_of _ (by decide +kernel)) ggX8_buses_X8_isIn
set_option maxRecDepth 20000 in
theorem ggX8_buses_X8_no : GoodIn wsX8_buses wsX8_no := goodIn_r _ [12, 13, 14, 15, 16, 17, 18, 19, 20, 21, 22, 23, 24, 25, 26, 27, 28, 29, 30, 31, 32, 33, 34, 35, 36, 37, 38, 39, 40, 41, 42, 43, 44, 45, 46, 47, 48, 49, 50, 51, 52, 53, 54, 55, 56, 57] rfl (by decide +kernel)
set_option maxRecDepth 20000 in
theorem gX8_buses_X8_no : GoodIn wsX8_buses (wsV RX8 122 RX8 yX8_no wsX8_no) := goodIn_app (goodIn_of _ (by decide +kernel)) ggX8_buses_X8_no
def fw_dX8_buses_0 : List (Nat × Instr × Nat) := [(0, .iload_n 1, 1), (1, .i2l, 1), (2, .lconst 1, 1), (3, .ldc2_w 178, 3), (6, .invokestatic 128, 3), (9, .ifCond .ne 10, 3), (12, .aload_n 0, 1), (13, .bipush (-6), 2), (15, .invokevirtual 122, 3), (18, .ireturn, 1), (19, .aload_n 0, 1), (20, .getfield 44, 3), (23, .istore_n 2, 1), (24, .aload_n 0, 1), (25, .iload_n 1, 1), (26, .putfield 44, 3), (29, .iconst 0, 1), (30, .istore_n 3, 1), (31, .iload_n 3, 1), (32, .bipush 12, 2), (34, .if_icmp .ge 21, 3), (37, .iload_n 2, 1), (38, .iload_n 1, 1), (39, .if_icmp .eq 16, 3), (42, .aload_n 0, 1), (43, .getfield 66, 3), (46, .iload_n 3, 1), (47, .iconst 0, 1), (48, .bastore, 1)]
theorem fw_dX8_buses_0_c : fchk 0 (cX8_buses.data.toList.drop 0) fw_dX8_buses_0 = true := by decide +kernel
theorem dX8_buses_0 : decode cX8_buses 0 = .ok (.iload_n 1, 1) := fchk_d fw_dX8_buses_0_c (0, .iload_n 1, 1) (List.mem_of_getElem? (i := 0) rfl)
theorem dX8_buses_1 : decode cX8_buses 1 = .ok (.i2l, 1) := fchk_d fw_dX8_buses_0_c (1, .i2l, 1) (List.mem_of_getElem? (i := 1) rfl)
theorem dX8_buses_2 : decode cX8_buses 2 = .ok (.lconst 1, 1) := fchk_d fw_dX8_buses_0_c (2, .lconst 1, 1) (List.mem_of_getElem? (i := 2) rfl)
theorem dX8_buses_3 : decode cX8_buses 3 = .ok (.ldc2_w 178, 3) := fchk_d fw_dX8_buses_0_c (3, .ldc2_w 178, 3) (List.mem_of_getElem? (i := 3) rfl)
theorem dX8_buses_6 : decode cX8_buses 6 = .ok (.invokestatic 128, 3) := fchk_d fw_dX8_buses_0_c (6, .invokestatic 128, 3) (List.mem_of_getElem? (i := 4) rfl)
theorem dX8_buses_9 : decode cX8_buses 9 = .ok (.ifCond .ne 10, 3) := fchk_d fw_dX8_buses_0_c (9, .ifCond .ne 10, 3) (List.mem_of_getElem? (i := 5) rfl)
theorem dX8_buses_12 : decode cX8_buses 12 = .ok (.aload_n 0, 1) := fchk_d fw_dX8_buses_0_c (12, .aload_n 0, 1) (List.mem_of_getElem? (i := 6) rfl)
theorem dX8_buses_13 : decode cX8_buses 13 = .ok (.bipush (-6), 2) := fchk_d fw_dX8_buses_0_c (13, .bipush (-6), 2) (List.mem_of_getElem? (i := 7) rfl)
theorem dX8_buses_15 : decode cX8_buses 15 = .ok (.invokevirtual 122, 3) := fchk_d fw_dX8_buses_0_c (15, .invokevirtual 122, 3) (List.mem_of_getElem? (i := 8) rfl)
theorem dX8_buses_18 : decode cX8_buses 18 = .ok (.ireturn, 1) := fchk_d fw_dX8_buses_0_c (18, .ireturn, 1) (List.mem_of_getElem? (i := 9) rfl)
theorem dX8_buses_19 : decode cX8_buses 19 = .ok (.aload_n 0, 1) := fchk_d fw_dX8_buses_0_c (19, .aload_n 0, 1) (List.mem_of_getElem? (i := 10) rfl)
theorem dX8_buses_20 : decode cX8_buses 20 = .ok (.getfield 44, 3) := fchk_d fw_dX8_buses_0_c (20, .getfield 44, 3) (List.mem_of_getElem? (i := 11) rfl)
theorem dX8_buses_23 : decode cX8_buses 23 = .ok (.istore_n 2, 1) := fchk_d fw_dX8_buses_0_c (23, .istore_n 2, 1) (List.mem_of_getElem? (i := 12) rfl)
theorem dX8_buses_24 : decode cX8_buses 24 = .ok (.aload_n 0, 1) := fchk_d fw_dX8_buses_0_c (24, .aload_n 0, 1) (List.mem_of_getElem? (i := 13) rfl)
theorem dX8_buses_25 : decode cX8_buses 25 = .ok (.iload_n 1, 1) := fchk_d fw_dX8_buses_0_c (25, .iload_n 1, 1) (List.mem_of_getElem? (i := 14) rfl)
theorem dX8_buses_26 : decode cX8_buses 26 = .ok (.putfield 44, 3) := fchk_d fw_dX8_buses_0_c (26, .putfield 44, 3) (List.mem_of_getElem? (i := 15) rfl)
theorem dX8_buses_29 : decode cX8_buses 29 = .ok (.iconst 0, 1) := fchk_d fw_dX8_buses_0_c (29, .iconst 0, 1) (List.mem_of_getElem? (i := 16) rfl)
theorem dX8_buses_30 : decode cX8_buses 30 = .ok (.istore_n 3, 1) := fchk_d fw_dX8_buses_0_c (30, .istore_n 3, 1) (List.mem_of_getElem? (i := 17) rfl)
theorem dX8_buses_31 : decode cX8_buses 31 = .ok (.iload_n 3, 1) := fchk_d fw_dX8_buses_0_c (31, .iload_n 3, 1) (List.mem_of_getElem? (i := 18) rfl)
theorem dX8_buses_32 : decode cX8_buses 32 = .ok (.bipush 12, 2) := fchk_d fw_dX8_buses_0_c (32, .bipush 12, 2) (List.mem_of_getElem? (i := 19) rfl)
theorem dX8_buses_34 : decode cX8_buses 34 = .ok (.if_icmp .ge 21, 3) := fchk_d fw_dX8_buses_0_c (34, .if_icmp .ge 21, 3) (List.mem_of_getElem? (i := 20) rfl)
theorem dX8_buses_37 : decode cX8_buses 37 = .ok (.iload_n 2, 1) := fchk_d fw_dX8_buses_0_c (37, .iload_n 2, 1) (List.mem_of_getElem? (i := 21) rfl)
theorem dX8_buses_38 : decode cX8_buses 38 = .ok (.iload_n 1, 1) := fchk_d fw_dX8_buses_0_c (38, .iload_n 1, 1) (List.mem_of_getElem? (i := 22) rfl)
theorem dX8_buses_39 : decode cX8_buses 39 = .ok (.if_icmp .eq 16, 3) := fchk_d fw_dX8_buses_0_c (39, .if_icmp .eq 16, 3) (List.mem_of_getElem? (i := 23) rfl)
theorem dX8_buses_42 : decode cX8_buses 42 = .ok (.aload_n 0, 1) := fchk_d fw_dX8_buses_0_c (42, .aload_n 0, 1) (List.mem_of_getElem? (i := 24) rfl)
theorem dX8_buses_43 : decode cX8_buses 43 = .ok (.getfield 66, 3) := fchk_d fw_dX8_buses_0_c (43, .getfield 66, 3) (List.mem_of_getElem? (i := 25) rfl)
theorem dX8_buses_46 : decode cX8_buses 46 = .ok (.iload_n 3, 1) := fchk_d fw_dX8_buses_0_c (46, .iload_n 3, 1) (List.mem_of_getElem? (i := 26) rfl)
theorem dX8_buses_47 : decode cX8_buses 47 = .ok (.iconst 0, 1) := fchk_d fw_dX8_buses_0_c (47, .iconst 0, 1) (List.mem_of_getElem? (i := 27) rfl)
theorem dX8_buses_48 : decode cX8_buses 48 = .ok (.bastore, 1) := fchk_d fw_dX8_buses_0_c (48, .bastore, 1) (List.mem_of_getElem? (i := 28) rfl)
theorem dX8_buses_49 : decode cX8_buses 49 = .ok (.iinc 3 1, 3) := by decide +kernel
def fw_dX8_buses_52 : List (Nat × Instr × Nat) := [(52, .goto (-21), 3), (55, .aload_n 0, 1), (56, .aload_n 0, 1), (57, .getfield 164, 3), (60, .ifCond .eq 12, 3), (63, .iload_n 2, 1), (64, .iload_n 1, 1), (65, .if_icmp .ne 7, 3), (68, .iconst 1, 1), (69, .goto 4, 3), (72, .iconst 0, 1), (73, .putfield 164, 3), (76, .iload_n 2, 1), (77, .ireturn, 1)]
theorem fw_dX8_buses_52_c : fchk 52 (cX8_buses.data.toList.drop 52) fw_dX8_buses_52 = true := by decide +kernel
theorem dX8_buses_52 : decode cX8_buses 52 = .ok (.goto (-21), 3) := fchk_d fw_dX8_buses_52_c (52, .goto (-21), 3) (List.mem_of_getElem? (i := 0) rfl)
theorem dX8_buses_55 : decode cX8_buses 55 = .ok (.aload_n 0, 1) := fchk_d fw_dX8_buses_52_c (55, .aload_n 0, 1) (List.mem_of_getElem? (i := 1) rfl)
theorem dX8_buses_56 : decode cX8_buses 56 = .ok (.aload_n 0, 1) := fchk_d fw_dX8_buses_52_c (56, .aload_n 0, 1) (List.mem_of_getElem? (i := 2) rfl)
theorem dX8_buses_57 : decode cX8_buses 57 = .ok (.getfield 164, 3) := fchk_d fw_dX8_buses_52_c (57, .getfield 164, 3) (List.mem_of_getElem? (i := 3) rfl)
theorem dX8_buses_60 : decode cX8_buses 60 = .ok (.ifCond .eq 12, 3) := fchk_d fw_dX8_buses_52_c (60, .ifCond .eq 12, 3) (List.mem_of_getElem? (i := 4) rfl)
theorem dX8_buses_63 : decode cX8_buses 63 = .ok (.iload_n 2, 1) := fchk_d fw_dX8_buses_52_c (63, .iload_n 2, 1) (List.mem_of_getElem? (i := 5) rfl)
theorem dX8_buses_64 : decode cX8_buses 64 = .ok (.iload_n 1, 1) := fchk_d fw_dX8_buses_52_c (64, .iload_n 1, 1) (List.mem_of_getElem? (i := 6) rfl)
theorem dX8_buses_65 : decode cX8_buses 65 = .ok (.if_icmp .ne 7, 3) := fchk_d fw_dX8_buses_52_c (65, .if_icmp .ne 7, 3) (List.mem_of_getElem? (i := 7) rfl)
theorem dX8_buses_68 : decode cX8_buses 68 = .ok (.iconst 1, 1) := fchk_d fw_dX8_buses_52_c (68, .iconst 1, 1) (List.mem_of_getElem? (i := 8) rfl)
theorem dX8_buses_69 : decode cX8_buses 69 = .ok (.goto 4, 3) := fchk_d fw_dX8_buses_52_c (69, .goto 4, 3) (List.mem_of_getElem? (i := 9) rfl)
theorem dX8_buses_72 : decode cX8_buses 72 = .ok (.iconst 0, 1) := fchk_d fw_dX8_buses_52_c (72, .iconst 0, 1) (List.mem_of_getElem? (i := 10) rfl)
theorem dX8_buses_73 : decode cX8_buses 73 = .ok (.putfield 164, 3) := fchk_d fw_dX8_buses_52_c (73, .putfield 164, 3) (List.mem_of_getElem? (i := 11) rfl)
theorem dX8_buses_76 : decode cX8_buses 76 = .ok (.iload_n 2, 1) := fchk_d fw_dX8_buses_52_c (76, .iload_n 2, 1) (List.mem_of_getElem? (i := 12) rfl)
theorem dX8_buses_77 : decode cX8_buses 77 = .ok (.ireturn, 1) := fchk_d fw_dX8_buses_52_c (77, .ireturn, 1) (List.mem_of_getElem? (i := 13) rfl)
def fw_dX8_reads_0 : List (Nat × Instr × Nat) := [(0, .iconst 0, 1), (1, .istore_n 2, 1), (2, .aload_n 0, 1), (3, .getfield 29, 3), (6, .iload_n 1, 1), (7, .iaload, 1), (8, .iconst 1, 1), (9, .if_icmp .lt 25, 3), (12, .aload_n 0, 1), (13, .getfield 29, 3), (16, .iload_n 1, 1), (17, .iaload, 1), (18, .bipush 8, 2), (20, .if_icmp .gt 14, 3), (23, .iload_n 2, 1), (24, .iconst 1, 1), (25, .aload_n 0, 1), (26, .getfield 35, 3), (29, .iload_n 1, 1), (30, .iaload, 1), (31, .ishl, 1), (32, .ior, 1), (33, .istore_n 2, 1), (34, .aload_n 0, 1), (35, .getfield 29, 3), (38, .iload_n 1, 1), (39, .iaload, 1), (40, .iconst 2, 1), (41, .if_icmp .lt 13, 3), (44, .aload_n 0, 1), (45, .getfield 29, 3), (48, .iload_n 1, 1), (49, .iaload, 1), (50, .iconst 5, 1), (51, .if_icmp .le 14, 3), (54, .aload_n 0, 1), (55, .getfield 29, 3), (58, .iload_n 1, 1), (59, .iaload, 1), (60, .bipush 8, 2)]
theorem fw_dX8_reads_0_c : fchk 0 (cX8_reads.data.toList.drop 0) fw_dX8_reads_0 = true := by decide +kernel
theorem dX8_reads_0 : decode cX8_reads 0 = .ok (.iconst 0, 1) := fchk_d fw_dX8_reads_0_c (0, .iconst 0, 1) (List.mem_of_getElem? (i := 0) rfl)
theorem dX8_reads_1 : decode cX8_reads 1 = .ok (.istore_n 2, 1) := fchk_d fw_dX8_reads_0_c (1, .istore_n 2, 1) (List.mem_of_getElem? (i := 1) rfl)
theorem dX8_reads_2 : decode cX8_reads 2 = .ok (.aload_n 0, 1) := fchk_d fw_dX8_reads_0_c (2, .aload_n 0, 1) (List.mem_of_getElem? (i := 2) rfl)
theorem dX8_reads_3 : decode cX8_reads 3 = .ok (.getfield 29, 3) := fchk_d fw_dX8_reads_0_c (3, .getfield 29, 3) (List.mem_of_getElem? (i := 3) rfl)
theorem dX8_reads_6 : decode cX8_reads 6 = .ok (.iload_n 1, 1) := fchk_d fw_dX8_reads_0_c (6, .iload_n 1, 1) (List.mem_of_getElem? (i := 4) rfl)
theorem dX8_reads_7 : decode cX8_reads 7 = .ok (.iaload, 1) := fchk_d fw_dX8_reads_0_c (7, .iaload, 1) (List.mem_of_getElem? (i := 5) rfl)
theorem dX8_reads_8 : decode cX8_reads 8 = .ok (.iconst 1, 1) := fchk_d fw_dX8_reads_0_c (8, .iconst 1, 1) (List.mem_of_getElem? (i := 6) rfl)
theorem dX8_reads_9 : decode cX8_reads 9 = .ok (.if_icmp .lt 25, 3) := fchk_d fw_dX8_reads_0_c (9, .if_icmp .lt 25, 3) (List.mem_of_getElem? (i := 7) rfl)
theorem dX8_reads_12 : decode cX8_reads 12 = .ok (.aload_n 0, 1) := fchk_d fw_dX8_reads_0_c (12, .aload_n 0, 1) (List.mem_of_getElem? (i := 8) rfl)
theorem dX8_reads_13 : decode cX8_reads 13 = .ok (.getfield 29, 3) := fchk_d fw_dX8_reads_0_c (13, .getfield 29, 3) (List.mem_of_getElem? (i := 9) rfl)
theorem dX8_reads_16 : decode cX8_reads 16 = .ok (.iload_n 1, 1) := fchk_d fw_dX8_reads_0_c (16, .iload_n 1, 1) (List.mem_of_getElem? (i := 10) rfl)
theorem dX8_reads_17 : decode cX8_reads 17 = .ok (.iaload, 1) := fchk_d fw_dX8_reads_0_c (17, .iaload, 1) (List.mem_of_getElem? (i := 11) rfl)
theorem dX8_reads_18 : decode cX8_reads 18 = .ok (.bipush 8, 2) := fchk_d fw_dX8_reads_0_c (18, .bipush 8, 2) (List.mem_of_getElem? (i := 12) rfl)
theorem dX8_reads_20 : decode cX8_reads 20 = .ok (.if_icmp .gt 14, 3) := fchk_d fw_dX8_reads_0_c (20, .if_icmp .gt 14, 3) (List.mem_of_getElem? (i := 13) rfl)
theorem dX8_reads_23 : decode cX8_reads 23 = .ok (.iload_n 2, 1) := fchk_d fw_dX8_reads_0_c (23, .iload_n 2, 1) (List.mem_of_getElem? (i := 14) rfl)
theorem dX8_reads_24 : decode cX8_reads 24 = .ok (.iconst 1, 1) := fchk_d fw_dX8_reads_0_c (24, .iconst 1, 1) (List.mem_of_getElem? (i := 15) rfl)
theorem dX8_reads_25 : decode cX8_reads 25 = .ok (.aload_n 0, 1) := fchk_d fw_dX8_reads_0_c (25, .aload_n 0, 1) (List.mem_of_getElem? (i := 16) rfl)
theorem dX8_reads_26 : decode cX8_reads 26 = .ok (.getfield 35, 3) := fchk_d fw_dX8_reads_0_c (26, .getfield 35, 3) (List.mem_of_getElem? (i := 17) rfl)
theorem dX8_reads_29 : decode cX8_reads 29 = .ok (.iload_n 1, 1) := fchk_d fw_dX8_reads_0_c (29, .iload_n 1, 1) (List.mem_of_getElem? (i := 18) rfl)
theorem dX8_reads_30 : decode cX8_reads 30 = .ok (.iaload, 1) := fchk_d fw_dX8_reads_0_c (30, .iaload, 1) (List.mem_of_getElem? (i := 19) rfl)
theorem dX8_reads_31 : decode cX8_reads 31 = .ok (.ishl, 1) := fchk_d fw_dX8_reads_0_c (31, .ishl, 1) (List.mem_of_getElem? (i := 20) rfl)
theorem dX8_reads_32 : decode cX8_reads 32 = .ok (.ior, 1) := fchk_d fw_dX8_reads_0_c (32, .ior, 1) (List.mem_of_getElem? (i := 21) rfl)
theorem dX8_reads_33 : decode cX8_reads 33 = .ok (.istore_n 2, 1) := fchk_d fw_dX8_reads_0_c (33, .istore_n 2, 1) (List.mem_of_getElem? (i := 22) rfl)
theorem dX8_reads_34 : decode cX8_reads 34 = .ok (.aload_n 0, 1) := fchk_d fw_dX8_reads_0_c (34, .aload_n 0, 1) (List.mem_of_getElem? (i := 23) rfl)
theorem dX8_reads_35 : decode cX8_reads 35 = .ok (.getfield 29, 3) := fchk_d fw_dX8_reads_0_c (35, .getfield 29, 3) (List.mem_of_getElem? (i := 24) rfl)
theorem dX8_reads_38 : decode cX8_reads 38 = .ok (.iload_n 1, 1) := fchk_d fw_dX8_reads_0_c (38, .iload_n 1, 1) (List.mem_of_getElem? (i := 25) rfl)
theorem dX8_reads_39 : decode cX8_reads 39 = .ok (.iaload, 1) := fchk_d fw_dX8_reads_0_c (39, .iaload, 1) (List.mem_of_getElem? (i := 26) rfl)
theorem dX8_reads_40 : decode cX8_reads 40 = .ok (.iconst 2, 1) := fchk_d fw_dX8_reads_0_c (40, .iconst 2, 1) (List.mem_of_getElem? (i := 27) rfl)
theorem dX8_reads_41 : decode cX8_reads 41 = .ok (.if_icmp .lt 13, 3) := fchk_d fw_dX8_reads_0_c (41, .if_icmp .lt 13, 3) (List.mem_of_getElem? (i := 28) rfl)
theorem dX8_reads_44 : decode cX8_reads 44 = .ok (.aload_n 0, 1) := fchk_d fw_dX8_reads_0_c (44, .aload_n 0, 1) (List.mem_of_getElem? (i := 29) rfl)
theorem dX8_reads_45 : decode cX8_reads 45 = .ok (.getfield 29, 3) := fchk_d fw_dX8_reads_0_c (45, .getfield 29, 3) (List.mem_of_getElem? (i := 30) rfl)
theorem dX8_reads_48 : decode cX8_reads 48 = .ok (.iload_n 1, 1) := fchk_d fw_dX8_reads_0_c (48, .iload_n 1, 1) (List.mem_of_getElem? (i := 31) rfl)
theorem dX8_reads_49 : decode cX8_reads 49 = .ok (.iaload, 1) := fchk_d fw_dX8_reads_0_c (49, .iaload, 1) (List.mem_of_getElem? (i := 32) rfl)
theorem dX8_reads_50 : decode cX8_reads 50 = .ok (.iconst 5, 1) := fchk_d fw_dX8_reads_0_c (50, .iconst 5, 1) (List.mem_of_getElem? (i := 33) rfl)
theorem dX8_reads_51 : decode cX8_reads 51 = .ok (.if_icmp .le 14, 3) := fchk_d fw_dX8_reads_0_c (51, .if_icmp .le 14, 3) (List.mem_of_getElem? (i := 34) rfl)
theorem dX8_reads_54 : decode cX8_reads 54 = .ok (.aload_n 0, 1) := fchk_d fw_dX8_reads_0_c (54, .aload_n 0, 1) (List.mem_of_getElem? (i := 35) rfl)
theorem dX8_reads_55 : decode cX8_reads 55 = .ok (.getfield 29, 3) := fchk_d fw_dX8_reads_0_c (55, .getfield 29, 3) (List.mem_of_getElem? (i := 36) rfl)
theorem dX8_reads_58 : decode cX8_reads 58 = .ok (.iload_n 1, 1) := fchk_d fw_dX8_reads_0_c (58, .iload_n 1, 1) (List.mem_of_getElem? (i := 37) rfl)
theorem dX8_reads_59 : decode cX8_reads 59 = .ok (.iaload, 1) := fchk_d fw_dX8_reads_0_c (59, .iaload, 1) (List.mem_of_getElem? (i := 38) rfl)
theorem dX8_reads_60 : decode cX8_reads 60 = .ok (.bipush 8, 2) := fchk_d fw_dX8_reads_0_c (60, .bipush 8, 2) (List.mem_of_getElem? (i := 39) rfl)
def fw_dX8_reads_62 : List (Nat × Instr × Nat) := [(62, .if_icmp .ne 14, 3), (65, .iload_n 2, 1), (66, .iconst 1, 1), (67, .aload_n 0, 1), (68, .getfield 38, 3), (71, .iload_n 1, 1), (72, .iaload, 1), (73, .ishl, 1), (74, .ior, 1), (75, .istore_n 2, 1), (76, .aload_n 0, 1), (77, .getfield 29, 3), (80, .iload_n 1, 1), (81, .iaload, 1), (82, .bipush 7, 2), (84, .if_icmp .ne 9, 3), (87, .iload_n 2, 1), (88, .sipush 1024, 3), (91, .ior, 1), (92, .istore_n 2, 1), (93, .aload_n 0, 1), (94, .getfield 29, 3), (97, .iload_n 1, 1), (98, .iaload, 1), (99, .bipush 9, 2), (101, .if_icmp .lt 17, 3), (104, .iload_n 2, 1), (105, .iconst 1, 1), (106, .bipush 8, 2), (108, .aload_n 0, 1), (109, .getfield 35, 3), (112, .iload_n 1, 1), (113, .iaload, 1), (114, .iadd, 1), (115, .ishl, 1), (116, .ior, 1), (117, .istore_n 2, 1), (118, .iload_n 2, 1), (119, .ireturn, 1)]
theorem fw_dX8_reads_62_c : fchk 62 (cX8_reads.data.toList.drop 62) fw_dX8_reads_62 = true := by decide +kernel
theorem dX8_reads_62 : decode cX8_reads 62 = .ok (.if_icmp .ne 14, 3) := fchk_d fw_dX8_reads_62_c (62, .if_icmp .ne 14, 3) (List.mem_of_getElem? (i := 0) rfl)
theorem dX8_reads_65 : decode cX8_reads 65 = .ok (.iload_n 2, 1) := fchk_d fw_dX8_reads_62_c (65, .iload_n 2, 1) (List.mem_of_getElem? (i := 1) rfl)
theorem dX8_reads_66 : decode cX8_reads 66 = .ok (.iconst 1, 1) := fchk_d fw_dX8_reads_62_c (66, .iconst 1, 1) (List.mem_of_getElem? (i := 2) rfl)
theorem dX8_reads_67 : decode cX8_reads 67 = .ok (.aload_n 0, 1) := fchk_d fw_dX8_reads_62_c (67, .aload_n 0, 1) (List.mem_of_getElem? (i := 3) rfl)
theorem dX8_reads_68 : decode cX8_reads 68 = .ok (.getfield 38, 3) := fchk_d fw_dX8_reads_62_c (68, .getfield 38, 3) (List.mem_of_getElem? (i := 4) rfl)
theorem dX8_reads_71 : decode cX8_reads 71 = .ok (.iload_n 1, 1) := fchk_d fw_dX8_reads_62_c (71, .iload_n 1, 1) (List.mem_of_getElem? (i := 5) rfl)
theorem dX8_reads_72 : decode cX8_reads 72 = .ok (.iaload, 1) := fchk_d fw_dX8_reads_62_c (72, .iaload, 1) (List.mem_of_getElem? (i := 6) rfl)
theorem dX8_reads_73 : decode cX8_reads 73 = .ok (.ishl, 1) := fchk_d fw_dX8_reads_62_c (73, .ishl, 1) (List.mem_of_getElem? (i := 7) rfl)
theorem dX8_reads_74 : decode cX8_reads 74 = .ok (.ior, 1) := fchk_d fw_dX8_reads_62_c (74, .ior, 1) (List.mem_of_getElem? (i := 8) rfl)
theorem dX8_reads_75 : decode cX8_reads 75 = .ok (.istore_n 2, 1) := fchk_d fw_dX8_reads_62_c (75, .istore_n 2, 1) (List.mem_of_getElem? (i := 9) rfl)
theorem dX8_reads_76 : decode cX8_reads 76 = .ok (.aload_n 0, 1) := fchk_d fw_dX8_reads_62_c (76, .aload_n 0, 1) (List.mem_of_getElem? (i := 10) rfl)
theorem dX8_reads_77 : decode cX8_reads 77 = .ok (.getfield 29, 3) := fchk_d fw_dX8_reads_62_c (77, .getfield 29, 3) (List.mem_of_getElem? (i := 11) rfl)
theorem dX8_reads_80 : decode cX8_reads 80 = .ok (.iload_n 1, 1) := fchk_d fw_dX8_reads_62_c (80, .iload_n 1, 1) (List.mem_of_getElem? (i := 12) rfl)
theorem dX8_reads_81 : decode cX8_reads 81 = .ok (.iaload, 1) := fchk_d fw_dX8_reads_62_c (81, .iaload, 1) (List.mem_of_getElem? (i := 13) rfl)
theorem dX8_reads_82 : decode cX8_reads 82 = .ok (.bipush 7, 2) := fchk_d fw_dX8_reads_62_c (82, .bipush 7, 2) (List.mem_of_getElem? (i := 14) rfl)
theorem dX8_reads_84 : decode cX8_reads 84 = .ok (.if_icmp .ne 9, 3) := fchk_d fw_dX8_reads_62_c (84, .if_icmp .ne 9, 3) (List.mem_of_getElem? (i := 15) rfl)
theorem dX8_reads_87 : decode cX8_reads 87 = .ok (.iload_n 2, 1) := fchk_d fw_dX8_reads_62_c (87, .iload_n 2, 1) (List.mem_of_getElem? (i := 16) rfl)
theorem dX8_reads_88 : decode cX8_reads 88 = .ok (.sipush 1024, 3) := fchk_d fw_dX8_reads_62_c (88, .sipush 1024, 3) (List.mem_of_getElem? (i := 17) rfl)
theorem dX8_reads_91 : decode cX8_reads 91 = .ok (.ior, 1) := fchk_d fw_dX8_reads_62_c (91, .ior, 1) (List.mem_of_getElem? (i := 18) rfl)
theorem dX8_reads_92 : decode cX8_reads 92 = .ok (.istore_n 2, 1) := fchk_d fw_dX8_reads_62_c (92, .istore_n 2, 1) (List.mem_of_getElem? (i := 19) rfl)
theorem dX8_reads_93 : decode cX8_reads 93 = .ok (.aload_n 0, 1) := fchk_d fw_dX8_reads_62_c (93, .aload_n 0, 1) (List.mem_of_getElem? (i := 20) rfl)
theorem dX8_reads_94 : decode cX8_reads 94 = .ok (.getfield 29, 3) := fchk_d fw_dX8_reads_62_c (94, .getfield 29, 3) (List.mem_of_getElem? (i := 21) rfl)
theorem dX8_reads_97 : decode cX8_reads 97 = .ok (.iload_n 1, 1) := fchk_d fw_dX8_reads_62_c (97, .iload_n 1, 1) (List.mem_of_getElem? (i := 22) rfl)
theorem dX8_reads_98 : decode cX8_reads 98 = .ok (.iaload, 1) := fchk_d fw_dX8_reads_62_c (98, .iaload, 1) (List.mem_of_getElem? (i := 23) rfl)
theorem dX8_reads_99 : decode cX8_reads 99 = .ok (.bipush 9, 2) := fchk_d fw_dX8_reads_62_c (99, .bipush 9, 2) (List.mem_of_getElem? (i := 24) rfl)
theorem dX8_reads_101 : decode cX8_reads 101 = .ok (.if_icmp .lt 17, 3) := fchk_d fw_dX8_reads_62_c (101, .if_icmp .lt 17, 3) (List.mem_of_getElem? (i := 25) rfl)
theorem dX8_reads_104 : decode cX8_reads 104 = .ok (.iload_n 2, 1) := fchk_d fw_dX8_reads_62_c (104, .iload_n 2, 1) (List.mem_of_getElem? (i := 26) rfl)
theorem dX8_reads_105 : decode cX8_reads 105 = .ok (.iconst 1, 1) := fchk_d fw_dX8_reads_62_c (105, .iconst 1, 1) (List.mem_of_getElem? (i := 27) rfl)
theorem dX8_reads_106 : decode cX8_reads 106 = .ok (.bipush 8, 2) := fchk_d fw_dX8_reads_62_c (106, .bipush 8, 2) (List.mem_of_getElem? (i := 28) rfl)
theorem dX8_reads_108 : decode cX8_reads 108 = .ok (.aload_n 0, 1) := fchk_d fw_dX8_reads_62_c (108, .aload_n 0, 1) (List.mem_of_getElem? (i := 29) rfl)
theorem dX8_reads_109 : decode cX8_reads 109 = .ok (.getfield 35, 3) := fchk_d fw_dX8_reads_62_c (109, .getfield 35, 3) (List.mem_of_getElem? (i := 30) rfl)
theorem dX8_reads_112 : decode cX8_reads 112 = .ok (.iload_n 1, 1) := fchk_d fw_dX8_reads_62_c (112, .iload_n 1, 1) (List.mem_of_getElem? (i := 31) rfl)
theorem dX8_reads_113 : decode cX8_reads 113 = .ok (.iaload, 1) := fchk_d fw_dX8_reads_62_c (113, .iaload, 1) (List.mem_of_getElem? (i := 32) rfl)
theorem dX8_reads_114 : decode cX8_reads 114 = .ok (.iadd, 1) := fchk_d fw_dX8_reads_62_c (114, .iadd, 1) (List.mem_of_getElem? (i := 33) rfl)
theorem dX8_reads_115 : decode cX8_reads 115 = .ok (.ishl, 1) := fchk_d fw_dX8_reads_62_c (115, .ishl, 1) (List.mem_of_getElem? (i := 34) rfl)
theorem dX8_reads_116 : decode cX8_reads 116 = .ok (.ior, 1) := fchk_d fw_dX8_reads_62_c (116, .ior, 1) (List.mem_of_getElem? (i := 35) rfl)
theorem dX8_reads_117 : decode cX8_reads 117 = .ok (.istore_n 2, 1) := fchk_d fw_dX8_reads_62_c (117, .istore_n 2, 1) (List.mem_of_getElem? (i := 36) rfl)
theorem dX8_reads_118 : decode cX8_reads 118 = .ok (.iload_n 2, 1) := fchk_d fw_dX8_reads_62_c (118, .iload_n 2, 1) (List.mem_of_getElem? (i := 37) rfl)
theorem dX8_reads_119 : decode cX8_reads 119 = .ok (.ireturn, 1) := fchk_d fw_dX8_reads_62_c (119, .ireturn, 1) (List.mem_of_getElem? (i := 38) rfl)
set_option maxRecDepth 20000 in
theorem ggX8_writes_X8_hasD : GoodIn wsX8_writes wsX8_hasD := goodIn_r _ [6] rfl (by decide +kernel)
set_option maxRecDepth 20000 in
theorem gX8_writes_X8_hasD : GoodIn wsX8_writes (va_wsS RX8 145 yX8_hasD wsX8_hasD) := goodIn_app (goodIn_of _ (by decide +kernel)) ggX8_writes_X8_hasD
def fw_dX8_writes_0 : List (Nat × Instr × Nat) := [(0, .aload_n 0, 1), (1, .getfield 29, 3), (4, .iload_n 1, 1), (5, .iaload, 1), (6, .invokestatic 145, 3), (9, .ifCond .eq 14, 3), (12, .iconst 1, 1), (13, .aload_n 0, 1), (14, .getfield 32, 3), (17, .iload_n 1, 1), (18, .iaload, 1), (19, .ishl, 1), (20, .goto 4, 3), (23, .iconst 0, 1), (24, .istore_n 2, 1), (25, .aload_n 0, 1), (26, .getfield 29, 3), (29, .iload_n 1, 1), (30, .iaload, 1), (31, .iconst 2, 1), (32, .if_icmp .lt 19, 3), (35, .aload_n 0, 1), (36, .getfield 29, 3), (39, .iload_n 1, 1), (40, .iaload, 1), (41, .iconst 5, 1), (42, .if_icmp .gt 9, 3), (45, .iload_n 2, 1), (46, .sipush 768, 3), (49, .ior, 1), (50, .istore_n 2, 1), (51, .aload_n 0, 1), (52, .getfield 29, 3), (55, .iload_n 1, 1), (56, .iaload, 1), (57, .bipush 8, 2), (59, .if_icmp .ne 9, 3), (62, .iload_n 2, 1), (63, .sipush 1024, 3), (66, .ior, 1)]
theorem fw_dX8_writes_0_c : fchk 0 (cX8_writes.data.toList.drop 0) fw_dX8_writes_0 = true := by decide +kernel
theorem dX8_writes_0 : decode cX8_writes 0 = .ok (.aload_n 0, 1) := fchk_d fw_dX8_writes_0_c (0, .aload_n 0, 1) (List.mem_of_getElem? (i := 0) rfl)
theorem dX8_writes_1 : decode cX8_writes 1 = .ok (.getfield 29, 3) := fchk_d fw_dX8_writes_0_c (1, .getfield 29, 3) (List.mem_of_getElem? (i := 1) rfl)
theorem dX8_writes_4 : decode cX8_writes 4 = .ok (.iload_n 1, 1) := fchk_d fw_dX8_writes_0_c (4, .iload_n 1, 1) (List.mem_of_getElem? (i := 2) rfl)
theorem dX8_writes_5 : decode cX8_writes 5 = .ok (.iaload, 1) := fchk_d fw_dX8_writes_0_c (5, .iaload, 1) (List.mem_of_getElem? (i := 3) rfl)
theorem dX8_writes_6 : decode cX8_writes 6 = .ok (.invokestatic 145, 3) := fchk_d fw_dX8_writes_0_c (6, .invokestatic 145, 3) (List.mem_of_getElem? (i := 4) rfl)
theorem dX8_writes_9 : decode cX8_writes 9 = .ok (.ifCond .eq 14, 3) := fchk_d fw_dX8_writes_0_c (9, .ifCond .eq 14, 3) (List.mem_of_getElem? (i := 5) rfl)
theorem dX8_writes_12 : decode cX8_writes 12 = .ok (.iconst 1, 1) := fchk_d fw_dX8_writes_0_c (12, .iconst 1, 1) (List.mem_of_getElem? (i := 6) rfl)
theorem dX8_writes_13 : decode cX8_writes 13 = .ok (.aload_n 0, 1) := fchk_d fw_dX8_writes_0_c (13, .aload_n 0, 1) (List.mem_of_getElem? (i := 7) rfl)
theorem dX8_writes_14 : decode cX8_writes 14 = .ok (.getfield 32, 3) := fchk_d fw_dX8_writes_0_c (14, .getfield 32, 3) (List.mem_of_getElem? (i := 8) rfl)
theorem dX8_writes_17 : decode cX8_writes 17 = .ok (.iload_n 1, 1) := fchk_d fw_dX8_writes_0_c (17, .iload_n 1, 1) (List.mem_of_getElem? (i := 9) rfl)
theorem dX8_writes_18 : decode cX8_writes 18 = .ok (.iaload, 1) := fchk_d fw_dX8_writes_0_c (18, .iaload, 1) (List.mem_of_getElem? (i := 10) rfl)
theorem dX8_writes_19 : decode cX8_writes 19 = .ok (.ishl, 1) := fchk_d fw_dX8_writes_0_c (19, .ishl, 1) (List.mem_of_getElem? (i := 11) rfl)
theorem dX8_writes_20 : decode cX8_writes 20 = .ok (.goto 4, 3) := fchk_d fw_dX8_writes_0_c (20, .goto 4, 3) (List.mem_of_getElem? (i := 12) rfl)
theorem dX8_writes_23 : decode cX8_writes 23 = .ok (.iconst 0, 1) := fchk_d fw_dX8_writes_0_c (23, .iconst 0, 1) (List.mem_of_getElem? (i := 13) rfl)
theorem dX8_writes_24 : decode cX8_writes 24 = .ok (.istore_n 2, 1) := fchk_d fw_dX8_writes_0_c (24, .istore_n 2, 1) (List.mem_of_getElem? (i := 14) rfl)
theorem dX8_writes_25 : decode cX8_writes 25 = .ok (.aload_n 0, 1) := fchk_d fw_dX8_writes_0_c (25, .aload_n 0, 1) (List.mem_of_getElem? (i := 15) rfl)
theorem dX8_writes_26 : decode cX8_writes 26 = .ok (.getfield 29, 3) := fchk_d fw_dX8_writes_0_c (26, .getfield 29, 3) (List.mem_of_getElem? (i := 16) rfl)
theorem dX8_writes_29 : decode cX8_writes 29 = .ok (.iload_n 1, 1) := fchk_d fw_dX8_writes_0_c (29, .iload_n 1, 1) (List.mem_of_getElem? (i := 17) rfl)
theorem dX8_writes_30 : decode cX8_writes 30 = .ok (.iaload, 1) := fchk_d fw_dX8_writes_0_c (30, .iaload, 1) (List.mem_of_getElem? (i := 18) rfl)
theorem dX8_writes_31 : decode cX8_writes 31 = .ok (.iconst 2, 1) := fchk_d fw_dX8_writes_0_c (31, .iconst 2, 1) (List.mem_of_getElem? (i := 19) rfl)
theorem dX8_writes_32 : decode cX8_writes 32 = .ok (.if_icmp .lt 19, 3) := fchk_d fw_dX8_writes_0_c (32, .if_icmp .lt 19, 3) (List.mem_of_getElem? (i := 20) rfl)
theorem dX8_writes_35 : decode cX8_writes 35 = .ok (.aload_n 0, 1) := fchk_d fw_dX8_writes_0_c (35, .aload_n 0, 1) (List.mem_of_getElem? (i := 21) rfl)
theorem dX8_writes_36 : decode cX8_writes 36 = .ok (.getfield 29, 3) := fchk_d fw_dX8_writes_0_c (36, .getfield 29, 3) (List.mem_of_getElem? (i := 22) rfl)
theorem dX8_writes_39 : decode cX8_writes 39 = .ok (.iload_n 1, 1) := fchk_d fw_dX8_writes_0_c (39, .iload_n 1, 1) (List.mem_of_getElem? (i := 23) rfl)
theorem dX8_writes_40 : decode cX8_writes 40 = .ok (.iaload, 1) := fchk_d fw_dX8_writes_0_c (40, .iaload, 1) (List.mem_of_getElem? (i := 24) rfl)
theorem dX8_writes_41 : decode cX8_writes 41 = .ok (.iconst 5, 1) := fchk_d fw_dX8_writes_0_c (41, .iconst 5, 1) (List.mem_of_getElem? (i := 25) rfl)
theorem dX8_writes_42 : decode cX8_writes 42 = .ok (.if_icmp .gt 9, 3) := fchk_d fw_dX8_writes_0_c (42, .if_icmp .gt 9, 3) (List.mem_of_getElem? (i := 26) rfl)
theorem dX8_writes_45 : decode cX8_writes 45 = .ok (.iload_n 2, 1) := fchk_d fw_dX8_writes_0_c (45, .iload_n 2, 1) (List.mem_of_getElem? (i := 27) rfl)
theorem dX8_writes_46 : decode cX8_writes 46 = .ok (.sipush 768, 3) := fchk_d fw_dX8_writes_0_c (46, .sipush 768, 3) (List.mem_of_getElem? (i := 28) rfl)
theorem dX8_writes_49 : decode cX8_writes 49 = .ok (.ior, 1) := fchk_d fw_dX8_writes_0_c (49, .ior, 1) (List.mem_of_getElem? (i := 29) rfl)
theorem dX8_writes_50 : decode cX8_writes 50 = .ok (.istore_n 2, 1) := fchk_d fw_dX8_writes_0_c (50, .istore_n 2, 1) (List.mem_of_getElem? (i := 30) rfl)
theorem dX8_writes_51 : decode cX8_writes 51 = .ok (.aload_n 0, 1) := fchk_d fw_dX8_writes_0_c (51, .aload_n 0, 1) (List.mem_of_getElem? (i := 31) rfl)
theorem dX8_writes_52 : decode cX8_writes 52 = .ok (.getfield 29, 3) := fchk_d fw_dX8_writes_0_c (52, .getfield 29, 3) (List.mem_of_getElem? (i := 32) rfl)
theorem dX8_writes_55 : decode cX8_writes 55 = .ok (.iload_n 1, 1) := fchk_d fw_dX8_writes_0_c (55, .iload_n 1, 1) (List.mem_of_getElem? (i := 33) rfl)
theorem dX8_writes_56 : decode cX8_writes 56 = .ok (.iaload, 1) := fchk_d fw_dX8_writes_0_c (56, .iaload, 1) (List.mem_of_getElem? (i := 34) rfl)
theorem dX8_writes_57 : decode cX8_writes 57 = .ok (.bipush 8, 2) := fchk_d fw_dX8_writes_0_c (57, .bipush 8, 2) (List.mem_of_getElem? (i := 35) rfl)
theorem dX8_writes_59 : decode cX8_writes 59 = .ok (.if_icmp .ne 9, 3) := fchk_d fw_dX8_writes_0_c (59, .if_icmp .ne 9, 3) (List.mem_of_getElem? (i := 36) rfl)
theorem dX8_writes_62 : decode cX8_writes 62 = .ok (.iload_n 2, 1) := fchk_d fw_dX8_writes_0_c (62, .iload_n 2, 1) (List.mem_of_getElem? (i := 37) rfl)
theorem dX8_writes_63 : decode cX8_writes 63 = .ok (.sipush 1024, 3) := fchk_d fw_dX8_writes_0_c (63, .sipush 1024, 3) (List.mem_of_getElem? (i := 38) rfl)
theorem dX8_writes_66 : decode cX8_writes 66 = .ok (.ior, 1) := fchk_d fw_dX8_writes_0_c (66, .ior, 1) (List.mem_of_getElem? (i := 39) rfl)
def fw_dX8_writes_67 : List (Nat × Instr × Nat) := [(67, .istore_n 2, 1), (68, .iload_n 2, 1), (69, .ireturn, 1)]
theorem fw_dX8_writes_67_c : fchk 67 (cX8_writes.data.toList.drop 67) fw_dX8_writes_67 = true := by decide +kernel
theorem dX8_writes_67 : decode cX8_writes 67 = .ok (.istore_n 2, 1) := fchk_d fw_dX8_writes_67_c (67, .istore_n 2, 1) (List.mem_of_getElem? (i := 0) rfl)
theorem dX8_writes_68 : decode cX8_writes 68 = .ok (.iload_n 2, 1) := fchk_d fw_dX8_writes_67_c (68, .iload_n 2, 1) (List.mem_of_getElem? (i := 1) rfl)
theorem dX8_writes_69 : decode cX8_writes 69 = .ok (.ireturn, 1) := fchk_d fw_dX8_writes_67_c (69, .ireturn, 1) (List.mem_of_getElem? (i := 2) rfl)
set_option maxRecDepth 20000 in
theorem ggX8_needed_X8_writes : GoodIn wsX8_needed wsX8_writes := goodIn_r _ [6, 1, 7, 8, 9, 5, 10, 20, 21, 22, 23, 24, 25, 26, 27, 28, 29, 30, 31, 32, 33, 34, 35, 36, 37, 38, 39, 40, 41, 42, 43, 44, 45, 46, 47, 48, 49, 50, 51, 52, 53, 54, 55, 56, 57, 58, 59, 60, 61, 62, 63] rfl (by decide +kernel)
set_option maxRecDepth 20000 in
theorem gX8_needed_X8_writes : GoodIn wsX8_needed (wsV RX8 180 RX8 yX8_writes wsX8_writes) := goodIn_app (goodIn_of _ (by decide +kernel)) ggX8_needed_X8_writes
set_option maxRecDepth 20000 in
theorem ggX8_needed_X8_reads : GoodIn wsX8_needed wsX8_reads := goodIn_r _ [14, 1, 15, 16, 20, 21, 22, 23, 24, 25, 26, 27, 28, 29, 30, 31, 32, 33, 34, 35, 36, 37, 38, 39, 40, 41, 42, 43, 44, 45, 46, 47, 48, 49, 50, 51, 52, 53, 54, 55, 56, 57, 58, 59, 60, 61, 62, 63] rfl (by decide +kernel)
set_option maxRecDepth 20000 in
theorem gX8_needed_X8_reads : GoodIn wsX8_needed (wsV RX8 183 RX8 yX8_reads wsX8_reads) := goodIn_app (goodIn_of _ (by decide +kernel)) ggX8_needed_X8_reads
set_option maxRecDepth 20000 in
theorem ggX8_needed_X8_canTrap : GoodIn wsX8_needed wsX8_canTrap := goodIn_r _ [19] rfl (by decide +kernel)
set_option maxRecDepth 20000 in
theorem gX8_needed_X8_canTrap : GoodIn wsX8_needed (va_wsS RX8 175 yX8_canTrap wsX8_canTrap) := goodIn_app (goodIn_of _ (by decide +kernel)) ggX8_needed_X8_canTrap
def fw_dX8_needed_0 : List (Nat × Instr × Nat) := [(0, .aload_n 0, 1), (1, .iload_n 1, 1), (2, .invokevirtual 180, 3), (5, .aload_n 0, 1), (6, .iload_n 2, 1), (7, .invokevirtual 183, 3), (10, .aload_n 0, 1), (11, .iload_n 2, 1), (12, .invokevirtual 180, 3), (15, .ior, 1), (16, .iand, 1), (17, .ifCond .ne 46, 3), (20, .aload_n 0, 1), (21, .getfield 29, 3), (24, .iload_n 1, 1), (25, .iaload, 1), (26, .bipush 9, 2), (28, .if_icmp .eq 35, 3), (31, .aload_n 0, 1), (32, .getfield 29, 3), (35, .iload_n 1, 1), (36, .iaload, 1), (37, .invokestatic 175, 3), (40, .ifCond .eq 25, 3), (43, .aload_n 0, 1), (44, .iload_n 2, 1), (45, .invokevirtual 180, 3), (48, .ifCond .ne 15, 3), (51, .aload_n 0, 1), (52, .getfield 29, 3), (55, .iload_n 2, 1), (56, .iaload, 1), (57, .invokestatic 175, 3), (60, .ifCond .eq 5, 3), (63, .iconst 2, 1), (64, .ireturn, 1), (65, .aload_n 0, 1), (66, .iload_n 1, 1), (67, .invokevirtual 183, 3), (70, .aload_n 0, 1)]
theorem fw_dX8_needed_0_c : fchk 0 (cX8_needed.data.toList.drop 0) fw_dX8_needed_0 = true := by decide +kernel
theorem dX8_needed_0 : decode cX8_needed 0 = .ok (.aload_n 0, 1) := fchk_d fw_dX8_needed_0_c (0, .aload_n 0, 1) (List.mem_of_getElem? (i := 0) rfl)
theorem dX8_needed_1 : decode cX8_needed 1 = .ok (.iload_n 1, 1) := fchk_d fw_dX8_needed_0_c (1, .iload_n 1, 1) (List.mem_of_getElem? (i := 1) rfl)
theorem dX8_needed_2 : decode cX8_needed 2 = .ok (.invokevirtual 180, 3) := fchk_d fw_dX8_needed_0_c (2, .invokevirtual 180, 3) (List.mem_of_getElem? (i := 2) rfl)
theorem dX8_needed_5 : decode cX8_needed 5 = .ok (.aload_n 0, 1) := fchk_d fw_dX8_needed_0_c (5, .aload_n 0, 1) (List.mem_of_getElem? (i := 3) rfl)
theorem dX8_needed_6 : decode cX8_needed 6 = .ok (.iload_n 2, 1) := fchk_d fw_dX8_needed_0_c (6, .iload_n 2, 1) (List.mem_of_getElem? (i := 4) rfl)
theorem dX8_needed_7 : decode cX8_needed 7 = .ok (.invokevirtual 183, 3) := fchk_d fw_dX8_needed_0_c (7, .invokevirtual 183, 3) (List.mem_of_getElem? (i := 5) rfl)
theorem dX8_needed_10 : decode cX8_needed 10 = .ok (.aload_n 0, 1) := fchk_d fw_dX8_needed_0_c (10, .aload_n 0, 1) (List.mem_of_getElem? (i := 6) rfl)
theorem dX8_needed_11 : decode cX8_needed 11 = .ok (.iload_n 2, 1) := fchk_d fw_dX8_needed_0_c (11, .iload_n 2, 1) (List.mem_of_getElem? (i := 7) rfl)
theorem dX8_needed_12 : decode cX8_needed 12 = .ok (.invokevirtual 180, 3) := fchk_d fw_dX8_needed_0_c (12, .invokevirtual 180, 3) (List.mem_of_getElem? (i := 8) rfl)
theorem dX8_needed_15 : decode cX8_needed 15 = .ok (.ior, 1) := fchk_d fw_dX8_needed_0_c (15, .ior, 1) (List.mem_of_getElem? (i := 9) rfl)
theorem dX8_needed_16 : decode cX8_needed 16 = .ok (.iand, 1) := fchk_d fw_dX8_needed_0_c (16, .iand, 1) (List.mem_of_getElem? (i := 10) rfl)
theorem dX8_needed_17 : decode cX8_needed 17 = .ok (.ifCond .ne 46, 3) := fchk_d fw_dX8_needed_0_c (17, .ifCond .ne 46, 3) (List.mem_of_getElem? (i := 11) rfl)
theorem dX8_needed_20 : decode cX8_needed 20 = .ok (.aload_n 0, 1) := fchk_d fw_dX8_needed_0_c (20, .aload_n 0, 1) (List.mem_of_getElem? (i := 12) rfl)
theorem dX8_needed_21 : decode cX8_needed 21 = .ok (.getfield 29, 3) := fchk_d fw_dX8_needed_0_c (21, .getfield 29, 3) (List.mem_of_getElem? (i := 13) rfl)
theorem dX8_needed_24 : decode cX8_needed 24 = .ok (.iload_n 1, 1) := fchk_d fw_dX8_needed_0_c (24, .iload_n 1, 1) (List.mem_of_getElem? (i := 14) rfl)
theorem dX8_needed_25 : decode cX8_needed 25 = .ok (.iaload, 1) := fchk_d fw_dX8_needed_0_c (25, .iaload, 1) (List.mem_of_getElem? (i := 15) rfl)
theorem dX8_needed_26 : decode cX8_needed 26 = .ok (.bipush 9, 2) := fchk_d fw_dX8_needed_0_c (26, .bipush 9, 2) (List.mem_of_getElem? (i := 16) rfl)
theorem dX8_needed_28 : decode cX8_needed 28 = .ok (.if_icmp .eq 35, 3) := fchk_d fw_dX8_needed_0_c (28, .if_icmp .eq 35, 3) (List.mem_of_getElem? (i := 17) rfl)
theorem dX8_needed_31 : decode cX8_needed 31 = .ok (.aload_n 0, 1) := fchk_d fw_dX8_needed_0_c (31, .aload_n 0, 1) (List.mem_of_getElem? (i := 18) rfl)
theorem dX8_needed_32 : decode cX8_needed 32 = .ok (.getfield 29, 3) := fchk_d fw_dX8_needed_0_c (32, .getfield 29, 3) (List.mem_of_getElem? (i := 19) rfl)
theorem dX8_needed_35 : decode cX8_needed 35 = .ok (.iload_n 1, 1) := fchk_d fw_dX8_needed_0_c (35, .iload_n 1, 1) (List.mem_of_getElem? (i := 20) rfl)
theorem dX8_needed_36 : decode cX8_needed 36 = .ok (.iaload, 1) := fchk_d fw_dX8_needed_0_c (36, .iaload, 1) (List.mem_of_getElem? (i := 21) rfl)
theorem dX8_needed_37 : decode cX8_needed 37 = .ok (.invokestatic 175, 3) := fchk_d fw_dX8_needed_0_c (37, .invokestatic 175, 3) (List.mem_of_getElem? (i := 22) rfl)
theorem dX8_needed_40 : decode cX8_needed 40 = .ok (.ifCond .eq 25, 3) := fchk_d fw_dX8_needed_0_c (40, .ifCond .eq 25, 3) (List.mem_of_getElem? (i := 23) rfl)
theorem dX8_needed_43 : decode cX8_needed 43 = .ok (.aload_n 0, 1) := fchk_d fw_dX8_needed_0_c (43, .aload_n 0, 1) (List.mem_of_getElem? (i := 24) rfl)
theorem dX8_needed_44 : decode cX8_needed 44 = .ok (.iload_n 2, 1) := fchk_d fw_dX8_needed_0_c (44, .iload_n 2, 1) (List.mem_of_getElem? (i := 25) rfl)
theorem dX8_needed_45 : decode cX8_needed 45 = .ok (.invokevirtual 180, 3) := fchk_d fw_dX8_needed_0_c (45, .invokevirtual 180, 3) (List.mem_of_getElem? (i := 26) rfl)
theorem dX8_needed_48 : decode cX8_needed 48 = .ok (.ifCond .ne 15, 3) := fchk_d fw_dX8_needed_0_c (48, .ifCond .ne 15, 3) (List.mem_of_getElem? (i := 27) rfl)
theorem dX8_needed_51 : decode cX8_needed 51 = .ok (.aload_n 0, 1) := fchk_d fw_dX8_needed_0_c (51, .aload_n 0, 1) (List.mem_of_getElem? (i := 28) rfl)
theorem dX8_needed_52 : decode cX8_needed 52 = .ok (.getfield 29, 3) := fchk_d fw_dX8_needed_0_c (52, .getfield 29, 3) (List.mem_of_getElem? (i := 29) rfl)
theorem dX8_needed_55 : decode cX8_needed 55 = .ok (.iload_n 2, 1) := fchk_d fw_dX8_needed_0_c (55, .iload_n 2, 1) (List.mem_of_getElem? (i := 30) rfl)
theorem dX8_needed_56 : decode cX8_needed 56 = .ok (.iaload, 1) := fchk_d fw_dX8_needed_0_c (56, .iaload, 1) (List.mem_of_getElem? (i := 31) rfl)
theorem dX8_needed_57 : decode cX8_needed 57 = .ok (.invokestatic 175, 3) := fchk_d fw_dX8_needed_0_c (57, .invokestatic 175, 3) (List.mem_of_getElem? (i := 32) rfl)
theorem dX8_needed_60 : decode cX8_needed 60 = .ok (.ifCond .eq 5, 3) := fchk_d fw_dX8_needed_0_c (60, .ifCond .eq 5, 3) (List.mem_of_getElem? (i := 33) rfl)
theorem dX8_needed_63 : decode cX8_needed 63 = .ok (.iconst 2, 1) := fchk_d fw_dX8_needed_0_c (63, .iconst 2, 1) (List.mem_of_getElem? (i := 34) rfl)
theorem dX8_needed_64 : decode cX8_needed 64 = .ok (.ireturn, 1) := fchk_d fw_dX8_needed_0_c (64, .ireturn, 1) (List.mem_of_getElem? (i := 35) rfl)
theorem dX8_needed_65 : decode cX8_needed 65 = .ok (.aload_n 0, 1) := fchk_d fw_dX8_needed_0_c (65, .aload_n 0, 1) (List.mem_of_getElem? (i := 36) rfl)
theorem dX8_needed_66 : decode cX8_needed 66 = .ok (.iload_n 1, 1) := fchk_d fw_dX8_needed_0_c (66, .iload_n 1, 1) (List.mem_of_getElem? (i := 37) rfl)
theorem dX8_needed_67 : decode cX8_needed 67 = .ok (.invokevirtual 183, 3) := fchk_d fw_dX8_needed_0_c (67, .invokevirtual 183, 3) (List.mem_of_getElem? (i := 38) rfl)
theorem dX8_needed_70 : decode cX8_needed 70 = .ok (.aload_n 0, 1) := fchk_d fw_dX8_needed_0_c (70, .aload_n 0, 1) (List.mem_of_getElem? (i := 39) rfl)
def fw_dX8_needed_71 : List (Nat × Instr × Nat) := [(71, .iload_n 2, 1), (72, .invokevirtual 180, 3), (75, .iand, 1), (76, .ifCond .ne 14, 3), (79, .aload_n 0, 1), (80, .getfield 29, 3), (83, .iload_n 2, 1), (84, .iaload, 1), (85, .bipush 9, 2), (87, .if_icmp .ne 7, 3), (90, .iconst 1, 1), (91, .goto 4, 3), (94, .iconst 0, 1), (95, .ireturn, 1)]
theorem fw_dX8_needed_71_c : fchk 71 (cX8_needed.data.toList.drop 71) fw_dX8_needed_71 = true := by decide +kernel
theorem dX8_needed_71 : decode cX8_needed 71 = .ok (.iload_n 2, 1) := fchk_d fw_dX8_needed_71_c (71, .iload_n 2, 1) (List.mem_of_getElem? (i := 0) rfl)
theorem dX8_needed_72 : decode cX8_needed 72 = .ok (.invokevirtual 180, 3) := fchk_d fw_dX8_needed_71_c (72, .invokevirtual 180, 3) (List.mem_of_getElem? (i := 1) rfl)
theorem dX8_needed_75 : decode cX8_needed 75 = .ok (.iand, 1) := fchk_d fw_dX8_needed_71_c (75, .iand, 1) (List.mem_of_getElem? (i := 2) rfl)
theorem dX8_needed_76 : decode cX8_needed 76 = .ok (.ifCond .ne 14, 3) := fchk_d fw_dX8_needed_71_c (76, .ifCond .ne 14, 3) (List.mem_of_getElem? (i := 3) rfl)
theorem dX8_needed_79 : decode cX8_needed 79 = .ok (.aload_n 0, 1) := fchk_d fw_dX8_needed_71_c (79, .aload_n 0, 1) (List.mem_of_getElem? (i := 4) rfl)
theorem dX8_needed_80 : decode cX8_needed 80 = .ok (.getfield 29, 3) := fchk_d fw_dX8_needed_71_c (80, .getfield 29, 3) (List.mem_of_getElem? (i := 5) rfl)
theorem dX8_needed_83 : decode cX8_needed 83 = .ok (.iload_n 2, 1) := fchk_d fw_dX8_needed_71_c (83, .iload_n 2, 1) (List.mem_of_getElem? (i := 6) rfl)
theorem dX8_needed_84 : decode cX8_needed 84 = .ok (.iaload, 1) := fchk_d fw_dX8_needed_71_c (84, .iaload, 1) (List.mem_of_getElem? (i := 7) rfl)
theorem dX8_needed_85 : decode cX8_needed 85 = .ok (.bipush 9, 2) := fchk_d fw_dX8_needed_71_c (85, .bipush 9, 2) (List.mem_of_getElem? (i := 8) rfl)
theorem dX8_needed_87 : decode cX8_needed 87 = .ok (.if_icmp .ne 7, 3) := fchk_d fw_dX8_needed_71_c (87, .if_icmp .ne 7, 3) (List.mem_of_getElem? (i := 9) rfl)
theorem dX8_needed_90 : decode cX8_needed 90 = .ok (.iconst 1, 1) := fchk_d fw_dX8_needed_71_c (90, .iconst 1, 1) (List.mem_of_getElem? (i := 10) rfl)
theorem dX8_needed_91 : decode cX8_needed 91 = .ok (.goto 4, 3) := fchk_d fw_dX8_needed_71_c (91, .goto 4, 3) (List.mem_of_getElem? (i := 11) rfl)
theorem dX8_needed_94 : decode cX8_needed 94 = .ok (.iconst 0, 1) := fchk_d fw_dX8_needed_71_c (94, .iconst 0, 1) (List.mem_of_getElem? (i := 12) rfl)
theorem dX8_needed_95 : decode cX8_needed 95 = .ok (.ireturn, 1) := fchk_d fw_dX8_needed_71_c (95, .ireturn, 1) (List.mem_of_getElem? (i := 13) rfl)
set_option maxRecDepth 20000 in
theorem ggX8_needs_X8_isAct : GoodIn wsX8_needs wsX8_isAct := goodIn_r _ [5, 6, 7, 8, 4, 9, 37, 38, 39, 40, 41, 42, 43, 44, 45, 46, 47, 48, 49, 50, 51, 52, 53, 54, 55, 56, 57, 58, 59, 60, 61, 62, 63, 64, 65, 66, 67, 68, 69, 70, 71, 72, 73, 74, 75, 76, 77, 78, 79, 80] rfl (by decide +kernel)
set_option maxRecDepth 20000 in
theorem gX8_needs_X8_isAct : GoodIn wsX8_needs (wsV RX8 168 RX8 yX8_isAct wsX8_isAct) := goodIn_app (goodIn_of _ (by decide +kernel)) ggX8_needs_X8_isAct
set_option maxRecDepth 20000 in
theorem ggX8_needs_X8_no : GoodIn wsX8_needs wsX8_no := goodIn_r _ [13, 14, 37, 38, 39, 40, 41, 42, 43, 44, 45, 46, 47, 48, 49, 50, 51, 52, 53, 54, 55, 56, 57, 58, 59, 60, 61, 62, 63, 64, 65, 66, 67, 68, 69, 70, 71, 72, 73, 74, 75, 76, 77, 78, 79, 80] rfl (by decide +kernel)
set_option maxRecDepth 20000 in
theorem gX8_needs_X8_no : GoodIn wsX8_needs (wsV RX8 122 RX8 yX8_no wsX8_no) := goodIn_app (goodIn_of _ (by decide +kernel)) ggX8_needs_X8_no
set_option maxRecDepth 20000 in
theorem ggX8_needs_X8_needed : GoodIn wsX8_needs wsX8_needed := goodIn_r _ [18, 19, 20, 21, 22, 4, 23, 24, 25, 26, 27, 28, 29, 30, 31, 32, 33, 34, 35, 36, 37, 38, 39, 40, 41, 42, 43, 44, 45, 46, 47, 48, 49, 50, 51, 52, 53, 54, 55, 56, 57, 58, 59, 60, 61, 62, 63, 64, 65, 66, 67, 68, 69, 70, 71, 72, 73, 74, 75, 76, 77, 78, 79, 80] rfl (by decide +kernel)
set_option maxRecDepth 20000 in
theorem gX8_needs_X8_needed : GoodIn wsX8_needs (wsV RX8 186 RX8 yX8_needed wsX8_needed) := goodIn_app (goodIn_of _ (by decide +kernel)) ggX8_needs_X8_needed
def fw_dX8_needs_0 : List (Nat × Instr × Nat) := [(0, .aload_n 0, 1), (1, .iload_n 1, 1), (2, .iload_n 2, 1), (3, .invokevirtual 168, 3), (6, .ifCond .eq 12, 3), (9, .aload_n 0, 1), (10, .iload_n 1, 1), (11, .iload_n 3, 1), (12, .invokevirtual 168, 3), (15, .ifCond .ne 10, 3), (18, .aload_n 0, 1), (19, .bipush (-3), 2), (21, .invokevirtual 122, 3), (24, .ireturn, 1), (25, .iload_n 2, 1), (26, .iload_n 3, 1), (27, .if_icmp .lt 10, 3), (30, .aload_n 0, 1), (31, .bipush (-6), 2), (33, .invokevirtual 122, 3), (36, .ireturn, 1), (37, .aload_n 0, 1), (38, .bipush 10, 2), (40, .iload_n 1, 1), (41, .imul, 1), (42, .iload_n 2, 1), (43, .iadd, 1), (44, .bipush 10, 2), (46, .iload_n 1, 1), (47, .imul, 1), (48, .iload_n 3, 1), (49, .iadd, 1), (50, .invokevirtual 186, 3), (53, .ireturn, 1)]
theorem fw_dX8_needs_0_c : fchk 0 (cX8_needs.data.toList.drop 0) fw_dX8_needs_0 = true := by decide +kernel
theorem dX8_needs_0 : decode cX8_needs 0 = .ok (.aload_n 0, 1) := fchk_d fw_dX8_needs_0_c (0, .aload_n 0, 1) (List.mem_of_getElem? (i := 0) rfl)
theorem dX8_needs_1 : decode cX8_needs 1 = .ok (.iload_n 1, 1) := fchk_d fw_dX8_needs_0_c (1, .iload_n 1, 1) (List.mem_of_getElem? (i := 1) rfl)
theorem dX8_needs_2 : decode cX8_needs 2 = .ok (.iload_n 2, 1) := fchk_d fw_dX8_needs_0_c (2, .iload_n 2, 1) (List.mem_of_getElem? (i := 2) rfl)
theorem dX8_needs_3 : decode cX8_needs 3 = .ok (.invokevirtual 168, 3) := fchk_d fw_dX8_needs_0_c (3, .invokevirtual 168, 3) (List.mem_of_getElem? (i := 3) rfl)
theorem dX8_needs_6 : decode cX8_needs 6 = .ok (.ifCond .eq 12, 3) := fchk_d fw_dX8_needs_0_c (6, .ifCond .eq 12, 3) (List.mem_of_getElem? (i := 4) rfl)
theorem dX8_needs_9 : decode cX8_needs 9 = .ok (.aload_n 0, 1) := fchk_d fw_dX8_needs_0_c (9, .aload_n 0, 1) (List.mem_of_getElem? (i := 5) rfl)
theorem dX8_needs_10 : decode cX8_needs 10 = .ok (.iload_n 1, 1) := fchk_d fw_dX8_needs_0_c (10, .iload_n 1, 1) (List.mem_of_getElem? (i := 6) rfl)
theorem dX8_needs_11 : decode cX8_needs 11 = .ok (.iload_n 3, 1) := fchk_d fw_dX8_needs_0_c (11, .iload_n 3, 1) (List.mem_of_getElem? (i := 7) rfl)
theorem dX8_needs_12 : decode cX8_needs 12 = .ok (.invokevirtual 168, 3) := fchk_d fw_dX8_needs_0_c (12, .invokevirtual 168, 3) (List.mem_of_getElem? (i := 8) rfl)
theorem dX8_needs_15 : decode cX8_needs 15 = .ok (.ifCond .ne 10, 3) := fchk_d fw_dX8_needs_0_c (15, .ifCond .ne 10, 3) (List.mem_of_getElem? (i := 9) rfl)
theorem dX8_needs_18 : decode cX8_needs 18 = .ok (.aload_n 0, 1) := fchk_d fw_dX8_needs_0_c (18, .aload_n 0, 1) (List.mem_of_getElem? (i := 10) rfl)
theorem dX8_needs_19 : decode cX8_needs 19 = .ok (.bipush (-3), 2) := fchk_d fw_dX8_needs_0_c (19, .bipush (-3), 2) (List.mem_of_getElem? (i := 11) rfl)
theorem dX8_needs_21 : decode cX8_needs 21 = .ok (.invokevirtual 122, 3) := fchk_d fw_dX8_needs_0_c (21, .invokevirtual 122, 3) (List.mem_of_getElem? (i := 12) rfl)
theorem dX8_needs_24 : decode cX8_needs 24 = .ok (.ireturn, 1) := fchk_d fw_dX8_needs_0_c (24, .ireturn, 1) (List.mem_of_getElem? (i := 13) rfl)
theorem dX8_needs_25 : decode cX8_needs 25 = .ok (.iload_n 2, 1) := fchk_d fw_dX8_needs_0_c (25, .iload_n 2, 1) (List.mem_of_getElem? (i := 14) rfl)
theorem dX8_needs_26 : decode cX8_needs 26 = .ok (.iload_n 3, 1) := fchk_d fw_dX8_needs_0_c (26, .iload_n 3, 1) (List.mem_of_getElem? (i := 15) rfl)
theorem dX8_needs_27 : decode cX8_needs 27 = .ok (.if_icmp .lt 10, 3) := fchk_d fw_dX8_needs_0_c (27, .if_icmp .lt 10, 3) (List.mem_of_getElem? (i := 16) rfl)
theorem dX8_needs_30 : decode cX8_needs 30 = .ok (.aload_n 0, 1) := fchk_d fw_dX8_needs_0_c (30, .aload_n 0, 1) (List.mem_of_getElem? (i := 17) rfl)
theorem dX8_needs_31 : decode cX8_needs 31 = .ok (.bipush (-6), 2) := fchk_d fw_dX8_needs_0_c (31, .bipush (-6), 2) (List.mem_of_getElem? (i := 18) rfl)
theorem dX8_needs_33 : decode cX8_needs 33 = .ok (.invokevirtual 122, 3) := fchk_d fw_dX8_needs_0_c (33, .invokevirtual 122, 3) (List.mem_of_getElem? (i := 19) rfl)
theorem dX8_needs_36 : decode cX8_needs 36 = .ok (.ireturn, 1) := fchk_d fw_dX8_needs_0_c (36, .ireturn, 1) (List.mem_of_getElem? (i := 20) rfl)
theorem dX8_needs_37 : decode cX8_needs 37 = .ok (.aload_n 0, 1) := fchk_d fw_dX8_needs_0_c (37, .aload_n 0, 1) (List.mem_of_getElem? (i := 21) rfl)
theorem dX8_needs_38 : decode cX8_needs 38 = .ok (.bipush 10, 2) := fchk_d fw_dX8_needs_0_c (38, .bipush 10, 2) (List.mem_of_getElem? (i := 22) rfl)
theorem dX8_needs_40 : decode cX8_needs 40 = .ok (.iload_n 1, 1) := fchk_d fw_dX8_needs_0_c (40, .iload_n 1, 1) (List.mem_of_getElem? (i := 23) rfl)
theorem dX8_needs_41 : decode cX8_needs 41 = .ok (.imul, 1) := fchk_d fw_dX8_needs_0_c (41, .imul, 1) (List.mem_of_getElem? (i := 24) rfl)
theorem dX8_needs_42 : decode cX8_needs 42 = .ok (.iload_n 2, 1) := fchk_d fw_dX8_needs_0_c (42, .iload_n 2, 1) (List.mem_of_getElem? (i := 25) rfl)
theorem dX8_needs_43 : decode cX8_needs 43 = .ok (.iadd, 1) := fchk_d fw_dX8_needs_0_c (43, .iadd, 1) (List.mem_of_getElem? (i := 26) rfl)
theorem dX8_needs_44 : decode cX8_needs 44 = .ok (.bipush 10, 2) := fchk_d fw_dX8_needs_0_c (44, .bipush 10, 2) (List.mem_of_getElem? (i := 27) rfl)
theorem dX8_needs_46 : decode cX8_needs 46 = .ok (.iload_n 1, 1) := fchk_d fw_dX8_needs_0_c (46, .iload_n 1, 1) (List.mem_of_getElem? (i := 28) rfl)
theorem dX8_needs_47 : decode cX8_needs 47 = .ok (.imul, 1) := fchk_d fw_dX8_needs_0_c (47, .imul, 1) (List.mem_of_getElem? (i := 29) rfl)
theorem dX8_needs_48 : decode cX8_needs 48 = .ok (.iload_n 3, 1) := fchk_d fw_dX8_needs_0_c (48, .iload_n 3, 1) (List.mem_of_getElem? (i := 30) rfl)
theorem dX8_needs_49 : decode cX8_needs 49 = .ok (.iadd, 1) := fchk_d fw_dX8_needs_0_c (49, .iadd, 1) (List.mem_of_getElem? (i := 31) rfl)
theorem dX8_needs_50 : decode cX8_needs 50 = .ok (.invokevirtual 186, 3) := fchk_d fw_dX8_needs_0_c (50, .invokevirtual 186, 3) (List.mem_of_getElem? (i := 32) rfl)
theorem dX8_needs_53 : decode cX8_needs 53 = .ok (.ireturn, 1) := fchk_d fw_dX8_needs_0_c (53, .ireturn, 1) (List.mem_of_getElem? (i := 33) rfl)
set_option maxRecDepth 20000 in
theorem ggX8_isWord_X8_partOf : GoodIn wsX8_isWord wsX8_partOf := goodIn_r _ [9] rfl (by decide +kernel)
set_option maxRecDepth 20000 in
theorem gX8_isWord_X8_partOf : GoodIn wsX8_isWord (va_wsS RX8 172 yX8_partOf wsX8_partOf) := goodIn_app (goodIn_of _ (by decide +kernel)) ggX8_isWord_X8_partOf
def fw_dX8_isWord_0 : List (Nat × Instr × Nat) := [(0, .iconst 0, 1), (1, .istore 4, 2), (3, .iconst 0, 1), (4, .istore 5, 2), (6, .iconst 0, 1), (7, .istore 6, 2), (9, .iload 6, 2), (11, .aload_n 0, 1), (12, .getfield 41, 3), (15, .iload_n 1, 1), (16, .iaload, 1), (17, .if_icmp .ge 103, 3), (20, .iload_n 3, 1), (21, .iload 6, 2), (23, .ishr, 1), (24, .iconst 1, 1), (25, .iand, 1), (26, .ifCond .ne 6, 3), (29, .goto 85, 3), (32, .aload_n 0, 1), (33, .getfield 29, 3), (36, .bipush 10, 2), (38, .iload_n 1, 1), (39, .imul, 1), (40, .iload 6, 2), (42, .iadd, 1), (43, .iaload, 1), (44, .invokestatic 172, 3), (47, .istore 7, 2), (49, .iload 7, 2), (51, .ifCond .ne 9, 3)]
theorem fw_dX8_isWord_0_c : fchk 0 (cX8_isWord.data.toList.drop 0) fw_dX8_isWord_0 = true := by decide +kernel
theorem dX8_isWord_0 : decode cX8_isWord 0 = .ok (.iconst 0, 1) := fchk_d fw_dX8_isWord_0_c (0, .iconst 0, 1) (List.mem_of_getElem? (i := 0) rfl)
theorem dX8_isWord_1 : decode cX8_isWord 1 = .ok (.istore 4, 2) := fchk_d fw_dX8_isWord_0_c (1, .istore 4, 2) (List.mem_of_getElem? (i := 1) rfl)
theorem dX8_isWord_3 : decode cX8_isWord 3 = .ok (.iconst 0, 1) := fchk_d fw_dX8_isWord_0_c (3, .iconst 0, 1) (List.mem_of_getElem? (i := 2) rfl)
theorem dX8_isWord_4 : decode cX8_isWord 4 = .ok (.istore 5, 2) := fchk_d fw_dX8_isWord_0_c (4, .istore 5, 2) (List.mem_of_getElem? (i := 3) rfl)
theorem dX8_isWord_6 : decode cX8_isWord 6 = .ok (.iconst 0, 1) := fchk_d fw_dX8_isWord_0_c (6, .iconst 0, 1) (List.mem_of_getElem? (i := 4) rfl)
theorem dX8_isWord_7 : decode cX8_isWord 7 = .ok (.istore 6, 2) := fchk_d fw_dX8_isWord_0_c (7, .istore 6, 2) (List.mem_of_getElem? (i := 5) rfl)
theorem dX8_isWord_9 : decode cX8_isWord 9 = .ok (.iload 6, 2) := fchk_d fw_dX8_isWord_0_c (9, .iload 6, 2) (List.mem_of_getElem? (i := 6) rfl)
theorem dX8_isWord_11 : decode cX8_isWord 11 = .ok (.aload_n 0, 1) := fchk_d fw_dX8_isWord_0_c (11, .aload_n 0, 1) (List.mem_of_getElem? (i := 7) rfl)
theorem dX8_isWord_12 : decode cX8_isWord 12 = .ok (.getfield 41, 3) := fchk_d fw_dX8_isWord_0_c (12, .getfield 41, 3) (List.mem_of_getElem? (i := 8) rfl)
theorem dX8_isWord_15 : decode cX8_isWord 15 = .ok (.iload_n 1, 1) := fchk_d fw_dX8_isWord_0_c (15, .iload_n 1, 1) (List.mem_of_getElem? (i := 9) rfl)
theorem dX8_isWord_16 : decode cX8_isWord 16 = .ok (.iaload, 1) := fchk_d fw_dX8_isWord_0_c (16, .iaload, 1) (List.mem_of_getElem? (i := 10) rfl)
theorem dX8_isWord_17 : decode cX8_isWord 17 = .ok (.if_icmp .ge 103, 3) := fchk_d fw_dX8_isWord_0_c (17, .if_icmp .ge 103, 3) (List.mem_of_getElem? (i := 11) rfl)
theorem dX8_isWord_20 : decode cX8_isWord 20 = .ok (.iload_n 3, 1) := fchk_d fw_dX8_isWord_0_c (20, .iload_n 3, 1) (List.mem_of_getElem? (i := 12) rfl)
theorem dX8_isWord_21 : decode cX8_isWord 21 = .ok (.iload 6, 2) := fchk_d fw_dX8_isWord_0_c (21, .iload 6, 2) (List.mem_of_getElem? (i := 13) rfl)
theorem dX8_isWord_23 : decode cX8_isWord 23 = .ok (.ishr, 1) := fchk_d fw_dX8_isWord_0_c (23, .ishr, 1) (List.mem_of_getElem? (i := 14) rfl)
theorem dX8_isWord_24 : decode cX8_isWord 24 = .ok (.iconst 1, 1) := fchk_d fw_dX8_isWord_0_c (24, .iconst 1, 1) (List.mem_of_getElem? (i := 15) rfl)
theorem dX8_isWord_25 : decode cX8_isWord 25 = .ok (.iand, 1) := fchk_d fw_dX8_isWord_0_c (25, .iand, 1) (List.mem_of_getElem? (i := 16) rfl)
theorem dX8_isWord_26 : decode cX8_isWord 26 = .ok (.ifCond .ne 6, 3) := fchk_d fw_dX8_isWord_0_c (26, .ifCond .ne 6, 3) (List.mem_of_getElem? (i := 17) rfl)
theorem dX8_isWord_29 : decode cX8_isWord 29 = .ok (.goto 85, 3) := fchk_d fw_dX8_isWord_0_c (29, .goto 85, 3) (List.mem_of_getElem? (i := 18) rfl)
theorem dX8_isWord_32 : decode cX8_isWord 32 = .ok (.aload_n 0, 1) := fchk_d fw_dX8_isWord_0_c (32, .aload_n 0, 1) (List.mem_of_getElem? (i := 19) rfl)
theorem dX8_isWord_33 : decode cX8_isWord 33 = .ok (.getfield 29, 3) := fchk_d fw_dX8_isWord_0_c (33, .getfield 29, 3) (List.mem_of_getElem? (i := 20) rfl)
theorem dX8_isWord_36 : decode cX8_isWord 36 = .ok (.bipush 10, 2) := fchk_d fw_dX8_isWord_0_c (36, .bipush 10, 2) (List.mem_of_getElem? (i := 21) rfl)
theorem dX8_isWord_38 : decode cX8_isWord 38 = .ok (.iload_n 1, 1) := fchk_d fw_dX8_isWord_0_c (38, .iload_n 1, 1) (List.mem_of_getElem? (i := 22) rfl)
theorem dX8_isWord_39 : decode cX8_isWord 39 = .ok (.imul, 1) := fchk_d fw_dX8_isWord_0_c (39, .imul, 1) (List.mem_of_getElem? (i := 23) rfl)
theorem dX8_isWord_40 : decode cX8_isWord 40 = .ok (.iload 6, 2) := fchk_d fw_dX8_isWord_0_c (40, .iload 6, 2) (List.mem_of_getElem? (i := 24) rfl)
theorem dX8_isWord_42 : decode cX8_isWord 42 = .ok (.iadd, 1) := fchk_d fw_dX8_isWord_0_c (42, .iadd, 1) (List.mem_of_getElem? (i := 25) rfl)
theorem dX8_isWord_43 : decode cX8_isWord 43 = .ok (.iaload, 1) := fchk_d fw_dX8_isWord_0_c (43, .iaload, 1) (List.mem_of_getElem? (i := 26) rfl)
theorem dX8_isWord_44 : decode cX8_isWord 44 = .ok (.invokestatic 172, 3) := fchk_d fw_dX8_isWord_0_c (44, .invokestatic 172, 3) (List.mem_of_getElem? (i := 27) rfl)
theorem dX8_isWord_47 : decode cX8_isWord 47 = .ok (.istore 7, 2) := fchk_d fw_dX8_isWord_0_c (47, .istore 7, 2) (List.mem_of_getElem? (i := 28) rfl)
theorem dX8_isWord_49 : decode cX8_isWord 49 = .ok (.iload 7, 2) := fchk_d fw_dX8_isWord_0_c (49, .iload 7, 2) (List.mem_of_getElem? (i := 29) rfl)
theorem dX8_isWord_51 : decode cX8_isWord 51 = .ok (.ifCond .ne 9, 3) := fchk_d fw_dX8_isWord_0_c (51, .ifCond .ne 9, 3) (List.mem_of_getElem? (i := 30) rfl)
theorem dX8_isWord_54 : decode cX8_isWord 54 = .ok (.iinc 4 1, 3) := by decide +kernel
def fw_dX8_isWord_57 : List (Nat × Instr × Nat) := [(57, .goto 25, 3), (60, .iload 5, 2), (62, .iload 7, 2), (64, .ishr, 1), (65, .iconst 1, 1), (66, .iand, 1), (67, .iconst 1, 1), (68, .if_icmp .ne 5, 3), (71, .iconst 0, 1), (72, .ireturn, 1), (73, .iload 5, 2), (75, .iconst 1, 1), (76, .iload 7, 2), (78, .ishl, 1), (79, .ior, 1), (80, .istore 5, 2), (82, .aload_n 0, 1), (83, .getfield 60, 3), (86, .iload 6, 2), (88, .iaload, 1), (89, .iload_n 2, 1), (90, .iconst (-1), 1), (91, .ixor, 1), (92, .iand, 1), (93, .ifCond .ne 19, 3), (96, .aload_n 0, 1), (97, .getfield 63, 3), (100, .iload 6, 2), (102, .iaload, 1), (103, .iload_n 2, 1), (104, .iload_n 3, 1), (105, .ior, 1), (106, .iconst (-1), 1), (107, .ixor, 1), (108, .iand, 1), (109, .ifCond .eq 5, 3), (112, .iconst 0, 1), (113, .ireturn, 1)]
theorem fw_dX8_isWord_57_c : fchk 57 (cX8_isWord.data.toList.drop 57) fw_dX8_isWord_57 = true := by decide +kernel
theorem dX8_isWord_57 : decode cX8_isWord 57 = .ok (.goto 25, 3) := fchk_d fw_dX8_isWord_57_c (57, .goto 25, 3) (List.mem_of_getElem? (i := 0) rfl)
theorem dX8_isWord_60 : decode cX8_isWord 60 = .ok (.iload 5, 2) := fchk_d fw_dX8_isWord_57_c (60, .iload 5, 2) (List.mem_of_getElem? (i := 1) rfl)
theorem dX8_isWord_62 : decode cX8_isWord 62 = .ok (.iload 7, 2) := fchk_d fw_dX8_isWord_57_c (62, .iload 7, 2) (List.mem_of_getElem? (i := 2) rfl)
theorem dX8_isWord_64 : decode cX8_isWord 64 = .ok (.ishr, 1) := fchk_d fw_dX8_isWord_57_c (64, .ishr, 1) (List.mem_of_getElem? (i := 3) rfl)
theorem dX8_isWord_65 : decode cX8_isWord 65 = .ok (.iconst 1, 1) := fchk_d fw_dX8_isWord_57_c (65, .iconst 1, 1) (List.mem_of_getElem? (i := 4) rfl)
theorem dX8_isWord_66 : decode cX8_isWord 66 = .ok (.iand, 1) := fchk_d fw_dX8_isWord_57_c (66, .iand, 1) (List.mem_of_getElem? (i := 5) rfl)
theorem dX8_isWord_67 : decode cX8_isWord 67 = .ok (.iconst 1, 1) := fchk_d fw_dX8_isWord_57_c (67, .iconst 1, 1) (List.mem_of_getElem? (i := 6) rfl)
theorem dX8_isWord_68 : decode cX8_isWord 68 = .ok (.if_icmp .ne 5, 3) := fchk_d fw_dX8_isWord_57_c (68, .if_icmp .ne 5, 3) (List.mem_of_getElem? (i := 7) rfl)
theorem dX8_isWord_71 : decode cX8_isWord 71 = .ok (.iconst 0, 1) := fchk_d fw_dX8_isWord_57_c (71, .iconst 0, 1) (List.mem_of_getElem? (i := 8) rfl)
theorem dX8_isWord_72 : decode cX8_isWord 72 = .ok (.ireturn, 1) := fchk_d fw_dX8_isWord_57_c (72, .ireturn, 1) (List.mem_of_getElem? (i := 9) rfl)
theorem dX8_isWord_73 : decode cX8_isWord 73 = .ok (.iload 5, 2) := fchk_d fw_dX8_isWord_57_c (73, .iload 5, 2) (List.mem_of_getElem? (i := 10) rfl)
theorem dX8_isWord_75 : decode cX8_isWord 75 = .ok (.iconst 1, 1) := fchk_d fw_dX8_isWord_57_c (75, .iconst 1, 1) (List.mem_of_getElem? (i := 11) rfl)
theorem dX8_isWord_76 : decode cX8_isWord 76 = .ok (.iload 7, 2) := fchk_d fw_dX8_isWord_57_c (76, .iload 7, 2) (List.mem_of_getElem? (i := 12) rfl)
theorem dX8_isWord_78 : decode cX8_isWord 78 = .ok (.ishl, 1) := fchk_d fw_dX8_isWord_57_c (78, .ishl, 1) (List.mem_of_getElem? (i := 13) rfl)
theorem dX8_isWord_79 : decode cX8_isWord 79 = .ok (.ior, 1) := fchk_d fw_dX8_isWord_57_c (79, .ior, 1) (List.mem_of_getElem? (i := 14) rfl)
theorem dX8_isWord_80 : decode cX8_isWord 80 = .ok (.istore 5, 2) := fchk_d fw_dX8_isWord_57_c (80, .istore 5, 2) (List.mem_of_getElem? (i := 15) rfl)
theorem dX8_isWord_82 : decode cX8_isWord 82 = .ok (.aload_n 0, 1) := fchk_d fw_dX8_isWord_57_c (82, .aload_n 0, 1) (List.mem_of_getElem? (i := 16) rfl)
theorem dX8_isWord_83 : decode cX8_isWord 83 = .ok (.getfield 60, 3) := fchk_d fw_dX8_isWord_57_c (83, .getfield 60, 3) (List.mem_of_getElem? (i := 17) rfl)
theorem dX8_isWord_86 : decode cX8_isWord 86 = .ok (.iload 6, 2) := fchk_d fw_dX8_isWord_57_c (86, .iload 6, 2) (List.mem_of_getElem? (i := 18) rfl)
theorem dX8_isWord_88 : decode cX8_isWord 88 = .ok (.iaload, 1) := fchk_d fw_dX8_isWord_57_c (88, .iaload, 1) (List.mem_of_getElem? (i := 19) rfl)
theorem dX8_isWord_89 : decode cX8_isWord 89 = .ok (.iload_n 2, 1) := fchk_d fw_dX8_isWord_57_c (89, .iload_n 2, 1) (List.mem_of_getElem? (i := 20) rfl)
theorem dX8_isWord_90 : decode cX8_isWord 90 = .ok (.iconst (-1), 1) := fchk_d fw_dX8_isWord_57_c (90, .iconst (-1), 1) (List.mem_of_getElem? (i := 21) rfl)
theorem dX8_isWord_91 : decode cX8_isWord 91 = .ok (.ixor, 1) := fchk_d fw_dX8_isWord_57_c (91, .ixor, 1) (List.mem_of_getElem? (i := 22) rfl)
theorem dX8_isWord_92 : decode cX8_isWord 92 = .ok (.iand, 1) := fchk_d fw_dX8_isWord_57_c (92, .iand, 1) (List.mem_of_getElem? (i := 23) rfl)
theorem dX8_isWord_93 : decode cX8_isWord 93 = .ok (.ifCond .ne 19, 3) := fchk_d fw_dX8_isWord_57_c (93, .ifCond .ne 19, 3) (List.mem_of_getElem? (i := 24) rfl)
theorem dX8_isWord_96 : decode cX8_isWord 96 = .ok (.aload_n 0, 1) := fchk_d fw_dX8_isWord_57_c (96, .aload_n 0, 1) (List.mem_of_getElem? (i := 25) rfl)
theorem dX8_isWord_97 : decode cX8_isWord 97 = .ok (.getfield 63, 3) := fchk_d fw_dX8_isWord_57_c (97, .getfield 63, 3) (List.mem_of_getElem? (i := 26) rfl)
theorem dX8_isWord_100 : decode cX8_isWord 100 = .ok (.iload 6, 2) := fchk_d fw_dX8_isWord_57_c (100, .iload 6, 2) (List.mem_of_getElem? (i := 27) rfl)
theorem dX8_isWord_102 : decode cX8_isWord 102 = .ok (.iaload, 1) := fchk_d fw_dX8_isWord_57_c (102, .iaload, 1) (List.mem_of_getElem? (i := 28) rfl)
theorem dX8_isWord_103 : decode cX8_isWord 103 = .ok (.iload_n 2, 1) := fchk_d fw_dX8_isWord_57_c (103, .iload_n 2, 1) (List.mem_of_getElem? (i := 29) rfl)
theorem dX8_isWord_104 : decode cX8_isWord 104 = .ok (.iload_n 3, 1) := fchk_d fw_dX8_isWord_57_c (104, .iload_n 3, 1) (List.mem_of_getElem? (i := 30) rfl)
theorem dX8_isWord_105 : decode cX8_isWord 105 = .ok (.ior, 1) := fchk_d fw_dX8_isWord_57_c (105, .ior, 1) (List.mem_of_getElem? (i := 31) rfl)
theorem dX8_isWord_106 : decode cX8_isWord 106 = .ok (.iconst (-1), 1) := fchk_d fw_dX8_isWord_57_c (106, .iconst (-1), 1) (List.mem_of_getElem? (i := 32) rfl)
theorem dX8_isWord_107 : decode cX8_isWord 107 = .ok (.ixor, 1) := fchk_d fw_dX8_isWord_57_c (107, .ixor, 1) (List.mem_of_getElem? (i := 33) rfl)
theorem dX8_isWord_108 : decode cX8_isWord 108 = .ok (.iand, 1) := fchk_d fw_dX8_isWord_57_c (108, .iand, 1) (List.mem_of_getElem? (i := 34) rfl)
theorem dX8_isWord_109 : decode cX8_isWord 109 = .ok (.ifCond .eq 5, 3) := fchk_d fw_dX8_isWord_57_c (109, .ifCond .eq 5, 3) (List.mem_of_getElem? (i := 35) rfl)
theorem dX8_isWord_112 : decode cX8_isWord 112 = .ok (.iconst 0, 1) := fchk_d fw_dX8_isWord_57_c (112, .iconst 0, 1) (List.mem_of_getElem? (i := 36) rfl)
theorem dX8_isWord_113 : decode cX8_isWord 113 = .ok (.ireturn, 1) := fchk_d fw_dX8_isWord_57_c (113, .ireturn, 1) (List.mem_of_getElem? (i := 37) rfl)
theorem dX8_isWord_114 : decode cX8_isWord 114 = .ok (.iinc 6 1, 3) := by decide +kernel
def fw_dX8_isWord_117 : List (Nat × Instr × Nat) := [(117, .goto (-108), 3), (120, .iload 4, 2), (122, .aload_n 0, 1), (123, .getfield 44, 3), (126, .if_icmp .gt 7, 3), (129, .iconst 1, 1), (130, .goto 4, 3), (133, .iconst 0, 1), (134, .ireturn, 1)]
theorem fw_dX8_isWord_117_c : fchk 117 (cX8_isWord.data.toList.drop 117) fw_dX8_isWord_117 = true := by decide +kernel
theorem dX8_isWord_117 : decode cX8_isWord 117 = .ok (.goto (-108), 3) := fchk_d fw_dX8_isWord_117_c (117, .goto (-108), 3) (List.mem_of_getElem? (i := 0) rfl)
theorem dX8_isWord_120 : decode cX8_isWord 120 = .ok (.iload 4, 2) := fchk_d fw_dX8_isWord_117_c (120, .iload 4, 2) (List.mem_of_getElem? (i := 1) rfl)
theorem dX8_isWord_122 : decode cX8_isWord 122 = .ok (.aload_n 0, 1) := fchk_d fw_dX8_isWord_117_c (122, .aload_n 0, 1) (List.mem_of_getElem? (i := 2) rfl)
theorem dX8_isWord_123 : decode cX8_isWord 123 = .ok (.getfield 44, 3) := fchk_d fw_dX8_isWord_117_c (123, .getfield 44, 3) (List.mem_of_getElem? (i := 3) rfl)
theorem dX8_isWord_126 : decode cX8_isWord 126 = .ok (.if_icmp .gt 7, 3) := fchk_d fw_dX8_isWord_117_c (126, .if_icmp .gt 7, 3) (List.mem_of_getElem? (i := 4) rfl)
theorem dX8_isWord_129 : decode cX8_isWord 129 = .ok (.iconst 1, 1) := fchk_d fw_dX8_isWord_117_c (129, .iconst 1, 1) (List.mem_of_getElem? (i := 5) rfl)
theorem dX8_isWord_130 : decode cX8_isWord 130 = .ok (.goto 4, 3) := fchk_d fw_dX8_isWord_117_c (130, .goto 4, 3) (List.mem_of_getElem? (i := 6) rfl)
theorem dX8_isWord_133 : decode cX8_isWord 133 = .ok (.iconst 0, 1) := fchk_d fw_dX8_isWord_117_c (133, .iconst 0, 1) (List.mem_of_getElem? (i := 7) rfl)
theorem dX8_isWord_134 : decode cX8_isWord 134 = .ok (.ireturn, 1) := fchk_d fw_dX8_isWord_117_c (134, .ireturn, 1) (List.mem_of_getElem? (i := 8) rfl)
set_option maxRecDepth 20000 in
theorem ggX8_packs_X8_needed : GoodIn wsX8_packs wsX8_needed := goodIn_r _ [12, 13, 14, 15, 16, 11, 17, 18, 19, 20, 21, 22, 23, 24, 25, 26, 27, 28, 29, 30, 39, 40, 41, 42, 43, 44, 45, 46, 47, 48, 49, 50, 51, 52, 53, 54, 55, 56, 57, 58, 59, 60, 61, 62, 63, 64, 65, 66, 67, 68, 69, 70, 71, 72, 73, 74, 75, 76, 77, 78, 79, 80, 81, 82] rfl (by decide +kernel)
set_option maxRecDepth 20000 in
theorem gX8_packs_X8_needed : GoodIn wsX8_packs (wsV RX8 186 RX8 yX8_needed wsX8_needed) := goodIn_app (goodIn_of _ (by decide +kernel)) ggX8_packs_X8_needed
set_option maxRecDepth 20000 in
theorem ggX8_packs_X8_isWord : GoodIn wsX8_packs wsX8_isWord := goodIn_r _ [34, 2, 13, 3, 4, 35, 36, 37, 11, 38, 39, 40, 41, 42, 43, 44, 45, 46, 47, 48, 49, 50, 51, 52, 53, 54, 55, 56, 57, 58, 59, 60, 61, 62, 63, 64, 65, 66, 67, 68, 69, 70, 71, 72, 73, 74, 75, 76, 77, 78, 79, 80, 81, 82] rfl (by decide +kernel)
set_option maxRecDepth 20000 in
theorem gX8_packs_X8_isWord : GoodIn wsX8_packs (wsV RX8 190 RX8 yX8_isWord wsX8_isWord) := goodIn_app (goodIn_of _ (by decide +kernel)) ggX8_packs_X8_isWord
def fw_dX8_packs_0 : List (Nat × Instr × Nat) := [(0, .aload_n 0, 1), (1, .getfield 66, 3), (4, .iload_n 1, 1), (5, .baload, 1), (6, .ifCond .eq 4, 3), (9, .return_, 1), (10, .aload_n 0, 1), (11, .getfield 41, 3), (14, .iload_n 1, 1), (15, .iaload, 1), (16, .istore_n 2, 1), (17, .iconst 1, 1), (18, .iload_n 2, 1), (19, .ishl, 1), (20, .iconst 1, 1), (21, .isub, 1), (22, .istore_n 3, 1), (23, .iconst 0, 1), (24, .istore 4, 2), (26, .iload 4, 2), (28, .iload_n 2, 1), (29, .if_icmp .ge 101, 3), (32, .aload_n 0, 1), (33, .getfield 60, 3), (36, .iload 4, 2), (38, .iconst 0, 1), (39, .iastore, 1), (40, .aload_n 0, 1), (41, .getfield 63, 3), (44, .iload 4, 2), (46, .iconst 0, 1), (47, .iastore, 1), (48, .iconst 0, 1), (49, .istore 5, 2), (51, .iload 5, 2), (53, .iload 4, 2), (55, .if_icmp .ge 69, 3), (58, .aload_n 0, 1), (59, .bipush 10, 2), (61, .iload_n 1, 1)]
theorem fw_dX8_packs_0_c : fchk 0 (cX8_packs.data.toList.drop 0) fw_dX8_packs_0 = true := by decide +kernel
theorem dX8_packs_0 : decode cX8_packs 0 = .ok (.aload_n 0, 1) := fchk_d fw_dX8_packs_0_c (0, .aload_n 0, 1) (List.mem_of_getElem? (i := 0) rfl)
theorem dX8_packs_1 : decode cX8_packs 1 = .ok (.getfield 66, 3) := fchk_d fw_dX8_packs_0_c (1, .getfield 66, 3) (List.mem_of_getElem? (i := 1) rfl)
theorem dX8_packs_4 : decode cX8_packs 4 = .ok (.iload_n 1, 1) := fchk_d fw_dX8_packs_0_c (4, .iload_n 1, 1) (List.mem_of_getElem? (i := 2) rfl)
theorem dX8_packs_5 : decode cX8_packs 5 = .ok (.baload, 1) := fchk_d fw_dX8_packs_0_c (5, .baload, 1) (List.mem_of_getElem? (i := 3) rfl)
theorem dX8_packs_6 : decode cX8_packs 6 = .ok (.ifCond .eq 4, 3) := fchk_d fw_dX8_packs_0_c (6, .ifCond .eq 4, 3) (List.mem_of_getElem? (i := 4) rfl)
theorem dX8_packs_9 : decode cX8_packs 9 = .ok (.return_, 1) := fchk_d fw_dX8_packs_0_c (9, .return_, 1) (List.mem_of_getElem? (i := 5) rfl)
theorem dX8_packs_10 : decode cX8_packs 10 = .ok (.aload_n 0, 1) := fchk_d fw_dX8_packs_0_c (10, .aload_n 0, 1) (List.mem_of_getElem? (i := 6) rfl)
theorem dX8_packs_11 : decode cX8_packs 11 = .ok (.getfield 41, 3) := fchk_d fw_dX8_packs_0_c (11, .getfield 41, 3) (List.mem_of_getElem? (i := 7) rfl)
theorem dX8_packs_14 : decode cX8_packs 14 = .ok (.iload_n 1, 1) := fchk_d fw_dX8_packs_0_c (14, .iload_n 1, 1) (List.mem_of_getElem? (i := 8) rfl)
theorem dX8_packs_15 : decode cX8_packs 15 = .ok (.iaload, 1) := fchk_d fw_dX8_packs_0_c (15, .iaload, 1) (List.mem_of_getElem? (i := 9) rfl)
theorem dX8_packs_16 : decode cX8_packs 16 = .ok (.istore_n 2, 1) := fchk_d fw_dX8_packs_0_c (16, .istore_n 2, 1) (List.mem_of_getElem? (i := 10) rfl)
theorem dX8_packs_17 : decode cX8_packs 17 = .ok (.iconst 1, 1) := fchk_d fw_dX8_packs_0_c (17, .iconst 1, 1) (List.mem_of_getElem? (i := 11) rfl)
theorem dX8_packs_18 : decode cX8_packs 18 = .ok (.iload_n 2, 1) := fchk_d fw_dX8_packs_0_c (18, .iload_n 2, 1) (List.mem_of_getElem? (i := 12) rfl)
theorem dX8_packs_19 : decode cX8_packs 19 = .ok (.ishl, 1) := fchk_d fw_dX8_packs_0_c (19, .ishl, 1) (List.mem_of_getElem? (i := 13) rfl)
theorem dX8_packs_20 : decode cX8_packs 20 = .ok (.iconst 1, 1) := fchk_d fw_dX8_packs_0_c (20, .iconst 1, 1) (List.mem_of_getElem? (i := 14) rfl)
theorem dX8_packs_21 : decode cX8_packs 21 = .ok (.isub, 1) := fchk_d fw_dX8_packs_0_c (21, .isub, 1) (List.mem_of_getElem? (i := 15) rfl)
theorem dX8_packs_22 : decode cX8_packs 22 = .ok (.istore_n 3, 1) := fchk_d fw_dX8_packs_0_c (22, .istore_n 3, 1) (List.mem_of_getElem? (i := 16) rfl)
theorem dX8_packs_23 : decode cX8_packs 23 = .ok (.iconst 0, 1) := fchk_d fw_dX8_packs_0_c (23, .iconst 0, 1) (List.mem_of_getElem? (i := 17) rfl)
theorem dX8_packs_24 : decode cX8_packs 24 = .ok (.istore 4, 2) := fchk_d fw_dX8_packs_0_c (24, .istore 4, 2) (List.mem_of_getElem? (i := 18) rfl)
theorem dX8_packs_26 : decode cX8_packs 26 = .ok (.iload 4, 2) := fchk_d fw_dX8_packs_0_c (26, .iload 4, 2) (List.mem_of_getElem? (i := 19) rfl)
theorem dX8_packs_28 : decode cX8_packs 28 = .ok (.iload_n 2, 1) := fchk_d fw_dX8_packs_0_c (28, .iload_n 2, 1) (List.mem_of_getElem? (i := 20) rfl)
theorem dX8_packs_29 : decode cX8_packs 29 = .ok (.if_icmp .ge 101, 3) := fchk_d fw_dX8_packs_0_c (29, .if_icmp .ge 101, 3) (List.mem_of_getElem? (i := 21) rfl)
theorem dX8_packs_32 : decode cX8_packs 32 = .ok (.aload_n 0, 1) := fchk_d fw_dX8_packs_0_c (32, .aload_n 0, 1) (List.mem_of_getElem? (i := 22) rfl)
theorem dX8_packs_33 : decode cX8_packs 33 = .ok (.getfield 60, 3) := fchk_d fw_dX8_packs_0_c (33, .getfield 60, 3) (List.mem_of_getElem? (i := 23) rfl)
theorem dX8_packs_36 : decode cX8_packs 36 = .ok (.iload 4, 2) := fchk_d fw_dX8_packs_0_c (36, .iload 4, 2) (List.mem_of_getElem? (i := 24) rfl)
theorem dX8_packs_38 : decode cX8_packs 38 = .ok (.iconst 0, 1) := fchk_d fw_dX8_packs_0_c (38, .iconst 0, 1) (List.mem_of_getElem? (i := 25) rfl)
theorem dX8_packs_39 : decode cX8_packs 39 = .ok (.iastore, 1) := fchk_d fw_dX8_packs_0_c (39, .iastore, 1) (List.mem_of_getElem? (i := 26) rfl)
theorem dX8_packs_40 : decode cX8_packs 40 = .ok (.aload_n 0, 1) := fchk_d fw_dX8_packs_0_c (40, .aload_n 0, 1) (List.mem_of_getElem? (i := 27) rfl)
theorem dX8_packs_41 : decode cX8_packs 41 = .ok (.getfield 63, 3) := fchk_d fw_dX8_packs_0_c (41, .getfield 63, 3) (List.mem_of_getElem? (i := 28) rfl)
theorem dX8_packs_44 : decode cX8_packs 44 = .ok (.iload 4, 2) := fchk_d fw_dX8_packs_0_c (44, .iload 4, 2) (List.mem_of_getElem? (i := 29) rfl)
theorem dX8_packs_46 : decode cX8_packs 46 = .ok (.iconst 0, 1) := fchk_d fw_dX8_packs_0_c (46, .iconst 0, 1) (List.mem_of_getElem? (i := 30) rfl)
theorem dX8_packs_47 : decode cX8_packs 47 = .ok (.iastore, 1) := fchk_d fw_dX8_packs_0_c (47, .iastore, 1) (List.mem_of_getElem? (i := 31) rfl)
theorem dX8_packs_48 : decode cX8_packs 48 = .ok (.iconst 0, 1) := fchk_d fw_dX8_packs_0_c (48, .iconst 0, 1) (List.mem_of_getElem? (i := 32) rfl)
theorem dX8_packs_49 : decode cX8_packs 49 = .ok (.istore 5, 2) := fchk_d fw_dX8_packs_0_c (49, .istore 5, 2) (List.mem_of_getElem? (i := 33) rfl)
theorem dX8_packs_51 : decode cX8_packs 51 = .ok (.iload 5, 2) := fchk_d fw_dX8_packs_0_c (51, .iload 5, 2) (List.mem_of_getElem? (i := 34) rfl)
theorem dX8_packs_53 : decode cX8_packs 53 = .ok (.iload 4, 2) := fchk_d fw_dX8_packs_0_c (53, .iload 4, 2) (List.mem_of_getElem? (i := 35) rfl)
theorem dX8_packs_55 : decode cX8_packs 55 = .ok (.if_icmp .ge 69, 3) := fchk_d fw_dX8_packs_0_c (55, .if_icmp .ge 69, 3) (List.mem_of_getElem? (i := 36) rfl)
theorem dX8_packs_58 : decode cX8_packs 58 = .ok (.aload_n 0, 1) := fchk_d fw_dX8_packs_0_c (58, .aload_n 0, 1) (List.mem_of_getElem? (i := 37) rfl)
theorem dX8_packs_59 : decode cX8_packs 59 = .ok (.bipush 10, 2) := fchk_d fw_dX8_packs_0_c (59, .bipush 10, 2) (List.mem_of_getElem? (i := 38) rfl)
theorem dX8_packs_61 : decode cX8_packs 61 = .ok (.iload_n 1, 1) := fchk_d fw_dX8_packs_0_c (61, .iload_n 1, 1) (List.mem_of_getElem? (i := 39) rfl)
def fw_dX8_packs_62 : List (Nat × Instr × Nat) := [(62, .imul, 1), (63, .iload 5, 2), (65, .iadd, 1), (66, .bipush 10, 2), (68, .iload_n 1, 1), (69, .imul, 1), (70, .iload 4, 2), (72, .iadd, 1), (73, .invokevirtual 186, 3), (76, .istore 6, 2), (78, .iload 6, 2), (80, .iconst 2, 1), (81, .if_icmp .ne 17, 3), (84, .aload_n 0, 1), (85, .getfield 60, 3), (88, .iload 4, 2), (90, .dup2, 1), (91, .iaload, 1), (92, .iconst 1, 1), (93, .iload 5, 2), (95, .ishl, 1), (96, .ior, 1), (97, .iastore, 1), (98, .iload 6, 2), (100, .iconst 1, 1), (101, .if_icmp .ne 17, 3), (104, .aload_n 0, 1), (105, .getfield 63, 3), (108, .iload 4, 2), (110, .dup2, 1), (111, .iaload, 1), (112, .iconst 1, 1), (113, .iload 5, 2), (115, .ishl, 1), (116, .ior, 1), (117, .iastore, 1)]
theorem fw_dX8_packs_62_c : fchk 62 (cX8_packs.data.toList.drop 62) fw_dX8_packs_62 = true := by decide +kernel
theorem dX8_packs_62 : decode cX8_packs 62 = .ok (.imul, 1) := fchk_d fw_dX8_packs_62_c (62, .imul, 1) (List.mem_of_getElem? (i := 0) rfl)
theorem dX8_packs_63 : decode cX8_packs 63 = .ok (.iload 5, 2) := fchk_d fw_dX8_packs_62_c (63, .iload 5, 2) (List.mem_of_getElem? (i := 1) rfl)
theorem dX8_packs_65 : decode cX8_packs 65 = .ok (.iadd, 1) := fchk_d fw_dX8_packs_62_c (65, .iadd, 1) (List.mem_of_getElem? (i := 2) rfl)
theorem dX8_packs_66 : decode cX8_packs 66 = .ok (.bipush 10, 2) := fchk_d fw_dX8_packs_62_c (66, .bipush 10, 2) (List.mem_of_getElem? (i := 3) rfl)
theorem dX8_packs_68 : decode cX8_packs 68 = .ok (.iload_n 1, 1) := fchk_d fw_dX8_packs_62_c (68, .iload_n 1, 1) (List.mem_of_getElem? (i := 4) rfl)
theorem dX8_packs_69 : decode cX8_packs 69 = .ok (.imul, 1) := fchk_d fw_dX8_packs_62_c (69, .imul, 1) (List.mem_of_getElem? (i := 5) rfl)
theorem dX8_packs_70 : decode cX8_packs 70 = .ok (.iload 4, 2) := fchk_d fw_dX8_packs_62_c (70, .iload 4, 2) (List.mem_of_getElem? (i := 6) rfl)
theorem dX8_packs_72 : decode cX8_packs 72 = .ok (.iadd, 1) := fchk_d fw_dX8_packs_62_c (72, .iadd, 1) (List.mem_of_getElem? (i := 7) rfl)
theorem dX8_packs_73 : decode cX8_packs 73 = .ok (.invokevirtual 186, 3) := fchk_d fw_dX8_packs_62_c (73, .invokevirtual 186, 3) (List.mem_of_getElem? (i := 8) rfl)
theorem dX8_packs_76 : decode cX8_packs 76 = .ok (.istore 6, 2) := fchk_d fw_dX8_packs_62_c (76, .istore 6, 2) (List.mem_of_getElem? (i := 9) rfl)
theorem dX8_packs_78 : decode cX8_packs 78 = .ok (.iload 6, 2) := fchk_d fw_dX8_packs_62_c (78, .iload 6, 2) (List.mem_of_getElem? (i := 10) rfl)
theorem dX8_packs_80 : decode cX8_packs 80 = .ok (.iconst 2, 1) := fchk_d fw_dX8_packs_62_c (80, .iconst 2, 1) (List.mem_of_getElem? (i := 11) rfl)
theorem dX8_packs_81 : decode cX8_packs 81 = .ok (.if_icmp .ne 17, 3) := fchk_d fw_dX8_packs_62_c (81, .if_icmp .ne 17, 3) (List.mem_of_getElem? (i := 12) rfl)
theorem dX8_packs_84 : decode cX8_packs 84 = .ok (.aload_n 0, 1) := fchk_d fw_dX8_packs_62_c (84, .aload_n 0, 1) (List.mem_of_getElem? (i := 13) rfl)
theorem dX8_packs_85 : decode cX8_packs 85 = .ok (.getfield 60, 3) := fchk_d fw_dX8_packs_62_c (85, .getfield 60, 3) (List.mem_of_getElem? (i := 14) rfl)
theorem dX8_packs_88 : decode cX8_packs 88 = .ok (.iload 4, 2) := fchk_d fw_dX8_packs_62_c (88, .iload 4, 2) (List.mem_of_getElem? (i := 15) rfl)
theorem dX8_packs_90 : decode cX8_packs 90 = .ok (.dup2, 1) := fchk_d fw_dX8_packs_62_c (90, .dup2, 1) (List.mem_of_getElem? (i := 16) rfl)
theorem dX8_packs_91 : decode cX8_packs 91 = .ok (.iaload, 1) := fchk_d fw_dX8_packs_62_c (91, .iaload, 1) (List.mem_of_getElem? (i := 17) rfl)
theorem dX8_packs_92 : decode cX8_packs 92 = .ok (.iconst 1, 1) := fchk_d fw_dX8_packs_62_c (92, .iconst 1, 1) (List.mem_of_getElem? (i := 18) rfl)
theorem dX8_packs_93 : decode cX8_packs 93 = .ok (.iload 5, 2) := fchk_d fw_dX8_packs_62_c (93, .iload 5, 2) (List.mem_of_getElem? (i := 19) rfl)
theorem dX8_packs_95 : decode cX8_packs 95 = .ok (.ishl, 1) := fchk_d fw_dX8_packs_62_c (95, .ishl, 1) (List.mem_of_getElem? (i := 20) rfl)
theorem dX8_packs_96 : decode cX8_packs 96 = .ok (.ior, 1) := fchk_d fw_dX8_packs_62_c (96, .ior, 1) (List.mem_of_getElem? (i := 21) rfl)
theorem dX8_packs_97 : decode cX8_packs 97 = .ok (.iastore, 1) := fchk_d fw_dX8_packs_62_c (97, .iastore, 1) (List.mem_of_getElem? (i := 22) rfl)
theorem dX8_packs_98 : decode cX8_packs 98 = .ok (.iload 6, 2) := fchk_d fw_dX8_packs_62_c (98, .iload 6, 2) (List.mem_of_getElem? (i := 23) rfl)
theorem dX8_packs_100 : decode cX8_packs 100 = .ok (.iconst 1, 1) := fchk_d fw_dX8_packs_62_c (100, .iconst 1, 1) (List.mem_of_getElem? (i := 24) rfl)
theorem dX8_packs_101 : decode cX8_packs 101 = .ok (.if_icmp .ne 17, 3) := fchk_d fw_dX8_packs_62_c (101, .if_icmp .ne 17, 3) (List.mem_of_getElem? (i := 25) rfl)
theorem dX8_packs_104 : decode cX8_packs 104 = .ok (.aload_n 0, 1) := fchk_d fw_dX8_packs_62_c (104, .aload_n 0, 1) (List.mem_of_getElem? (i := 26) rfl)
theorem dX8_packs_105 : decode cX8_packs 105 = .ok (.getfield 63, 3) := fchk_d fw_dX8_packs_62_c (105, .getfield 63, 3) (List.mem_of_getElem? (i := 27) rfl)
theorem dX8_packs_108 : decode cX8_packs 108 = .ok (.iload 4, 2) := fchk_d fw_dX8_packs_62_c (108, .iload 4, 2) (List.mem_of_getElem? (i := 28) rfl)
theorem dX8_packs_110 : decode cX8_packs 110 = .ok (.dup2, 1) := fchk_d fw_dX8_packs_62_c (110, .dup2, 1) (List.mem_of_getElem? (i := 29) rfl)
theorem dX8_packs_111 : decode cX8_packs 111 = .ok (.iaload, 1) := fchk_d fw_dX8_packs_62_c (111, .iaload, 1) (List.mem_of_getElem? (i := 30) rfl)
theorem dX8_packs_112 : decode cX8_packs 112 = .ok (.iconst 1, 1) := fchk_d fw_dX8_packs_62_c (112, .iconst 1, 1) (List.mem_of_getElem? (i := 31) rfl)
theorem dX8_packs_113 : decode cX8_packs 113 = .ok (.iload 5, 2) := fchk_d fw_dX8_packs_62_c (113, .iload 5, 2) (List.mem_of_getElem? (i := 32) rfl)
theorem dX8_packs_115 : decode cX8_packs 115 = .ok (.ishl, 1) := fchk_d fw_dX8_packs_62_c (115, .ishl, 1) (List.mem_of_getElem? (i := 33) rfl)
theorem dX8_packs_116 : decode cX8_packs 116 = .ok (.ior, 1) := fchk_d fw_dX8_packs_62_c (116, .ior, 1) (List.mem_of_getElem? (i := 34) rfl)
theorem dX8_packs_117 : decode cX8_packs 117 = .ok (.iastore, 1) := fchk_d fw_dX8_packs_62_c (117, .iastore, 1) (List.mem_of_getElem? (i := 35) rfl)
theorem dX8_packs_118 : decode cX8_packs 118 = .ok (.iinc 5 1, 3) := by decide +kernel
def fw_dX8_packs_121 : List (Nat × Instr × Nat) := [(121, .goto (-70), 3)]
theorem fw_dX8_packs_121_c : fchk 121 (cX8_packs.data.toList.drop 121) fw_dX8_packs_121 = true := by decide +kernel
theorem dX8_packs_121 : decode cX8_packs 121 = .ok (.goto (-70), 3) := fchk_d fw_dX8_packs_121_c (121, .goto (-70), 3) (List.mem_of_getElem? (i := 0) rfl)
theorem dX8_packs_124 : decode cX8_packs 124 = .ok (.iinc 4 1, 3) := by decide +kernel
def fw_dX8_packs_127 : List (Nat × Instr × Nat) := [(127, .goto (-101), 3), (130, .aload_n 0, 1), (131, .getfield 51, 3), (134, .iload_n 3, 1), (135, .iconst 0, 1), (136, .iastore, 1), (137, .iload_n 3, 1), (138, .iconst 1, 1), (139, .isub, 1), (140, .istore 4, 2), (142, .iload 4, 2), (144, .ifCond .lt 101, 3), (147, .aload_n 0, 1), (148, .getfield 51, 3), (151, .iload 4, 2), (153, .sipush 1000, 3), (156, .iastore, 1), (157, .iload_n 3, 1), (158, .iload 4, 2), (160, .iconst (-1), 1), (161, .ixor, 1), (162, .iand, 1), (163, .istore 5, 2), (165, .iload 5, 2), (167, .istore 6, 2), (169, .iload 6, 2), (171, .ifCond .le 68, 3), (174, .aload_n 0, 1), (175, .getfield 51, 3), (178, .iload 4, 2), (180, .iload 6, 2), (182, .ior, 1), (183, .iaload, 1), (184, .iconst 1, 1), (185, .iadd, 1), (186, .aload_n 0, 1), (187, .getfield 51, 3), (190, .iload 4, 2), (192, .iaload, 1), (193, .if_icmp .ge 34, 3)]
theorem fw_dX8_packs_127_c : fchk 127 (cX8_packs.data.toList.drop 127) fw_dX8_packs_127 = true := by decide +kernel
theorem dX8_packs_127 : decode cX8_packs 127 = .ok (.goto (-101), 3) := fchk_d fw_dX8_packs_127_c (127, .goto (-101), 3) (List.mem_of_getElem? (i := 0) rfl)
theorem dX8_packs_130 : decode cX8_packs 130 = .ok (.aload_n 0, 1) := fchk_d fw_dX8_packs_127_c (130, .aload_n 0, 1) (List.mem_of_getElem? (i := 1) rfl)
theorem dX8_packs_131 : decode cX8_packs 131 = .ok (.getfield 51, 3) := fchk_d fw_dX8_packs_127_c (131, .getfield 51, 3) (List.mem_of_getElem? (i := 2) rfl)
theorem dX8_packs_134 : decode cX8_packs 134 = .ok (.iload_n 3, 1) := fchk_d fw_dX8_packs_127_c (134, .iload_n 3, 1) (List.mem_of_getElem? (i := 3) rfl)
theorem dX8_packs_135 : decode cX8_packs 135 = .ok (.iconst 0, 1) := fchk_d fw_dX8_packs_127_c (135, .iconst 0, 1) (List.mem_of_getElem? (i := 4) rfl)
theorem dX8_packs_136 : decode cX8_packs 136 = .ok (.iastore, 1) := fchk_d fw_dX8_packs_127_c (136, .iastore, 1) (List.mem_of_getElem? (i := 5) rfl)
theorem dX8_packs_137 : decode cX8_packs 137 = .ok (.iload_n 3, 1) := fchk_d fw_dX8_packs_127_c (137, .iload_n 3, 1) (List.mem_of_getElem? (i := 6) rfl)
theorem dX8_packs_138 : decode cX8_packs 138 = .ok (.iconst 1, 1) := fchk_d fw_dX8_packs_127_c (138, .iconst 1, 1) (List.mem_of_getElem? (i := 7) rfl)
theorem dX8_packs_139 : decode cX8_packs 139 = .ok (.isub, 1) := fchk_d fw_dX8_packs_127_c (139, .isub, 1) (List.mem_of_getElem? (i := 8) rfl)
theorem dX8_packs_140 : decode cX8_packs 140 = .ok (.istore 4, 2) := fchk_d fw_dX8_packs_127_c (140, .istore 4, 2) (List.mem_of_getElem? (i := 9) rfl)
theorem dX8_packs_142 : decode cX8_packs 142 = .ok (.iload 4, 2) := fchk_d fw_dX8_packs_127_c (142, .iload 4, 2) (List.mem_of_getElem? (i := 10) rfl)
theorem dX8_packs_144 : decode cX8_packs 144 = .ok (.ifCond .lt 101, 3) := fchk_d fw_dX8_packs_127_c (144, .ifCond .lt 101, 3) (List.mem_of_getElem? (i := 11) rfl)
theorem dX8_packs_147 : decode cX8_packs 147 = .ok (.aload_n 0, 1) := fchk_d fw_dX8_packs_127_c (147, .aload_n 0, 1) (List.mem_of_getElem? (i := 12) rfl)
theorem dX8_packs_148 : decode cX8_packs 148 = .ok (.getfield 51, 3) := fchk_d fw_dX8_packs_127_c (148, .getfield 51, 3) (List.mem_of_getElem? (i := 13) rfl)
theorem dX8_packs_151 : decode cX8_packs 151 = .ok (.iload 4, 2) := fchk_d fw_dX8_packs_127_c (151, .iload 4, 2) (List.mem_of_getElem? (i := 14) rfl)
theorem dX8_packs_153 : decode cX8_packs 153 = .ok (.sipush 1000, 3) := fchk_d fw_dX8_packs_127_c (153, .sipush 1000, 3) (List.mem_of_getElem? (i := 15) rfl)
theorem dX8_packs_156 : decode cX8_packs 156 = .ok (.iastore, 1) := fchk_d fw_dX8_packs_127_c (156, .iastore, 1) (List.mem_of_getElem? (i := 16) rfl)
theorem dX8_packs_157 : decode cX8_packs 157 = .ok (.iload_n 3, 1) := fchk_d fw_dX8_packs_127_c (157, .iload_n 3, 1) (List.mem_of_getElem? (i := 17) rfl)
theorem dX8_packs_158 : decode cX8_packs 158 = .ok (.iload 4, 2) := fchk_d fw_dX8_packs_127_c (158, .iload 4, 2) (List.mem_of_getElem? (i := 18) rfl)
theorem dX8_packs_160 : decode cX8_packs 160 = .ok (.iconst (-1), 1) := fchk_d fw_dX8_packs_127_c (160, .iconst (-1), 1) (List.mem_of_getElem? (i := 19) rfl)
theorem dX8_packs_161 : decode cX8_packs 161 = .ok (.ixor, 1) := fchk_d fw_dX8_packs_127_c (161, .ixor, 1) (List.mem_of_getElem? (i := 20) rfl)
theorem dX8_packs_162 : decode cX8_packs 162 = .ok (.iand, 1) := fchk_d fw_dX8_packs_127_c (162, .iand, 1) (List.mem_of_getElem? (i := 21) rfl)
theorem dX8_packs_163 : decode cX8_packs 163 = .ok (.istore 5, 2) := fchk_d fw_dX8_packs_127_c (163, .istore 5, 2) (List.mem_of_getElem? (i := 22) rfl)
theorem dX8_packs_165 : decode cX8_packs 165 = .ok (.iload 5, 2) := fchk_d fw_dX8_packs_127_c (165, .iload 5, 2) (List.mem_of_getElem? (i := 23) rfl)
theorem dX8_packs_167 : decode cX8_packs 167 = .ok (.istore 6, 2) := fchk_d fw_dX8_packs_127_c (167, .istore 6, 2) (List.mem_of_getElem? (i := 24) rfl)
theorem dX8_packs_169 : decode cX8_packs 169 = .ok (.iload 6, 2) := fchk_d fw_dX8_packs_127_c (169, .iload 6, 2) (List.mem_of_getElem? (i := 25) rfl)
theorem dX8_packs_171 : decode cX8_packs 171 = .ok (.ifCond .le 68, 3) := fchk_d fw_dX8_packs_127_c (171, .ifCond .le 68, 3) (List.mem_of_getElem? (i := 26) rfl)
theorem dX8_packs_174 : decode cX8_packs 174 = .ok (.aload_n 0, 1) := fchk_d fw_dX8_packs_127_c (174, .aload_n 0, 1) (List.mem_of_getElem? (i := 27) rfl)
theorem dX8_packs_175 : decode cX8_packs 175 = .ok (.getfield 51, 3) := fchk_d fw_dX8_packs_127_c (175, .getfield 51, 3) (List.mem_of_getElem? (i := 28) rfl)
theorem dX8_packs_178 : decode cX8_packs 178 = .ok (.iload 4, 2) := fchk_d fw_dX8_packs_127_c (178, .iload 4, 2) (List.mem_of_getElem? (i := 29) rfl)
theorem dX8_packs_180 : decode cX8_packs 180 = .ok (.iload 6, 2) := fchk_d fw_dX8_packs_127_c (180, .iload 6, 2) (List.mem_of_getElem? (i := 30) rfl)
theorem dX8_packs_182 : decode cX8_packs 182 = .ok (.ior, 1) := fchk_d fw_dX8_packs_127_c (182, .ior, 1) (List.mem_of_getElem? (i := 31) rfl)
theorem dX8_packs_183 : decode cX8_packs 183 = .ok (.iaload, 1) := fchk_d fw_dX8_packs_127_c (183, .iaload, 1) (List.mem_of_getElem? (i := 32) rfl)
theorem dX8_packs_184 : decode cX8_packs 184 = .ok (.iconst 1, 1) := fchk_d fw_dX8_packs_127_c (184, .iconst 1, 1) (List.mem_of_getElem? (i := 33) rfl)
theorem dX8_packs_185 : decode cX8_packs 185 = .ok (.iadd, 1) := fchk_d fw_dX8_packs_127_c (185, .iadd, 1) (List.mem_of_getElem? (i := 34) rfl)
theorem dX8_packs_186 : decode cX8_packs 186 = .ok (.aload_n 0, 1) := fchk_d fw_dX8_packs_127_c (186, .aload_n 0, 1) (List.mem_of_getElem? (i := 35) rfl)
theorem dX8_packs_187 : decode cX8_packs 187 = .ok (.getfield 51, 3) := fchk_d fw_dX8_packs_127_c (187, .getfield 51, 3) (List.mem_of_getElem? (i := 36) rfl)
theorem dX8_packs_190 : decode cX8_packs 190 = .ok (.iload 4, 2) := fchk_d fw_dX8_packs_127_c (190, .iload 4, 2) (List.mem_of_getElem? (i := 37) rfl)
theorem dX8_packs_192 : decode cX8_packs 192 = .ok (.iaload, 1) := fchk_d fw_dX8_packs_127_c (192, .iaload, 1) (List.mem_of_getElem? (i := 38) rfl)
theorem dX8_packs_193 : decode cX8_packs 193 = .ok (.if_icmp .ge 34, 3) := fchk_d fw_dX8_packs_127_c (193, .if_icmp .ge 34, 3) (List.mem_of_getElem? (i := 39) rfl)
def fw_dX8_packs_196 : List (Nat × Instr × Nat) := [(196, .aload_n 0, 1), (197, .iload_n 1, 1), (198, .iload 4, 2), (200, .iload 6, 2), (202, .invokevirtual 190, 3), (205, .ifCond .eq 22, 3), (208, .aload_n 0, 1), (209, .getfield 51, 3), (212, .iload 4, 2), (214, .aload_n 0, 1), (215, .getfield 51, 3), (218, .iload 4, 2), (220, .iload 6, 2), (222, .ior, 1), (223, .iaload, 1), (224, .iconst 1, 1), (225, .iadd, 1), (226, .iastore, 1), (227, .iload 6, 2), (229, .iconst 1, 1), (230, .isub, 1), (231, .iload 5, 2), (233, .iand, 1), (234, .istore 6, 2), (236, .goto (-67), 3)]
theorem fw_dX8_packs_196_c : fchk 196 (cX8_packs.data.toList.drop 196) fw_dX8_packs_196 = true := by decide +kernel
theorem dX8_packs_196 : decode cX8_packs 196 = .ok (.aload_n 0, 1) := fchk_d fw_dX8_packs_196_c (196, .aload_n 0, 1) (List.mem_of_getElem? (i := 0) rfl)
theorem dX8_packs_197 : decode cX8_packs 197 = .ok (.iload_n 1, 1) := fchk_d fw_dX8_packs_196_c (197, .iload_n 1, 1) (List.mem_of_getElem? (i := 1) rfl)
theorem dX8_packs_198 : decode cX8_packs 198 = .ok (.iload 4, 2) := fchk_d fw_dX8_packs_196_c (198, .iload 4, 2) (List.mem_of_getElem? (i := 2) rfl)
theorem dX8_packs_200 : decode cX8_packs 200 = .ok (.iload 6, 2) := fchk_d fw_dX8_packs_196_c (200, .iload 6, 2) (List.mem_of_getElem? (i := 3) rfl)
theorem dX8_packs_202 : decode cX8_packs 202 = .ok (.invokevirtual 190, 3) := fchk_d fw_dX8_packs_196_c (202, .invokevirtual 190, 3) (List.mem_of_getElem? (i := 4) rfl)
theorem dX8_packs_205 : decode cX8_packs 205 = .ok (.ifCond .eq 22, 3) := fchk_d fw_dX8_packs_196_c (205, .ifCond .eq 22, 3) (List.mem_of_getElem? (i := 5) rfl)
theorem dX8_packs_208 : decode cX8_packs 208 = .ok (.aload_n 0, 1) := fchk_d fw_dX8_packs_196_c (208, .aload_n 0, 1) (List.mem_of_getElem? (i := 6) rfl)
theorem dX8_packs_209 : decode cX8_packs 209 = .ok (.getfield 51, 3) := fchk_d fw_dX8_packs_196_c (209, .getfield 51, 3) (List.mem_of_getElem? (i := 7) rfl)
theorem dX8_packs_212 : decode cX8_packs 212 = .ok (.iload 4, 2) := fchk_d fw_dX8_packs_196_c (212, .iload 4, 2) (List.mem_of_getElem? (i := 8) rfl)
theorem dX8_packs_214 : decode cX8_packs 214 = .ok (.aload_n 0, 1) := fchk_d fw_dX8_packs_196_c (214, .aload_n 0, 1) (List.mem_of_getElem? (i := 9) rfl)
theorem dX8_packs_215 : decode cX8_packs 215 = .ok (.getfield 51, 3) := fchk_d fw_dX8_packs_196_c (215, .getfield 51, 3) (List.mem_of_getElem? (i := 10) rfl)
theorem dX8_packs_218 : decode cX8_packs 218 = .ok (.iload 4, 2) := fchk_d fw_dX8_packs_196_c (218, .iload 4, 2) (List.mem_of_getElem? (i := 11) rfl)
theorem dX8_packs_220 : decode cX8_packs 220 = .ok (.iload 6, 2) := fchk_d fw_dX8_packs_196_c (220, .iload 6, 2) (List.mem_of_getElem? (i := 12) rfl)
theorem dX8_packs_222 : decode cX8_packs 222 = .ok (.ior, 1) := fchk_d fw_dX8_packs_196_c (222, .ior, 1) (List.mem_of_getElem? (i := 13) rfl)
theorem dX8_packs_223 : decode cX8_packs 223 = .ok (.iaload, 1) := fchk_d fw_dX8_packs_196_c (223, .iaload, 1) (List.mem_of_getElem? (i := 14) rfl)
theorem dX8_packs_224 : decode cX8_packs 224 = .ok (.iconst 1, 1) := fchk_d fw_dX8_packs_196_c (224, .iconst 1, 1) (List.mem_of_getElem? (i := 15) rfl)
theorem dX8_packs_225 : decode cX8_packs 225 = .ok (.iadd, 1) := fchk_d fw_dX8_packs_196_c (225, .iadd, 1) (List.mem_of_getElem? (i := 16) rfl)
theorem dX8_packs_226 : decode cX8_packs 226 = .ok (.iastore, 1) := fchk_d fw_dX8_packs_196_c (226, .iastore, 1) (List.mem_of_getElem? (i := 17) rfl)
theorem dX8_packs_227 : decode cX8_packs 227 = .ok (.iload 6, 2) := fchk_d fw_dX8_packs_196_c (227, .iload 6, 2) (List.mem_of_getElem? (i := 18) rfl)
theorem dX8_packs_229 : decode cX8_packs 229 = .ok (.iconst 1, 1) := fchk_d fw_dX8_packs_196_c (229, .iconst 1, 1) (List.mem_of_getElem? (i := 19) rfl)
theorem dX8_packs_230 : decode cX8_packs 230 = .ok (.isub, 1) := fchk_d fw_dX8_packs_196_c (230, .isub, 1) (List.mem_of_getElem? (i := 20) rfl)
theorem dX8_packs_231 : decode cX8_packs 231 = .ok (.iload 5, 2) := fchk_d fw_dX8_packs_196_c (231, .iload 5, 2) (List.mem_of_getElem? (i := 21) rfl)
theorem dX8_packs_233 : decode cX8_packs 233 = .ok (.iand, 1) := fchk_d fw_dX8_packs_196_c (233, .iand, 1) (List.mem_of_getElem? (i := 22) rfl)
theorem dX8_packs_234 : decode cX8_packs 234 = .ok (.istore 6, 2) := fchk_d fw_dX8_packs_196_c (234, .istore 6, 2) (List.mem_of_getElem? (i := 23) rfl)
theorem dX8_packs_236 : decode cX8_packs 236 = .ok (.goto (-67), 3) := fchk_d fw_dX8_packs_196_c (236, .goto (-67), 3) (List.mem_of_getElem? (i := 24) rfl)
theorem dX8_packs_239 : decode cX8_packs 239 = .ok (.iinc 4 (-1), 3) := by decide +kernel
def fw_dX8_packs_242 : List (Nat × Instr × Nat) := [(242, .goto (-100), 3), (245, .iconst 0, 1), (246, .istore 4, 2), (248, .iconst 0, 1), (249, .istore 5, 2), (251, .iload 4, 2), (253, .iload_n 3, 1), (254, .if_icmp .eq 116, 3), (257, .iconst 1, 1), (258, .istore 6, 2), (260, .iload 6, 2), (262, .iload 4, 2), (264, .iand, 1), (265, .ifCond .ne 46, 3), (268, .iload 6, 2), (270, .iload_n 3, 1), (271, .iconst (-1), 1), (272, .ixor, 1), (273, .iand, 1), (274, .ifCond .ne 37, 3), (277, .aload_n 0, 1), (278, .getfield 51, 3), (281, .iload 4, 2), (283, .iload 6, 2), (285, .ior, 1), (286, .iaload, 1), (287, .iconst 1, 1), (288, .iadd, 1), (289, .aload_n 0, 1), (290, .getfield 51, 3), (293, .iload 4, 2), (295, .iaload, 1), (296, .if_icmp .ne 15, 3), (299, .aload_n 0, 1), (300, .iload_n 1, 1), (301, .iload 4, 2), (303, .iload 6, 2), (305, .invokevirtual 190, 3), (308, .ifCond .ne 9, 3)]
theorem fw_dX8_packs_242_c : fchk 242 (cX8_packs.data.toList.drop 242) fw_dX8_packs_242 = true := by decide +kernel
theorem dX8_packs_242 : decode cX8_packs 242 = .ok (.goto (-100), 3) := fchk_d fw_dX8_packs_242_c (242, .goto (-100), 3) (List.mem_of_getElem? (i := 0) rfl)
theorem dX8_packs_245 : decode cX8_packs 245 = .ok (.iconst 0, 1) := fchk_d fw_dX8_packs_242_c (245, .iconst 0, 1) (List.mem_of_getElem? (i := 1) rfl)
theorem dX8_packs_246 : decode cX8_packs 246 = .ok (.istore 4, 2) := fchk_d fw_dX8_packs_242_c (246, .istore 4, 2) (List.mem_of_getElem? (i := 2) rfl)
theorem dX8_packs_248 : decode cX8_packs 248 = .ok (.iconst 0, 1) := fchk_d fw_dX8_packs_242_c (248, .iconst 0, 1) (List.mem_of_getElem? (i := 3) rfl)
theorem dX8_packs_249 : decode cX8_packs 249 = .ok (.istore 5, 2) := fchk_d fw_dX8_packs_242_c (249, .istore 5, 2) (List.mem_of_getElem? (i := 4) rfl)
theorem dX8_packs_251 : decode cX8_packs 251 = .ok (.iload 4, 2) := fchk_d fw_dX8_packs_242_c (251, .iload 4, 2) (List.mem_of_getElem? (i := 5) rfl)
theorem dX8_packs_253 : decode cX8_packs 253 = .ok (.iload_n 3, 1) := fchk_d fw_dX8_packs_242_c (253, .iload_n 3, 1) (List.mem_of_getElem? (i := 6) rfl)
theorem dX8_packs_254 : decode cX8_packs 254 = .ok (.if_icmp .eq 116, 3) := fchk_d fw_dX8_packs_242_c (254, .if_icmp .eq 116, 3) (List.mem_of_getElem? (i := 7) rfl)
theorem dX8_packs_257 : decode cX8_packs 257 = .ok (.iconst 1, 1) := fchk_d fw_dX8_packs_242_c (257, .iconst 1, 1) (List.mem_of_getElem? (i := 8) rfl)
theorem dX8_packs_258 : decode cX8_packs 258 = .ok (.istore 6, 2) := fchk_d fw_dX8_packs_242_c (258, .istore 6, 2) (List.mem_of_getElem? (i := 9) rfl)
theorem dX8_packs_260 : decode cX8_packs 260 = .ok (.iload 6, 2) := fchk_d fw_dX8_packs_242_c (260, .iload 6, 2) (List.mem_of_getElem? (i := 10) rfl)
theorem dX8_packs_262 : decode cX8_packs 262 = .ok (.iload 4, 2) := fchk_d fw_dX8_packs_242_c (262, .iload 4, 2) (List.mem_of_getElem? (i := 11) rfl)
theorem dX8_packs_264 : decode cX8_packs 264 = .ok (.iand, 1) := fchk_d fw_dX8_packs_242_c (264, .iand, 1) (List.mem_of_getElem? (i := 12) rfl)
theorem dX8_packs_265 : decode cX8_packs 265 = .ok (.ifCond .ne 46, 3) := fchk_d fw_dX8_packs_242_c (265, .ifCond .ne 46, 3) (List.mem_of_getElem? (i := 13) rfl)
theorem dX8_packs_268 : decode cX8_packs 268 = .ok (.iload 6, 2) := fchk_d fw_dX8_packs_242_c (268, .iload 6, 2) (List.mem_of_getElem? (i := 14) rfl)
theorem dX8_packs_270 : decode cX8_packs 270 = .ok (.iload_n 3, 1) := fchk_d fw_dX8_packs_242_c (270, .iload_n 3, 1) (List.mem_of_getElem? (i := 15) rfl)
theorem dX8_packs_271 : decode cX8_packs 271 = .ok (.iconst (-1), 1) := fchk_d fw_dX8_packs_242_c (271, .iconst (-1), 1) (List.mem_of_getElem? (i := 16) rfl)
theorem dX8_packs_272 : decode cX8_packs 272 = .ok (.ixor, 1) := fchk_d fw_dX8_packs_242_c (272, .ixor, 1) (List.mem_of_getElem? (i := 17) rfl)
theorem dX8_packs_273 : decode cX8_packs 273 = .ok (.iand, 1) := fchk_d fw_dX8_packs_242_c (273, .iand, 1) (List.mem_of_getElem? (i := 18) rfl)
theorem dX8_packs_274 : decode cX8_packs 274 = .ok (.ifCond .ne 37, 3) := fchk_d fw_dX8_packs_242_c (274, .ifCond .ne 37, 3) (List.mem_of_getElem? (i := 19) rfl)
theorem dX8_packs_277 : decode cX8_packs 277 = .ok (.aload_n 0, 1) := fchk_d fw_dX8_packs_242_c (277, .aload_n 0, 1) (List.mem_of_getElem? (i := 20) rfl)
theorem dX8_packs_278 : decode cX8_packs 278 = .ok (.getfield 51, 3) := fchk_d fw_dX8_packs_242_c (278, .getfield 51, 3) (List.mem_of_getElem? (i := 21) rfl)
theorem dX8_packs_281 : decode cX8_packs 281 = .ok (.iload 4, 2) := fchk_d fw_dX8_packs_242_c (281, .iload 4, 2) (List.mem_of_getElem? (i := 22) rfl)
theorem dX8_packs_283 : decode cX8_packs 283 = .ok (.iload 6, 2) := fchk_d fw_dX8_packs_242_c (283, .iload 6, 2) (List.mem_of_getElem? (i := 23) rfl)
theorem dX8_packs_285 : decode cX8_packs 285 = .ok (.ior, 1) := fchk_d fw_dX8_packs_242_c (285, .ior, 1) (List.mem_of_getElem? (i := 24) rfl)
theorem dX8_packs_286 : decode cX8_packs 286 = .ok (.iaload, 1) := fchk_d fw_dX8_packs_242_c (286, .iaload, 1) (List.mem_of_getElem? (i := 25) rfl)
theorem dX8_packs_287 : decode cX8_packs 287 = .ok (.iconst 1, 1) := fchk_d fw_dX8_packs_242_c (287, .iconst 1, 1) (List.mem_of_getElem? (i := 26) rfl)
theorem dX8_packs_288 : decode cX8_packs 288 = .ok (.iadd, 1) := fchk_d fw_dX8_packs_242_c (288, .iadd, 1) (List.mem_of_getElem? (i := 27) rfl)
theorem dX8_packs_289 : decode cX8_packs 289 = .ok (.aload_n 0, 1) := fchk_d fw_dX8_packs_242_c (289, .aload_n 0, 1) (List.mem_of_getElem? (i := 28) rfl)
theorem dX8_packs_290 : decode cX8_packs 290 = .ok (.getfield 51, 3) := fchk_d fw_dX8_packs_242_c (290, .getfield 51, 3) (List.mem_of_getElem? (i := 29) rfl)
theorem dX8_packs_293 : decode cX8_packs 293 = .ok (.iload 4, 2) := fchk_d fw_dX8_packs_242_c (293, .iload 4, 2) (List.mem_of_getElem? (i := 30) rfl)
theorem dX8_packs_295 : decode cX8_packs 295 = .ok (.iaload, 1) := fchk_d fw_dX8_packs_242_c (295, .iaload, 1) (List.mem_of_getElem? (i := 31) rfl)
theorem dX8_packs_296 : decode cX8_packs 296 = .ok (.if_icmp .ne 15, 3) := fchk_d fw_dX8_packs_242_c (296, .if_icmp .ne 15, 3) (List.mem_of_getElem? (i := 32) rfl)
theorem dX8_packs_299 : decode cX8_packs 299 = .ok (.aload_n 0, 1) := fchk_d fw_dX8_packs_242_c (299, .aload_n 0, 1) (List.mem_of_getElem? (i := 33) rfl)
theorem dX8_packs_300 : decode cX8_packs 300 = .ok (.iload_n 1, 1) := fchk_d fw_dX8_packs_242_c (300, .iload_n 1, 1) (List.mem_of_getElem? (i := 34) rfl)
theorem dX8_packs_301 : decode cX8_packs 301 = .ok (.iload 4, 2) := fchk_d fw_dX8_packs_242_c (301, .iload 4, 2) (List.mem_of_getElem? (i := 35) rfl)
theorem dX8_packs_303 : decode cX8_packs 303 = .ok (.iload 6, 2) := fchk_d fw_dX8_packs_242_c (303, .iload 6, 2) (List.mem_of_getElem? (i := 36) rfl)
theorem dX8_packs_305 : decode cX8_packs 305 = .ok (.invokevirtual 190, 3) := fchk_d fw_dX8_packs_242_c (305, .invokevirtual 190, 3) (List.mem_of_getElem? (i := 37) rfl)
theorem dX8_packs_308 : decode cX8_packs 308 = .ok (.ifCond .ne 9, 3) := fchk_d fw_dX8_packs_242_c (308, .ifCond .ne 9, 3) (List.mem_of_getElem? (i := 38) rfl)
theorem dX8_packs_311 : decode cX8_packs 311 = .ok (.iinc 6 1, 3) := by decide +kernel
def fw_dX8_packs_314 : List (Nat × Instr × Nat) := [(314, .goto (-54), 3), (317, .iconst 0, 1), (318, .istore 7, 2), (320, .iload 7, 2), (322, .iload_n 2, 1), (323, .if_icmp .ge 34, 3), (326, .iload 6, 2), (328, .iload 7, 2), (330, .ishr, 1), (331, .iconst 1, 1), (332, .iand, 1), (333, .iconst 1, 1), (334, .if_icmp .ne 17, 3), (337, .aload_n 0, 1), (338, .getfield 54, 3), (341, .bipush 10, 2), (343, .iload_n 1, 1), (344, .imul, 1), (345, .iload 7, 2), (347, .iadd, 1), (348, .iload 5, 2), (350, .iastore, 1)]
theorem fw_dX8_packs_314_c : fchk 314 (cX8_packs.data.toList.drop 314) fw_dX8_packs_314 = true := by decide +kernel
theorem dX8_packs_314 : decode cX8_packs 314 = .ok (.goto (-54), 3) := fchk_d fw_dX8_packs_314_c (314, .goto (-54), 3) (List.mem_of_getElem? (i := 0) rfl)
theorem dX8_packs_317 : decode cX8_packs 317 = .ok (.iconst 0, 1) := fchk_d fw_dX8_packs_314_c (317, .iconst 0, 1) (List.mem_of_getElem? (i := 1) rfl)
theorem dX8_packs_318 : decode cX8_packs 318 = .ok (.istore 7, 2) := fchk_d fw_dX8_packs_314_c (318, .istore 7, 2) (List.mem_of_getElem? (i := 2) rfl)
theorem dX8_packs_320 : decode cX8_packs 320 = .ok (.iload 7, 2) := fchk_d fw_dX8_packs_314_c (320, .iload 7, 2) (List.mem_of_getElem? (i := 3) rfl)
theorem dX8_packs_322 : decode cX8_packs 322 = .ok (.iload_n 2, 1) := fchk_d fw_dX8_packs_314_c (322, .iload_n 2, 1) (List.mem_of_getElem? (i := 4) rfl)
theorem dX8_packs_323 : decode cX8_packs 323 = .ok (.if_icmp .ge 34, 3) := fchk_d fw_dX8_packs_314_c (323, .if_icmp .ge 34, 3) (List.mem_of_getElem? (i := 5) rfl)
theorem dX8_packs_326 : decode cX8_packs 326 = .ok (.iload 6, 2) := fchk_d fw_dX8_packs_314_c (326, .iload 6, 2) (List.mem_of_getElem? (i := 6) rfl)
theorem dX8_packs_328 : decode cX8_packs 328 = .ok (.iload 7, 2) := fchk_d fw_dX8_packs_314_c (328, .iload 7, 2) (List.mem_of_getElem? (i := 7) rfl)
theorem dX8_packs_330 : decode cX8_packs 330 = .ok (.ishr, 1) := fchk_d fw_dX8_packs_314_c (330, .ishr, 1) (List.mem_of_getElem? (i := 8) rfl)
theorem dX8_packs_331 : decode cX8_packs 331 = .ok (.iconst 1, 1) := fchk_d fw_dX8_packs_314_c (331, .iconst 1, 1) (List.mem_of_getElem? (i := 9) rfl)
theorem dX8_packs_332 : decode cX8_packs 332 = .ok (.iand, 1) := fchk_d fw_dX8_packs_314_c (332, .iand, 1) (List.mem_of_getElem? (i := 10) rfl)
theorem dX8_packs_333 : decode cX8_packs 333 = .ok (.iconst 1, 1) := fchk_d fw_dX8_packs_314_c (333, .iconst 1, 1) (List.mem_of_getElem? (i := 11) rfl)
theorem dX8_packs_334 : decode cX8_packs 334 = .ok (.if_icmp .ne 17, 3) := fchk_d fw_dX8_packs_314_c (334, .if_icmp .ne 17, 3) (List.mem_of_getElem? (i := 12) rfl)
theorem dX8_packs_337 : decode cX8_packs 337 = .ok (.aload_n 0, 1) := fchk_d fw_dX8_packs_314_c (337, .aload_n 0, 1) (List.mem_of_getElem? (i := 13) rfl)
theorem dX8_packs_338 : decode cX8_packs 338 = .ok (.getfield 54, 3) := fchk_d fw_dX8_packs_314_c (338, .getfield 54, 3) (List.mem_of_getElem? (i := 14) rfl)
theorem dX8_packs_341 : decode cX8_packs 341 = .ok (.bipush 10, 2) := fchk_d fw_dX8_packs_314_c (341, .bipush 10, 2) (List.mem_of_getElem? (i := 15) rfl)
theorem dX8_packs_343 : decode cX8_packs 343 = .ok (.iload_n 1, 1) := fchk_d fw_dX8_packs_314_c (343, .iload_n 1, 1) (List.mem_of_getElem? (i := 16) rfl)
theorem dX8_packs_344 : decode cX8_packs 344 = .ok (.imul, 1) := fchk_d fw_dX8_packs_314_c (344, .imul, 1) (List.mem_of_getElem? (i := 17) rfl)
theorem dX8_packs_345 : decode cX8_packs 345 = .ok (.iload 7, 2) := fchk_d fw_dX8_packs_314_c (345, .iload 7, 2) (List.mem_of_getElem? (i := 18) rfl)
theorem dX8_packs_347 : decode cX8_packs 347 = .ok (.iadd, 1) := fchk_d fw_dX8_packs_314_c (347, .iadd, 1) (List.mem_of_getElem? (i := 19) rfl)
theorem dX8_packs_348 : decode cX8_packs 348 = .ok (.iload 5, 2) := fchk_d fw_dX8_packs_314_c (348, .iload 5, 2) (List.mem_of_getElem? (i := 20) rfl)
theorem dX8_packs_350 : decode cX8_packs 350 = .ok (.iastore, 1) := fchk_d fw_dX8_packs_314_c (350, .iastore, 1) (List.mem_of_getElem? (i := 21) rfl)
theorem dX8_packs_351 : decode cX8_packs 351 = .ok (.iinc 7 1, 3) := by decide +kernel
def fw_dX8_packs_354 : List (Nat × Instr × Nat) := [(354, .goto (-34), 3), (357, .iload 4, 2), (359, .iload 6, 2), (361, .ior, 1), (362, .istore 4, 2)]
theorem fw_dX8_packs_354_c : fchk 354 (cX8_packs.data.toList.drop 354) fw_dX8_packs_354 = true := by decide +kernel
theorem dX8_packs_354 : decode cX8_packs 354 = .ok (.goto (-34), 3) := fchk_d fw_dX8_packs_354_c (354, .goto (-34), 3) (List.mem_of_getElem? (i := 0) rfl)
theorem dX8_packs_357 : decode cX8_packs 357 = .ok (.iload 4, 2) := fchk_d fw_dX8_packs_354_c (357, .iload 4, 2) (List.mem_of_getElem? (i := 1) rfl)
theorem dX8_packs_359 : decode cX8_packs 359 = .ok (.iload 6, 2) := fchk_d fw_dX8_packs_354_c (359, .iload 6, 2) (List.mem_of_getElem? (i := 2) rfl)
theorem dX8_packs_361 : decode cX8_packs 361 = .ok (.ior, 1) := fchk_d fw_dX8_packs_354_c (361, .ior, 1) (List.mem_of_getElem? (i := 3) rfl)
theorem dX8_packs_362 : decode cX8_packs 362 = .ok (.istore 4, 2) := fchk_d fw_dX8_packs_354_c (362, .istore 4, 2) (List.mem_of_getElem? (i := 4) rfl)
theorem dX8_packs_364 : decode cX8_packs 364 = .ok (.iinc 5 1, 3) := by decide +kernel
def fw_dX8_packs_367 : List (Nat × Instr × Nat) := [(367, .goto (-116), 3), (370, .aload_n 0, 1), (371, .getfield 57, 3), (374, .iload_n 1, 1), (375, .iload 5, 2), (377, .iastore, 1), (378, .aload_n 0, 1), (379, .getfield 66, 3), (382, .iload_n 1, 1), (383, .iconst 1, 1), (384, .bastore, 1), (385, .return_, 1)]
theorem fw_dX8_packs_367_c : fchk 367 (cX8_packs.data.toList.drop 367) fw_dX8_packs_367 = true := by decide +kernel
theorem dX8_packs_367 : decode cX8_packs 367 = .ok (.goto (-116), 3) := fchk_d fw_dX8_packs_367_c (367, .goto (-116), 3) (List.mem_of_getElem? (i := 0) rfl)
theorem dX8_packs_370 : decode cX8_packs 370 = .ok (.aload_n 0, 1) := fchk_d fw_dX8_packs_367_c (370, .aload_n 0, 1) (List.mem_of_getElem? (i := 1) rfl)
theorem dX8_packs_371 : decode cX8_packs 371 = .ok (.getfield 57, 3) := fchk_d fw_dX8_packs_367_c (371, .getfield 57, 3) (List.mem_of_getElem? (i := 2) rfl)
theorem dX8_packs_374 : decode cX8_packs 374 = .ok (.iload_n 1, 1) := fchk_d fw_dX8_packs_367_c (374, .iload_n 1, 1) (List.mem_of_getElem? (i := 3) rfl)
theorem dX8_packs_375 : decode cX8_packs 375 = .ok (.iload 5, 2) := fchk_d fw_dX8_packs_367_c (375, .iload 5, 2) (List.mem_of_getElem? (i := 4) rfl)
theorem dX8_packs_377 : decode cX8_packs 377 = .ok (.iastore, 1) := fchk_d fw_dX8_packs_367_c (377, .iastore, 1) (List.mem_of_getElem? (i := 5) rfl)
theorem dX8_packs_378 : decode cX8_packs 378 = .ok (.aload_n 0, 1) := fchk_d fw_dX8_packs_367_c (378, .aload_n 0, 1) (List.mem_of_getElem? (i := 6) rfl)
theorem dX8_packs_379 : decode cX8_packs 379 = .ok (.getfield 66, 3) := fchk_d fw_dX8_packs_367_c (379, .getfield 66, 3) (List.mem_of_getElem? (i := 7) rfl)
theorem dX8_packs_382 : decode cX8_packs 382 = .ok (.iload_n 1, 1) := fchk_d fw_dX8_packs_367_c (382, .iload_n 1, 1) (List.mem_of_getElem? (i := 8) rfl)
theorem dX8_packs_383 : decode cX8_packs 383 = .ok (.iconst 1, 1) := fchk_d fw_dX8_packs_367_c (383, .iconst 1, 1) (List.mem_of_getElem? (i := 9) rfl)
theorem dX8_packs_384 : decode cX8_packs 384 = .ok (.bastore, 1) := fchk_d fw_dX8_packs_367_c (384, .bastore, 1) (List.mem_of_getElem? (i := 10) rfl)
theorem dX8_packs_385 : decode cX8_packs 385 = .ok (.return_, 1) := fchk_d fw_dX8_packs_367_c (385, .return_, 1) (List.mem_of_getElem? (i := 11) rfl)
set_option maxRecDepth 20000 in
theorem ggX8_pack_X8_isInstruction : GoodIn wsX8_pack wsX8_isInstruction := goodIn_r _ [5] rfl (by decide +kernel)
set_option maxRecDepth 20000 in
theorem gX8_pack_X8_isInstruction : GoodIn wsX8_pack (va_wsS RX8 157 yX8_isInstruction wsX8_isInstruction) := goodIn_app (goodIn_of _ (by decide +kernel)) ggX8_pack_X8_isInstruction
set_option maxRecDepth 20000 in
theorem ggX8_pack_X8_no : GoodIn wsX8_pack wsX8_no := goodIn_r _ [9, 10, 51, 52, 53, 54, 55, 56, 57, 58, 59, 60, 61, 62, 63, 64, 65, 66, 67, 68, 69, 70, 71, 72, 73, 74, 75, 76, 77, 78, 79, 80, 81, 82, 83, 84, 85, 86, 87, 88, 89, 90, 91, 92, 93, 94] rfl (by decide +kernel)
set_option maxRecDepth 20000 in
theorem gX8_pack_X8_no : GoodIn wsX8_pack (wsV RX8 122 RX8 yX8_no wsX8_no) := goodIn_app (goodIn_of _ (by decide +kernel)) ggX8_pack_X8_no
set_option maxRecDepth 20000 in
theorem ggX8_pack_X8_packs : GoodIn wsX8_pack wsX8_packs := goodIn_r _ [14, 15, 16, 17, 18, 19, 20, 1, 21, 22, 23, 4, 24, 25, 26, 27, 28, 29, 30, 31, 32, 33, 34, 35, 36, 37, 38, 39, 40, 41, 42, 43, 44, 45, 46, 47, 48, 49, 50, 51, 52, 53, 54, 55, 56, 57, 58, 59, 60, 61, 62, 63, 64, 65, 66, 67, 68, 69, 70, 71, 72, 73, 74, 75, 76, 77, 78, 79, 80, 81, 82, 83, 84, 85, 86, 87, 88, 89, 90, 91, 92, 93, 94] rfl (by decide +kernel)
set_option maxRecDepth 20000 in
theorem gX8_pack_X8_packs : GoodIn wsX8_pack (wsV RX8 194 RX8 yX8_packs wsX8_packs) := goodIn_app (goodIn_of _ (by decide +kernel)) ggX8_pack_X8_packs
def fw_dX8_pack_0 : List (Nat × Instr × Nat) := [(0, .iload_n 1, 1), (1, .invokestatic 157, 3), (4, .ifCond .ne 10, 3), (7, .aload_n 0, 1), (8, .bipush (-3), 2), (10, .invokevirtual 122, 3), (13, .ireturn, 1), (14, .aload_n 0, 1), (15, .iload_n 1, 1), (16, .invokevirtual 194, 3), (19, .aload_n 0, 1), (20, .getfield 57, 3), (23, .iload_n 1, 1), (24, .iaload, 1), (25, .ireturn, 1)]
theorem fw_dX8_pack_0_c : fchk 0 (cX8_pack.data.toList.drop 0) fw_dX8_pack_0 = true := by decide +kernel
theorem dX8_pack_0 : decode cX8_pack 0 = .ok (.iload_n 1, 1) := fchk_d fw_dX8_pack_0_c (0, .iload_n 1, 1) (List.mem_of_getElem? (i := 0) rfl)
theorem dX8_pack_1 : decode cX8_pack 1 = .ok (.invokestatic 157, 3) := fchk_d fw_dX8_pack_0_c (1, .invokestatic 157, 3) (List.mem_of_getElem? (i := 1) rfl)
theorem dX8_pack_4 : decode cX8_pack 4 = .ok (.ifCond .ne 10, 3) := fchk_d fw_dX8_pack_0_c (4, .ifCond .ne 10, 3) (List.mem_of_getElem? (i := 2) rfl)
theorem dX8_pack_7 : decode cX8_pack 7 = .ok (.aload_n 0, 1) := fchk_d fw_dX8_pack_0_c (7, .aload_n 0, 1) (List.mem_of_getElem? (i := 3) rfl)
theorem dX8_pack_8 : decode cX8_pack 8 = .ok (.bipush (-3), 2) := fchk_d fw_dX8_pack_0_c (8, .bipush (-3), 2) (List.mem_of_getElem? (i := 4) rfl)
theorem dX8_pack_10 : decode cX8_pack 10 = .ok (.invokevirtual 122, 3) := fchk_d fw_dX8_pack_0_c (10, .invokevirtual 122, 3) (List.mem_of_getElem? (i := 5) rfl)
theorem dX8_pack_13 : decode cX8_pack 13 = .ok (.ireturn, 1) := fchk_d fw_dX8_pack_0_c (13, .ireturn, 1) (List.mem_of_getElem? (i := 6) rfl)
theorem dX8_pack_14 : decode cX8_pack 14 = .ok (.aload_n 0, 1) := fchk_d fw_dX8_pack_0_c (14, .aload_n 0, 1) (List.mem_of_getElem? (i := 7) rfl)
theorem dX8_pack_15 : decode cX8_pack 15 = .ok (.iload_n 1, 1) := fchk_d fw_dX8_pack_0_c (15, .iload_n 1, 1) (List.mem_of_getElem? (i := 8) rfl)
theorem dX8_pack_16 : decode cX8_pack 16 = .ok (.invokevirtual 194, 3) := fchk_d fw_dX8_pack_0_c (16, .invokevirtual 194, 3) (List.mem_of_getElem? (i := 9) rfl)
theorem dX8_pack_19 : decode cX8_pack 19 = .ok (.aload_n 0, 1) := fchk_d fw_dX8_pack_0_c (19, .aload_n 0, 1) (List.mem_of_getElem? (i := 10) rfl)
theorem dX8_pack_20 : decode cX8_pack 20 = .ok (.getfield 57, 3) := fchk_d fw_dX8_pack_0_c (20, .getfield 57, 3) (List.mem_of_getElem? (i := 11) rfl)
theorem dX8_pack_23 : decode cX8_pack 23 = .ok (.iload_n 1, 1) := fchk_d fw_dX8_pack_0_c (23, .iload_n 1, 1) (List.mem_of_getElem? (i := 12) rfl)
theorem dX8_pack_24 : decode cX8_pack 24 = .ok (.iaload, 1) := fchk_d fw_dX8_pack_0_c (24, .iaload, 1) (List.mem_of_getElem? (i := 13) rfl)
theorem dX8_pack_25 : decode cX8_pack 25 = .ok (.ireturn, 1) := fchk_d fw_dX8_pack_0_c (25, .ireturn, 1) (List.mem_of_getElem? (i := 14) rfl)
set_option maxRecDepth 20000 in
theorem ggX8_word_X8_isAct : GoodIn wsX8_word wsX8_isAct := goodIn_r _ [7, 8, 9, 10, 6, 11, 17, 18, 19, 20, 21, 22, 23, 24, 25, 26, 27, 28, 29, 30, 31, 32, 33, 34, 35, 36, 37, 38, 39, 40, 41, 42, 43, 44, 45, 46, 47, 48, 49, 50, 51, 52, 53, 54, 55, 56, 57, 58, 59, 60] rfl (by decide +kernel)
set_option maxRecDepth 20000 in
theorem gX8_word_X8_isAct : GoodIn wsX8_word (wsV RX8 168 RX8 yX8_isAct wsX8_isAct) := goodIn_app (goodIn_of _ (by decide +kernel)) ggX8_word_X8_isAct
set_option maxRecDepth 20000 in
theorem ggX8_word_X8_no : GoodIn wsX8_word wsX8_no := goodIn_r _ [15, 16, 17, 18, 19, 20, 21, 22, 23, 24, 25, 26, 27, 28, 29, 30, 31, 32, 33, 34, 35, 36, 37, 38, 39, 40, 41, 42, 43, 44, 45, 46, 47, 48, 49, 50, 51, 52, 53, 54, 55, 56, 57, 58, 59, 60] rfl (by decide +kernel)
set_option maxRecDepth 20000 in
theorem gX8_word_X8_no : GoodIn wsX8_word (wsV RX8 122 RX8 yX8_no wsX8_no) := goodIn_app (goodIn_of _ (by decide +kernel)) ggX8_word_X8_no
def fw_dX8_word_0 : List (Nat × Instr × Nat) := [(0, .aload_n 0, 1), (1, .iload_n 1, 1), (2, .iload_n 2, 1), (3, .invokevirtual 168, 3), (6, .ifCond .ne 10, 3), (9, .aload_n 0, 1), (10, .bipush (-3), 2), (12, .invokevirtual 122, 3), (15, .ireturn, 1), (16, .aload_n 0, 1), (17, .getfield 66, 3), (20, .iload_n 1, 1), (21, .baload, 1), (22, .ifCond .eq 17, 3), (25, .aload_n 0, 1), (26, .getfield 54, 3), (29, .bipush 10, 2), (31, .iload_n 1, 1), (32, .imul, 1), (33, .iload_n 2, 1), (34, .iadd, 1), (35, .iaload, 1), (36, .goto 9, 3), (39, .aload_n 0, 1), (40, .bipush (-2), 2), (42, .invokevirtual 122, 3), (45, .ireturn, 1)]
theorem fw_dX8_word_0_c : fchk 0 (cX8_word.data.toList.drop 0) fw_dX8_word_0 = true := by decide +kernel
theorem dX8_word_0 : decode cX8_word 0 = .ok (.aload_n 0, 1) := fchk_d fw_dX8_word_0_c (0, .aload_n 0, 1) (List.mem_of_getElem? (i := 0) rfl)
theorem dX8_word_1 : decode cX8_word 1 = .ok (.iload_n 1, 1) := fchk_d fw_dX8_word_0_c (1, .iload_n 1, 1) (List.mem_of_getElem? (i := 1) rfl)
theorem dX8_word_2 : decode cX8_word 2 = .ok (.iload_n 2, 1) := fchk_d fw_dX8_word_0_c (2, .iload_n 2, 1) (List.mem_of_getElem? (i := 2) rfl)
theorem dX8_word_3 : decode cX8_word 3 = .ok (.invokevirtual 168, 3) := fchk_d fw_dX8_word_0_c (3, .invokevirtual 168, 3) (List.mem_of_getElem? (i := 3) rfl)
theorem dX8_word_6 : decode cX8_word 6 = .ok (.ifCond .ne 10, 3) := fchk_d fw_dX8_word_0_c (6, .ifCond .ne 10, 3) (List.mem_of_getElem? (i := 4) rfl)
theorem dX8_word_9 : decode cX8_word 9 = .ok (.aload_n 0, 1) := fchk_d fw_dX8_word_0_c (9, .aload_n 0, 1) (List.mem_of_getElem? (i := 5) rfl)
theorem dX8_word_10 : decode cX8_word 10 = .ok (.bipush (-3), 2) := fchk_d fw_dX8_word_0_c (10, .bipush (-3), 2) (List.mem_of_getElem? (i := 6) rfl)
theorem dX8_word_12 : decode cX8_word 12 = .ok (.invokevirtual 122, 3) := fchk_d fw_dX8_word_0_c (12, .invokevirtual 122, 3) (List.mem_of_getElem? (i := 7) rfl)
theorem dX8_word_15 : decode cX8_word 15 = .ok (.ireturn, 1) := fchk_d fw_dX8_word_0_c (15, .ireturn, 1) (List.mem_of_getElem? (i := 8) rfl)
theorem dX8_word_16 : decode cX8_word 16 = .ok (.aload_n 0, 1) := fchk_d fw_dX8_word_0_c (16, .aload_n 0, 1) (List.mem_of_getElem? (i := 9) rfl)
theorem dX8_word_17 : decode cX8_word 17 = .ok (.getfield 66, 3) := fchk_d fw_dX8_word_0_c (17, .getfield 66, 3) (List.mem_of_getElem? (i := 10) rfl)
theorem dX8_word_20 : decode cX8_word 20 = .ok (.iload_n 1, 1) := fchk_d fw_dX8_word_0_c (20, .iload_n 1, 1) (List.mem_of_getElem? (i := 11) rfl)
theorem dX8_word_21 : decode cX8_word 21 = .ok (.baload, 1) := fchk_d fw_dX8_word_0_c (21, .baload, 1) (List.mem_of_getElem? (i := 12) rfl)
theorem dX8_word_22 : decode cX8_word 22 = .ok (.ifCond .eq 17, 3) := fchk_d fw_dX8_word_0_c (22, .ifCond .eq 17, 3) (List.mem_of_getElem? (i := 13) rfl)
theorem dX8_word_25 : decode cX8_word 25 = .ok (.aload_n 0, 1) := fchk_d fw_dX8_word_0_c (25, .aload_n 0, 1) (List.mem_of_getElem? (i := 14) rfl)
theorem dX8_word_26 : decode cX8_word 26 = .ok (.getfield 54, 3) := fchk_d fw_dX8_word_0_c (26, .getfield 54, 3) (List.mem_of_getElem? (i := 15) rfl)
theorem dX8_word_29 : decode cX8_word 29 = .ok (.bipush 10, 2) := fchk_d fw_dX8_word_0_c (29, .bipush 10, 2) (List.mem_of_getElem? (i := 16) rfl)
theorem dX8_word_31 : decode cX8_word 31 = .ok (.iload_n 1, 1) := fchk_d fw_dX8_word_0_c (31, .iload_n 1, 1) (List.mem_of_getElem? (i := 17) rfl)
theorem dX8_word_32 : decode cX8_word 32 = .ok (.imul, 1) := fchk_d fw_dX8_word_0_c (32, .imul, 1) (List.mem_of_getElem? (i := 18) rfl)
theorem dX8_word_33 : decode cX8_word 33 = .ok (.iload_n 2, 1) := fchk_d fw_dX8_word_0_c (33, .iload_n 2, 1) (List.mem_of_getElem? (i := 19) rfl)
theorem dX8_word_34 : decode cX8_word 34 = .ok (.iadd, 1) := fchk_d fw_dX8_word_0_c (34, .iadd, 1) (List.mem_of_getElem? (i := 20) rfl)
theorem dX8_word_35 : decode cX8_word 35 = .ok (.iaload, 1) := fchk_d fw_dX8_word_0_c (35, .iaload, 1) (List.mem_of_getElem? (i := 21) rfl)
theorem dX8_word_36 : decode cX8_word 36 = .ok (.goto 9, 3) := fchk_d fw_dX8_word_0_c (36, .goto 9, 3) (List.mem_of_getElem? (i := 22) rfl)
theorem dX8_word_39 : decode cX8_word 39 = .ok (.aload_n 0, 1) := fchk_d fw_dX8_word_0_c (39, .aload_n 0, 1) (List.mem_of_getElem? (i := 23) rfl)
theorem dX8_word_40 : decode cX8_word 40 = .ok (.bipush (-2), 2) := fchk_d fw_dX8_word_0_c (40, .bipush (-2), 2) (List.mem_of_getElem? (i := 24) rfl)
theorem dX8_word_42 : decode cX8_word 42 = .ok (.invokevirtual 122, 3) := fchk_d fw_dX8_word_0_c (42, .invokevirtual 122, 3) (List.mem_of_getElem? (i := 25) rfl)
theorem dX8_word_45 : decode cX8_word 45 = .ok (.ireturn, 1) := fchk_d fw_dX8_word_0_c (45, .ireturn, 1) (List.mem_of_getElem? (i := 26) rfl)
set_option maxRecDepth 20000 in
theorem ggX8_why_X8_isAct : GoodIn wsX8_why wsX8_isAct := goodIn_r _ [7, 8, 9, 10, 6, 11, 39, 40, 41, 42, 43, 44, 45, 46, 47, 48, 49, 50, 51, 52, 53, 54, 55, 56, 57, 58, 59, 60, 61, 62, 63, 64, 65, 66, 67, 68, 69, 70, 71, 72, 73, 74, 75, 76, 77, 78, 79, 80, 81, 82] rfl (by decide +kernel)
set_option maxRecDepth 20000 in
theorem gX8_why_X8_isAct : GoodIn wsX8_why (wsV RX8 168 RX8 yX8_isAct wsX8_isAct) := goodIn_app (goodIn_of _ (by decide +kernel)) ggX8_why_X8_isAct
set_option maxRecDepth 20000 in
theorem ggX8_why_X8_no : GoodIn wsX8_why wsX8_no := goodIn_r _ [15, 16, 39, 40, 41, 42, 43, 44, 45, 46, 47, 48, 49, 50, 51, 52, 53, 54, 55, 56, 57, 58, 59, 60, 61, 62, 63, 64, 65, 66, 67, 68, 69, 70, 71, 72, 73, 74, 75, 76, 77, 78, 79, 80, 81, 82] rfl (by decide +kernel)
set_option maxRecDepth 20000 in
theorem gX8_why_X8_no : GoodIn wsX8_why (wsV RX8 122 RX8 yX8_no wsX8_no) := goodIn_app (goodIn_of _ (by decide +kernel)) ggX8_why_X8_no
set_option maxRecDepth 20000 in
theorem ggX8_why_X8_needed : GoodIn wsX8_why wsX8_needed := goodIn_r _ [20, 21, 22, 23, 24, 6, 25, 26, 27, 28, 29, 30, 31, 32, 33, 34, 35, 36, 37, 38, 39, 40, 41, 42, 43, 44, 45, 46, 47, 48, 49, 50, 51, 52, 53, 54, 55, 56, 57, 58, 59, 60, 61, 62, 63, 64, 65, 66, 67, 68, 69, 70, 71, 72, 73, 74, 75, 76, 77, 78, 79, 80, 81, 82] rfl (by decide +kernel)
set_option maxRecDepth 20000 in
theorem gX8_why_X8_needed : GoodIn wsX8_why (wsV RX8 186 RX8 yX8_needed wsX8_needed) := goodIn_app (goodIn_of _ (by decide +kernel)) ggX8_why_X8_needed
def fw_dX8_why_0 : List (Nat × Instr × Nat) := [(0, .aload_n 0, 1), (1, .iload_n 1, 1), (2, .iload_n 2, 1), (3, .invokevirtual 168, 3), (6, .ifCond .ne 10, 3), (9, .aload_n 0, 1), (10, .bipush (-3), 2), (12, .invokevirtual 122, 3), (15, .ireturn, 1), (16, .aload_n 0, 1), (17, .getfield 66, 3), (20, .iload_n 1, 1), (21, .baload, 1), (22, .ifCond .ne 10, 3), (25, .aload_n 0, 1), (26, .bipush (-2), 2), (28, .invokevirtual 122, 3), (31, .ireturn, 1), (32, .bipush 10, 2), (34, .iload_n 1, 1), (35, .imul, 1), (36, .istore_n 3, 1), (37, .iconst 0, 1), (38, .istore 4, 2), (40, .iload 4, 2), (42, .iload_n 2, 1), (43, .if_icmp .ge 79, 3), (46, .aload_n 0, 1), (47, .iload_n 3, 1), (48, .iload 4, 2), (50, .iadd, 1), (51, .iload_n 3, 1), (52, .iload_n 2, 1), (53, .iadd, 1), (54, .invokevirtual 186, 3), (57, .istore 5, 2), (59, .iload 5, 2), (61, .iconst 2, 1), (62, .if_icmp .ne 25, 3), (65, .aload_n 0, 1)]
theorem fw_dX8_why_0_c : fchk 0 (cX8_why.data.toList.drop 0) fw_dX8_why_0 = true := by decide +kernel
theorem dX8_why_0 : decode cX8_why 0 = .ok (.aload_n 0, 1) := fchk_d fw_dX8_why_0_c (0, .aload_n 0, 1) (List.mem_of_getElem? (i := 0) rfl)
theorem dX8_why_1 : decode cX8_why 1 = .ok (.iload_n 1, 1) := fchk_d fw_dX8_why_0_c (1, .iload_n 1, 1) (List.mem_of_getElem? (i := 1) rfl)
theorem dX8_why_2 : decode cX8_why 2 = .ok (.iload_n 2, 1) := fchk_d fw_dX8_why_0_c (2, .iload_n 2, 1) (List.mem_of_getElem? (i := 2) rfl)
theorem dX8_why_3 : decode cX8_why 3 = .ok (.invokevirtual 168, 3) := fchk_d fw_dX8_why_0_c (3, .invokevirtual 168, 3) (List.mem_of_getElem? (i := 3) rfl)
theorem dX8_why_6 : decode cX8_why 6 = .ok (.ifCond .ne 10, 3) := fchk_d fw_dX8_why_0_c (6, .ifCond .ne 10, 3) (List.mem_of_getElem? (i := 4) rfl)
theorem dX8_why_9 : decode cX8_why 9 = .ok (.aload_n 0, 1) := fchk_d fw_dX8_why_0_c (9, .aload_n 0, 1) (List.mem_of_getElem? (i := 5) rfl)
theorem dX8_why_10 : decode cX8_why 10 = .ok (.bipush (-3), 2) := fchk_d fw_dX8_why_0_c (10, .bipush (-3), 2) (List.mem_of_getElem? (i := 6) rfl)
theorem dX8_why_12 : decode cX8_why 12 = .ok (.invokevirtual 122, 3) := fchk_d fw_dX8_why_0_c (12, .invokevirtual 122, 3) (List.mem_of_getElem? (i := 7) rfl)
theorem dX8_why_15 : decode cX8_why 15 = .ok (.ireturn, 1) := fchk_d fw_dX8_why_0_c (15, .ireturn, 1) (List.mem_of_getElem? (i := 8) rfl)
theorem dX8_why_16 : decode cX8_why 16 = .ok (.aload_n 0, 1) := fchk_d fw_dX8_why_0_c (16, .aload_n 0, 1) (List.mem_of_getElem? (i := 9) rfl)
theorem dX8_why_17 : decode cX8_why 17 = .ok (.getfield 66, 3) := fchk_d fw_dX8_why_0_c (17, .getfield 66, 3) (List.mem_of_getElem? (i := 10) rfl)
theorem dX8_why_20 : decode cX8_why 20 = .ok (.iload_n 1, 1) := fchk_d fw_dX8_why_0_c (20, .iload_n 1, 1) (List.mem_of_getElem? (i := 11) rfl)
theorem dX8_why_21 : decode cX8_why 21 = .ok (.baload, 1) := fchk_d fw_dX8_why_0_c (21, .baload, 1) (List.mem_of_getElem? (i := 12) rfl)
theorem dX8_why_22 : decode cX8_why 22 = .ok (.ifCond .ne 10, 3) := fchk_d fw_dX8_why_0_c (22, .ifCond .ne 10, 3) (List.mem_of_getElem? (i := 13) rfl)
theorem dX8_why_25 : decode cX8_why 25 = .ok (.aload_n 0, 1) := fchk_d fw_dX8_why_0_c (25, .aload_n 0, 1) (List.mem_of_getElem? (i := 14) rfl)
theorem dX8_why_26 : decode cX8_why 26 = .ok (.bipush (-2), 2) := fchk_d fw_dX8_why_0_c (26, .bipush (-2), 2) (List.mem_of_getElem? (i := 15) rfl)
theorem dX8_why_28 : decode cX8_why 28 = .ok (.invokevirtual 122, 3) := fchk_d fw_dX8_why_0_c (28, .invokevirtual 122, 3) (List.mem_of_getElem? (i := 16) rfl)
theorem dX8_why_31 : decode cX8_why 31 = .ok (.ireturn, 1) := fchk_d fw_dX8_why_0_c (31, .ireturn, 1) (List.mem_of_getElem? (i := 17) rfl)
theorem dX8_why_32 : decode cX8_why 32 = .ok (.bipush 10, 2) := fchk_d fw_dX8_why_0_c (32, .bipush 10, 2) (List.mem_of_getElem? (i := 18) rfl)
theorem dX8_why_34 : decode cX8_why 34 = .ok (.iload_n 1, 1) := fchk_d fw_dX8_why_0_c (34, .iload_n 1, 1) (List.mem_of_getElem? (i := 19) rfl)
theorem dX8_why_35 : decode cX8_why 35 = .ok (.imul, 1) := fchk_d fw_dX8_why_0_c (35, .imul, 1) (List.mem_of_getElem? (i := 20) rfl)
theorem dX8_why_36 : decode cX8_why 36 = .ok (.istore_n 3, 1) := fchk_d fw_dX8_why_0_c (36, .istore_n 3, 1) (List.mem_of_getElem? (i := 21) rfl)
theorem dX8_why_37 : decode cX8_why 37 = .ok (.iconst 0, 1) := fchk_d fw_dX8_why_0_c (37, .iconst 0, 1) (List.mem_of_getElem? (i := 22) rfl)
theorem dX8_why_38 : decode cX8_why 38 = .ok (.istore 4, 2) := fchk_d fw_dX8_why_0_c (38, .istore 4, 2) (List.mem_of_getElem? (i := 23) rfl)
theorem dX8_why_40 : decode cX8_why 40 = .ok (.iload 4, 2) := fchk_d fw_dX8_why_0_c (40, .iload 4, 2) (List.mem_of_getElem? (i := 24) rfl)
theorem dX8_why_42 : decode cX8_why 42 = .ok (.iload_n 2, 1) := fchk_d fw_dX8_why_0_c (42, .iload_n 2, 1) (List.mem_of_getElem? (i := 25) rfl)
theorem dX8_why_43 : decode cX8_why 43 = .ok (.if_icmp .ge 79, 3) := fchk_d fw_dX8_why_0_c (43, .if_icmp .ge 79, 3) (List.mem_of_getElem? (i := 26) rfl)
theorem dX8_why_46 : decode cX8_why 46 = .ok (.aload_n 0, 1) := fchk_d fw_dX8_why_0_c (46, .aload_n 0, 1) (List.mem_of_getElem? (i := 27) rfl)
theorem dX8_why_47 : decode cX8_why 47 = .ok (.iload_n 3, 1) := fchk_d fw_dX8_why_0_c (47, .iload_n 3, 1) (List.mem_of_getElem? (i := 28) rfl)
theorem dX8_why_48 : decode cX8_why 48 = .ok (.iload 4, 2) := fchk_d fw_dX8_why_0_c (48, .iload 4, 2) (List.mem_of_getElem? (i := 29) rfl)
theorem dX8_why_50 : decode cX8_why 50 = .ok (.iadd, 1) := fchk_d fw_dX8_why_0_c (50, .iadd, 1) (List.mem_of_getElem? (i := 30) rfl)
theorem dX8_why_51 : decode cX8_why 51 = .ok (.iload_n 3, 1) := fchk_d fw_dX8_why_0_c (51, .iload_n 3, 1) (List.mem_of_getElem? (i := 31) rfl)
theorem dX8_why_52 : decode cX8_why 52 = .ok (.iload_n 2, 1) := fchk_d fw_dX8_why_0_c (52, .iload_n 2, 1) (List.mem_of_getElem? (i := 32) rfl)
theorem dX8_why_53 : decode cX8_why 53 = .ok (.iadd, 1) := fchk_d fw_dX8_why_0_c (53, .iadd, 1) (List.mem_of_getElem? (i := 33) rfl)
theorem dX8_why_54 : decode cX8_why 54 = .ok (.invokevirtual 186, 3) := fchk_d fw_dX8_why_0_c (54, .invokevirtual 186, 3) (List.mem_of_getElem? (i := 34) rfl)
theorem dX8_why_57 : decode cX8_why 57 = .ok (.istore 5, 2) := fchk_d fw_dX8_why_0_c (57, .istore 5, 2) (List.mem_of_getElem? (i := 35) rfl)
theorem dX8_why_59 : decode cX8_why 59 = .ok (.iload 5, 2) := fchk_d fw_dX8_why_0_c (59, .iload 5, 2) (List.mem_of_getElem? (i := 36) rfl)
theorem dX8_why_61 : decode cX8_why 61 = .ok (.iconst 2, 1) := fchk_d fw_dX8_why_0_c (61, .iconst 2, 1) (List.mem_of_getElem? (i := 37) rfl)
theorem dX8_why_62 : decode cX8_why 62 = .ok (.if_icmp .ne 25, 3) := fchk_d fw_dX8_why_0_c (62, .if_icmp .ne 25, 3) (List.mem_of_getElem? (i := 38) rfl)
theorem dX8_why_65 : decode cX8_why 65 = .ok (.aload_n 0, 1) := fchk_d fw_dX8_why_0_c (65, .aload_n 0, 1) (List.mem_of_getElem? (i := 39) rfl)
def fw_dX8_why_66 : List (Nat × Instr × Nat) := [(66, .getfield 54, 3), (69, .iload_n 3, 1), (70, .iload 4, 2), (72, .iadd, 1), (73, .iaload, 1), (74, .aload_n 0, 1), (75, .getfield 54, 3), (78, .iload_n 3, 1), (79, .iload_n 2, 1), (80, .iadd, 1), (81, .iaload, 1), (82, .iconst 1, 1), (83, .isub, 1), (84, .if_icmp .eq 29, 3), (87, .iload 5, 2), (89, .iconst 1, 1), (90, .if_icmp .ne 26, 3), (93, .aload_n 0, 1), (94, .getfield 54, 3), (97, .iload_n 3, 1), (98, .iload 4, 2), (100, .iadd, 1), (101, .iaload, 1), (102, .aload_n 0, 1), (103, .getfield 54, 3), (106, .iload_n 3, 1), (107, .iload_n 2, 1), (108, .iadd, 1), (109, .iaload, 1), (110, .if_icmp .ne 6, 3), (113, .iload 4, 2), (115, .ireturn, 1)]
theorem fw_dX8_why_66_c : fchk 66 (cX8_why.data.toList.drop 66) fw_dX8_why_66 = true := by decide +kernel
theorem dX8_why_66 : decode cX8_why 66 = .ok (.getfield 54, 3) := fchk_d fw_dX8_why_66_c (66, .getfield 54, 3) (List.mem_of_getElem? (i := 0) rfl)
theorem dX8_why_69 : decode cX8_why 69 = .ok (.iload_n 3, 1) := fchk_d fw_dX8_why_66_c (69, .iload_n 3, 1) (List.mem_of_getElem? (i := 1) rfl)
theorem dX8_why_70 : decode cX8_why 70 = .ok (.iload 4, 2) := fchk_d fw_dX8_why_66_c (70, .iload 4, 2) (List.mem_of_getElem? (i := 2) rfl)
theorem dX8_why_72 : decode cX8_why 72 = .ok (.iadd, 1) := fchk_d fw_dX8_why_66_c (72, .iadd, 1) (List.mem_of_getElem? (i := 3) rfl)
theorem dX8_why_73 : decode cX8_why 73 = .ok (.iaload, 1) := fchk_d fw_dX8_why_66_c (73, .iaload, 1) (List.mem_of_getElem? (i := 4) rfl)
theorem dX8_why_74 : decode cX8_why 74 = .ok (.aload_n 0, 1) := fchk_d fw_dX8_why_66_c (74, .aload_n 0, 1) (List.mem_of_getElem? (i := 5) rfl)
theorem dX8_why_75 : decode cX8_why 75 = .ok (.getfield 54, 3) := fchk_d fw_dX8_why_66_c (75, .getfield 54, 3) (List.mem_of_getElem? (i := 6) rfl)
theorem dX8_why_78 : decode cX8_why 78 = .ok (.iload_n 3, 1) := fchk_d fw_dX8_why_66_c (78, .iload_n 3, 1) (List.mem_of_getElem? (i := 7) rfl)
theorem dX8_why_79 : decode cX8_why 79 = .ok (.iload_n 2, 1) := fchk_d fw_dX8_why_66_c (79, .iload_n 2, 1) (List.mem_of_getElem? (i := 8) rfl)
theorem dX8_why_80 : decode cX8_why 80 = .ok (.iadd, 1) := fchk_d fw_dX8_why_66_c (80, .iadd, 1) (List.mem_of_getElem? (i := 9) rfl)
theorem dX8_why_81 : decode cX8_why 81 = .ok (.iaload, 1) := fchk_d fw_dX8_why_66_c (81, .iaload, 1) (List.mem_of_getElem? (i := 10) rfl)
theorem dX8_why_82 : decode cX8_why 82 = .ok (.iconst 1, 1) := fchk_d fw_dX8_why_66_c (82, .iconst 1, 1) (List.mem_of_getElem? (i := 11) rfl)
theorem dX8_why_83 : decode cX8_why 83 = .ok (.isub, 1) := fchk_d fw_dX8_why_66_c (83, .isub, 1) (List.mem_of_getElem? (i := 12) rfl)
theorem dX8_why_84 : decode cX8_why 84 = .ok (.if_icmp .eq 29, 3) := fchk_d fw_dX8_why_66_c (84, .if_icmp .eq 29, 3) (List.mem_of_getElem? (i := 13) rfl)
theorem dX8_why_87 : decode cX8_why 87 = .ok (.iload 5, 2) := fchk_d fw_dX8_why_66_c (87, .iload 5, 2) (List.mem_of_getElem? (i := 14) rfl)
theorem dX8_why_89 : decode cX8_why 89 = .ok (.iconst 1, 1) := fchk_d fw_dX8_why_66_c (89, .iconst 1, 1) (List.mem_of_getElem? (i := 15) rfl)
theorem dX8_why_90 : decode cX8_why 90 = .ok (.if_icmp .ne 26, 3) := fchk_d fw_dX8_why_66_c (90, .if_icmp .ne 26, 3) (List.mem_of_getElem? (i := 16) rfl)
theorem dX8_why_93 : decode cX8_why 93 = .ok (.aload_n 0, 1) := fchk_d fw_dX8_why_66_c (93, .aload_n 0, 1) (List.mem_of_getElem? (i := 17) rfl)
theorem dX8_why_94 : decode cX8_why 94 = .ok (.getfield 54, 3) := fchk_d fw_dX8_why_66_c (94, .getfield 54, 3) (List.mem_of_getElem? (i := 18) rfl)
theorem dX8_why_97 : decode cX8_why 97 = .ok (.iload_n 3, 1) := fchk_d fw_dX8_why_66_c (97, .iload_n 3, 1) (List.mem_of_getElem? (i := 19) rfl)
theorem dX8_why_98 : decode cX8_why 98 = .ok (.iload 4, 2) := fchk_d fw_dX8_why_66_c (98, .iload 4, 2) (List.mem_of_getElem? (i := 20) rfl)
theorem dX8_why_100 : decode cX8_why 100 = .ok (.iadd, 1) := fchk_d fw_dX8_why_66_c (100, .iadd, 1) (List.mem_of_getElem? (i := 21) rfl)
theorem dX8_why_101 : decode cX8_why 101 = .ok (.iaload, 1) := fchk_d fw_dX8_why_66_c (101, .iaload, 1) (List.mem_of_getElem? (i := 22) rfl)
theorem dX8_why_102 : decode cX8_why 102 = .ok (.aload_n 0, 1) := fchk_d fw_dX8_why_66_c (102, .aload_n 0, 1) (List.mem_of_getElem? (i := 23) rfl)
theorem dX8_why_103 : decode cX8_why 103 = .ok (.getfield 54, 3) := fchk_d fw_dX8_why_66_c (103, .getfield 54, 3) (List.mem_of_getElem? (i := 24) rfl)
theorem dX8_why_106 : decode cX8_why 106 = .ok (.iload_n 3, 1) := fchk_d fw_dX8_why_66_c (106, .iload_n 3, 1) (List.mem_of_getElem? (i := 25) rfl)
theorem dX8_why_107 : decode cX8_why 107 = .ok (.iload_n 2, 1) := fchk_d fw_dX8_why_66_c (107, .iload_n 2, 1) (List.mem_of_getElem? (i := 26) rfl)
theorem dX8_why_108 : decode cX8_why 108 = .ok (.iadd, 1) := fchk_d fw_dX8_why_66_c (108, .iadd, 1) (List.mem_of_getElem? (i := 27) rfl)
theorem dX8_why_109 : decode cX8_why 109 = .ok (.iaload, 1) := fchk_d fw_dX8_why_66_c (109, .iaload, 1) (List.mem_of_getElem? (i := 28) rfl)
theorem dX8_why_110 : decode cX8_why 110 = .ok (.if_icmp .ne 6, 3) := fchk_d fw_dX8_why_66_c (110, .if_icmp .ne 6, 3) (List.mem_of_getElem? (i := 29) rfl)
theorem dX8_why_113 : decode cX8_why 113 = .ok (.iload 4, 2) := fchk_d fw_dX8_why_66_c (113, .iload 4, 2) (List.mem_of_getElem? (i := 30) rfl)
theorem dX8_why_115 : decode cX8_why 115 = .ok (.ireturn, 1) := fchk_d fw_dX8_why_66_c (115, .ireturn, 1) (List.mem_of_getElem? (i := 31) rfl)
theorem dX8_why_116 : decode cX8_why 116 = .ok (.iinc 4 1, 3) := by decide +kernel
def fw_dX8_why_119 : List (Nat × Instr × Nat) := [(119, .goto (-79), 3), (122, .iconst (-1), 1), (123, .ireturn, 1)]
theorem fw_dX8_why_119_c : fchk 119 (cX8_why.data.toList.drop 119) fw_dX8_why_119 = true := by decide +kernel
theorem dX8_why_119 : decode cX8_why 119 = .ok (.goto (-79), 3) := fchk_d fw_dX8_why_119_c (119, .goto (-79), 3) (List.mem_of_getElem? (i := 0) rfl)
theorem dX8_why_122 : decode cX8_why 122 = .ok (.iconst (-1), 1) := fchk_d fw_dX8_why_119_c (122, .iconst (-1), 1) (List.mem_of_getElem? (i := 1) rfl)
theorem dX8_why_123 : decode cX8_why 123 = .ok (.ireturn, 1) := fchk_d fw_dX8_why_119_c (123, .ireturn, 1) (List.mem_of_getElem? (i := 2) rfl)
def fw_dX8_actOf_0 : List (Nat × Instr × Nat) := [(0, .iload_n 3, 1), (1, .istore 4, 2), (3, .iconst 0, 1), (4, .istore 5, 2), (6, .iload 5, 2), (8, .aload_n 0, 1), (9, .getfield 41, 3), (12, .iload_n 1, 1), (13, .iaload, 1), (14, .if_icmp .ge 44, 3), (17, .aload_n 0, 1), (18, .getfield 54, 3), (21, .bipush 10, 2), (23, .iload_n 1, 1), (24, .imul, 1), (25, .iload 5, 2), (27, .iadd, 1), (28, .iaload, 1), (29, .iload_n 2, 1), (30, .if_icmp .eq 6, 3), (33, .goto 19, 3), (36, .iload 4, 2), (38, .ifCond .ne 11, 3), (41, .bipush 10, 2), (43, .iload_n 1, 1), (44, .imul, 1), (45, .iload 5, 2), (47, .iadd, 1), (48, .ireturn, 1)]
theorem fw_dX8_actOf_0_c : fchk 0 (cX8_actOf.data.toList.drop 0) fw_dX8_actOf_0 = true := by decide +kernel
theorem dX8_actOf_0 : decode cX8_actOf 0 = .ok (.iload_n 3, 1) := fchk_d fw_dX8_actOf_0_c (0, .iload_n 3, 1) (List.mem_of_getElem? (i := 0) rfl)
theorem dX8_actOf_1 : decode cX8_actOf 1 = .ok (.istore 4, 2) := fchk_d fw_dX8_actOf_0_c (1, .istore 4, 2) (List.mem_of_getElem? (i := 1) rfl)
theorem dX8_actOf_3 : decode cX8_actOf 3 = .ok (.iconst 0, 1) := fchk_d fw_dX8_actOf_0_c (3, .iconst 0, 1) (List.mem_of_getElem? (i := 2) rfl)
theorem dX8_actOf_4 : decode cX8_actOf 4 = .ok (.istore 5, 2) := fchk_d fw_dX8_actOf_0_c (4, .istore 5, 2) (List.mem_of_getElem? (i := 3) rfl)
theorem dX8_actOf_6 : decode cX8_actOf 6 = .ok (.iload 5, 2) := fchk_d fw_dX8_actOf_0_c (6, .iload 5, 2) (List.mem_of_getElem? (i := 4) rfl)
theorem dX8_actOf_8 : decode cX8_actOf 8 = .ok (.aload_n 0, 1) := fchk_d fw_dX8_actOf_0_c (8, .aload_n 0, 1) (List.mem_of_getElem? (i := 5) rfl)
theorem dX8_actOf_9 : decode cX8_actOf 9 = .ok (.getfield 41, 3) := fchk_d fw_dX8_actOf_0_c (9, .getfield 41, 3) (List.mem_of_getElem? (i := 6) rfl)
theorem dX8_actOf_12 : decode cX8_actOf 12 = .ok (.iload_n 1, 1) := fchk_d fw_dX8_actOf_0_c (12, .iload_n 1, 1) (List.mem_of_getElem? (i := 7) rfl)
theorem dX8_actOf_13 : decode cX8_actOf 13 = .ok (.iaload, 1) := fchk_d fw_dX8_actOf_0_c (13, .iaload, 1) (List.mem_of_getElem? (i := 8) rfl)
theorem dX8_actOf_14 : decode cX8_actOf 14 = .ok (.if_icmp .ge 44, 3) := fchk_d fw_dX8_actOf_0_c (14, .if_icmp .ge 44, 3) (List.mem_of_getElem? (i := 9) rfl)
theorem dX8_actOf_17 : decode cX8_actOf 17 = .ok (.aload_n 0, 1) := fchk_d fw_dX8_actOf_0_c (17, .aload_n 0, 1) (List.mem_of_getElem? (i := 10) rfl)
theorem dX8_actOf_18 : decode cX8_actOf 18 = .ok (.getfield 54, 3) := fchk_d fw_dX8_actOf_0_c (18, .getfield 54, 3) (List.mem_of_getElem? (i := 11) rfl)
theorem dX8_actOf_21 : decode cX8_actOf 21 = .ok (.bipush 10, 2) := fchk_d fw_dX8_actOf_0_c (21, .bipush 10, 2) (List.mem_of_getElem? (i := 12) rfl)
theorem dX8_actOf_23 : decode cX8_actOf 23 = .ok (.iload_n 1, 1) := fchk_d fw_dX8_actOf_0_c (23, .iload_n 1, 1) (List.mem_of_getElem? (i := 13) rfl)
theorem dX8_actOf_24 : decode cX8_actOf 24 = .ok (.imul, 1) := fchk_d fw_dX8_actOf_0_c (24, .imul, 1) (List.mem_of_getElem? (i := 14) rfl)
theorem dX8_actOf_25 : decode cX8_actOf 25 = .ok (.iload 5, 2) := fchk_d fw_dX8_actOf_0_c (25, .iload 5, 2) (List.mem_of_getElem? (i := 15) rfl)
theorem dX8_actOf_27 : decode cX8_actOf 27 = .ok (.iadd, 1) := fchk_d fw_dX8_actOf_0_c (27, .iadd, 1) (List.mem_of_getElem? (i := 16) rfl)
theorem dX8_actOf_28 : decode cX8_actOf 28 = .ok (.iaload, 1) := fchk_d fw_dX8_actOf_0_c (28, .iaload, 1) (List.mem_of_getElem? (i := 17) rfl)
theorem dX8_actOf_29 : decode cX8_actOf 29 = .ok (.iload_n 2, 1) := fchk_d fw_dX8_actOf_0_c (29, .iload_n 2, 1) (List.mem_of_getElem? (i := 18) rfl)
theorem dX8_actOf_30 : decode cX8_actOf 30 = .ok (.if_icmp .eq 6, 3) := fchk_d fw_dX8_actOf_0_c (30, .if_icmp .eq 6, 3) (List.mem_of_getElem? (i := 19) rfl)
theorem dX8_actOf_33 : decode cX8_actOf 33 = .ok (.goto 19, 3) := fchk_d fw_dX8_actOf_0_c (33, .goto 19, 3) (List.mem_of_getElem? (i := 20) rfl)
theorem dX8_actOf_36 : decode cX8_actOf 36 = .ok (.iload 4, 2) := fchk_d fw_dX8_actOf_0_c (36, .iload 4, 2) (List.mem_of_getElem? (i := 21) rfl)
theorem dX8_actOf_38 : decode cX8_actOf 38 = .ok (.ifCond .ne 11, 3) := fchk_d fw_dX8_actOf_0_c (38, .ifCond .ne 11, 3) (List.mem_of_getElem? (i := 22) rfl)
theorem dX8_actOf_41 : decode cX8_actOf 41 = .ok (.bipush 10, 2) := fchk_d fw_dX8_actOf_0_c (41, .bipush 10, 2) (List.mem_of_getElem? (i := 23) rfl)
theorem dX8_actOf_43 : decode cX8_actOf 43 = .ok (.iload_n 1, 1) := fchk_d fw_dX8_actOf_0_c (43, .iload_n 1, 1) (List.mem_of_getElem? (i := 24) rfl)
theorem dX8_actOf_44 : decode cX8_actOf 44 = .ok (.imul, 1) := fchk_d fw_dX8_actOf_0_c (44, .imul, 1) (List.mem_of_getElem? (i := 25) rfl)
theorem dX8_actOf_45 : decode cX8_actOf 45 = .ok (.iload 5, 2) := fchk_d fw_dX8_actOf_0_c (45, .iload 5, 2) (List.mem_of_getElem? (i := 26) rfl)
theorem dX8_actOf_47 : decode cX8_actOf 47 = .ok (.iadd, 1) := fchk_d fw_dX8_actOf_0_c (47, .iadd, 1) (List.mem_of_getElem? (i := 27) rfl)
theorem dX8_actOf_48 : decode cX8_actOf 48 = .ok (.ireturn, 1) := fchk_d fw_dX8_actOf_0_c (48, .ireturn, 1) (List.mem_of_getElem? (i := 28) rfl)
theorem dX8_actOf_49 : decode cX8_actOf 49 = .ok (.iinc 4 (-1), 3) := by decide +kernel
theorem dX8_actOf_52 : decode cX8_actOf 52 = .ok (.iinc 5 1, 3) := by decide +kernel
def fw_dX8_actOf_55 : List (Nat × Instr × Nat) := [(55, .goto (-49), 3), (58, .iconst (-1), 1), (59, .ireturn, 1)]
theorem fw_dX8_actOf_55_c : fchk 55 (cX8_actOf.data.toList.drop 55) fw_dX8_actOf_55 = true := by decide +kernel
theorem dX8_actOf_55 : decode cX8_actOf 55 = .ok (.goto (-49), 3) := fchk_d fw_dX8_actOf_55_c (55, .goto (-49), 3) (List.mem_of_getElem? (i := 0) rfl)
theorem dX8_actOf_58 : decode cX8_actOf 58 = .ok (.iconst (-1), 1) := fchk_d fw_dX8_actOf_55_c (58, .iconst (-1), 1) (List.mem_of_getElem? (i := 1) rfl)
theorem dX8_actOf_59 : decode cX8_actOf 59 = .ok (.ireturn, 1) := fchk_d fw_dX8_actOf_55_c (59, .ireturn, 1) (List.mem_of_getElem? (i := 2) rfl)
def fw_dX8_areSame_0 : List (Nat × Instr × Nat) := [(0, .aload_n 0, 1), (1, .getfield 29, 3), (4, .iload_n 1, 1), (5, .iaload, 1), (6, .aload_n 0, 1), (7, .getfield 29, 3), (10, .iload_n 2, 1), (11, .iaload, 1), (12, .if_icmp .ne 52, 3), (15, .aload_n 0, 1), (16, .getfield 32, 3), (19, .iload_n 1, 1), (20, .iaload, 1), (21, .aload_n 0, 1), (22, .getfield 32, 3), (25, .iload_n 2, 1), (26, .iaload, 1), (27, .if_icmp .ne 37, 3), (30, .aload_n 0, 1), (31, .getfield 35, 3), (34, .iload_n 1, 1), (35, .iaload, 1), (36, .aload_n 0, 1), (37, .getfield 35, 3), (40, .iload_n 2, 1), (41, .iaload, 1), (42, .if_icmp .ne 22, 3), (45, .aload_n 0, 1), (46, .getfield 38, 3), (49, .iload_n 1, 1), (50, .iaload, 1), (51, .aload_n 0, 1), (52, .getfield 38, 3), (55, .iload_n 2, 1), (56, .iaload, 1), (57, .if_icmp .ne 7, 3), (60, .iconst 1, 1), (61, .goto 4, 3), (64, .iconst 0, 1), (65, .ireturn, 1)]
theorem fw_dX8_areSame_0_c : fchk 0 (cX8_areSame.data.toList.drop 0) fw_dX8_areSame_0 = true := by decide +kernel
theorem dX8_areSame_0 : decode cX8_areSame 0 = .ok (.aload_n 0, 1) := fchk_d fw_dX8_areSame_0_c (0, .aload_n 0, 1) (List.mem_of_getElem? (i := 0) rfl)
theorem dX8_areSame_1 : decode cX8_areSame 1 = .ok (.getfield 29, 3) := fchk_d fw_dX8_areSame_0_c (1, .getfield 29, 3) (List.mem_of_getElem? (i := 1) rfl)
theorem dX8_areSame_4 : decode cX8_areSame 4 = .ok (.iload_n 1, 1) := fchk_d fw_dX8_areSame_0_c (4, .iload_n 1, 1) (List.mem_of_getElem? (i := 2) rfl)
theorem dX8_areSame_5 : decode cX8_areSame 5 = .ok (.iaload, 1) := fchk_d fw_dX8_areSame_0_c (5, .iaload, 1) (List.mem_of_getElem? (i := 3) rfl)
theorem dX8_areSame_6 : decode cX8_areSame 6 = .ok (.aload_n 0, 1) := fchk_d fw_dX8_areSame_0_c (6, .aload_n 0, 1) (List.mem_of_getElem? (i := 4) rfl)
theorem dX8_areSame_7 : decode cX8_areSame 7 = .ok (.getfield 29, 3) := fchk_d fw_dX8_areSame_0_c (7, .getfield 29, 3) (List.mem_of_getElem? (i := 5) rfl)
theorem dX8_areSame_10 : decode cX8_areSame 10 = .ok (.iload_n 2, 1) := fchk_d fw_dX8_areSame_0_c (10, .iload_n 2, 1) (List.mem_of_getElem? (i := 6) rfl)
theorem dX8_areSame_11 : decode cX8_areSame 11 = .ok (.iaload, 1) := fchk_d fw_dX8_areSame_0_c (11, .iaload, 1) (List.mem_of_getElem? (i := 7) rfl)
theorem dX8_areSame_12 : decode cX8_areSame 12 = .ok (.if_icmp .ne 52, 3) := fchk_d fw_dX8_areSame_0_c (12, .if_icmp .ne 52, 3) (List.mem_of_getElem? (i := 8) rfl)
theorem dX8_areSame_15 : decode cX8_areSame 15 = .ok (.aload_n 0, 1) := fchk_d fw_dX8_areSame_0_c (15, .aload_n 0, 1) (List.mem_of_getElem? (i := 9) rfl)
theorem dX8_areSame_16 : decode cX8_areSame 16 = .ok (.getfield 32, 3) := fchk_d fw_dX8_areSame_0_c (16, .getfield 32, 3) (List.mem_of_getElem? (i := 10) rfl)
theorem dX8_areSame_19 : decode cX8_areSame 19 = .ok (.iload_n 1, 1) := fchk_d fw_dX8_areSame_0_c (19, .iload_n 1, 1) (List.mem_of_getElem? (i := 11) rfl)
theorem dX8_areSame_20 : decode cX8_areSame 20 = .ok (.iaload, 1) := fchk_d fw_dX8_areSame_0_c (20, .iaload, 1) (List.mem_of_getElem? (i := 12) rfl)
theorem dX8_areSame_21 : decode cX8_areSame 21 = .ok (.aload_n 0, 1) := fchk_d fw_dX8_areSame_0_c (21, .aload_n 0, 1) (List.mem_of_getElem? (i := 13) rfl)
theorem dX8_areSame_22 : decode cX8_areSame 22 = .ok (.getfield 32, 3) := fchk_d fw_dX8_areSame_0_c (22, .getfield 32, 3) (List.mem_of_getElem? (i := 14) rfl)
theorem dX8_areSame_25 : decode cX8_areSame 25 = .ok (.iload_n 2, 1) := fchk_d fw_dX8_areSame_0_c (25, .iload_n 2, 1) (List.mem_of_getElem? (i := 15) rfl)
theorem dX8_areSame_26 : decode cX8_areSame 26 = .ok (.iaload, 1) := fchk_d fw_dX8_areSame_0_c (26, .iaload, 1) (List.mem_of_getElem? (i := 16) rfl)
theorem dX8_areSame_27 : decode cX8_areSame 27 = .ok (.if_icmp .ne 37, 3) := fchk_d fw_dX8_areSame_0_c (27, .if_icmp .ne 37, 3) (List.mem_of_getElem? (i := 17) rfl)
theorem dX8_areSame_30 : decode cX8_areSame 30 = .ok (.aload_n 0, 1) := fchk_d fw_dX8_areSame_0_c (30, .aload_n 0, 1) (List.mem_of_getElem? (i := 18) rfl)
theorem dX8_areSame_31 : decode cX8_areSame 31 = .ok (.getfield 35, 3) := fchk_d fw_dX8_areSame_0_c (31, .getfield 35, 3) (List.mem_of_getElem? (i := 19) rfl)
theorem dX8_areSame_34 : decode cX8_areSame 34 = .ok (.iload_n 1, 1) := fchk_d fw_dX8_areSame_0_c (34, .iload_n 1, 1) (List.mem_of_getElem? (i := 20) rfl)
theorem dX8_areSame_35 : decode cX8_areSame 35 = .ok (.iaload, 1) := fchk_d fw_dX8_areSame_0_c (35, .iaload, 1) (List.mem_of_getElem? (i := 21) rfl)
theorem dX8_areSame_36 : decode cX8_areSame 36 = .ok (.aload_n 0, 1) := fchk_d fw_dX8_areSame_0_c (36, .aload_n 0, 1) (List.mem_of_getElem? (i := 22) rfl)
theorem dX8_areSame_37 : decode cX8_areSame 37 = .ok (.getfield 35, 3) := fchk_d fw_dX8_areSame_0_c (37, .getfield 35, 3) (List.mem_of_getElem? (i := 23) rfl)
theorem dX8_areSame_40 : decode cX8_areSame 40 = .ok (.iload_n 2, 1) := fchk_d fw_dX8_areSame_0_c (40, .iload_n 2, 1) (List.mem_of_getElem? (i := 24) rfl)
theorem dX8_areSame_41 : decode cX8_areSame 41 = .ok (.iaload, 1) := fchk_d fw_dX8_areSame_0_c (41, .iaload, 1) (List.mem_of_getElem? (i := 25) rfl)
theorem dX8_areSame_42 : decode cX8_areSame 42 = .ok (.if_icmp .ne 22, 3) := fchk_d fw_dX8_areSame_0_c (42, .if_icmp .ne 22, 3) (List.mem_of_getElem? (i := 26) rfl)
theorem dX8_areSame_45 : decode cX8_areSame 45 = .ok (.aload_n 0, 1) := fchk_d fw_dX8_areSame_0_c (45, .aload_n 0, 1) (List.mem_of_getElem? (i := 27) rfl)
theorem dX8_areSame_46 : decode cX8_areSame 46 = .ok (.getfield 38, 3) := fchk_d fw_dX8_areSame_0_c (46, .getfield 38, 3) (List.mem_of_getElem? (i := 28) rfl)
theorem dX8_areSame_49 : decode cX8_areSame 49 = .ok (.iload_n 1, 1) := fchk_d fw_dX8_areSame_0_c (49, .iload_n 1, 1) (List.mem_of_getElem? (i := 29) rfl)
theorem dX8_areSame_50 : decode cX8_areSame 50 = .ok (.iaload, 1) := fchk_d fw_dX8_areSame_0_c (50, .iaload, 1) (List.mem_of_getElem? (i := 30) rfl)
theorem dX8_areSame_51 : decode cX8_areSame 51 = .ok (.aload_n 0, 1) := fchk_d fw_dX8_areSame_0_c (51, .aload_n 0, 1) (List.mem_of_getElem? (i := 31) rfl)
theorem dX8_areSame_52 : decode cX8_areSame 52 = .ok (.getfield 38, 3) := fchk_d fw_dX8_areSame_0_c (52, .getfield 38, 3) (List.mem_of_getElem? (i := 32) rfl)
theorem dX8_areSame_55 : decode cX8_areSame 55 = .ok (.iload_n 2, 1) := fchk_d fw_dX8_areSame_0_c (55, .iload_n 2, 1) (List.mem_of_getElem? (i := 33) rfl)
theorem dX8_areSame_56 : decode cX8_areSame 56 = .ok (.iaload, 1) := fchk_d fw_dX8_areSame_0_c (56, .iaload, 1) (List.mem_of_getElem? (i := 34) rfl)
theorem dX8_areSame_57 : decode cX8_areSame 57 = .ok (.if_icmp .ne 7, 3) := fchk_d fw_dX8_areSame_0_c (57, .if_icmp .ne 7, 3) (List.mem_of_getElem? (i := 35) rfl)
theorem dX8_areSame_60 : decode cX8_areSame 60 = .ok (.iconst 1, 1) := fchk_d fw_dX8_areSame_0_c (60, .iconst 1, 1) (List.mem_of_getElem? (i := 36) rfl)
theorem dX8_areSame_61 : decode cX8_areSame 61 = .ok (.goto 4, 3) := fchk_d fw_dX8_areSame_0_c (61, .goto 4, 3) (List.mem_of_getElem? (i := 37) rfl)
theorem dX8_areSame_64 : decode cX8_areSame 64 = .ok (.iconst 0, 1) := fchk_d fw_dX8_areSame_0_c (64, .iconst 0, 1) (List.mem_of_getElem? (i := 38) rfl)
theorem dX8_areSame_65 : decode cX8_areSame 65 = .ok (.ireturn, 1) := fchk_d fw_dX8_areSame_0_c (65, .ireturn, 1) (List.mem_of_getElem? (i := 39) rfl)
set_option maxRecDepth 20000 in
theorem ggX8_isLike_X8_actOf : GoodIn wsX8_isLike wsX8_actOf := goodIn_r _ [7, 8, 9, 18, 19, 20, 21, 22, 23, 24, 25, 26, 27, 28, 29, 30, 31, 32, 33, 34, 35, 36, 37, 38, 39, 40, 41, 42, 43, 44, 45, 46, 47, 48, 49, 50, 51, 52, 53, 54, 55, 56, 57, 58, 59, 60, 61] rfl (by decide +kernel)
set_option maxRecDepth 20000 in
theorem gX8_isLike_X8_actOf : GoodIn wsX8_isLike (wsV RX8 198 RX8 yX8_actOf wsX8_actOf) := goodIn_app (goodIn_of _ (by decide +kernel)) ggX8_isLike_X8_actOf
set_option maxRecDepth 20000 in
theorem ggX8_isLike_X8_areSame : GoodIn wsX8_isLike wsX8_areSame := goodIn_r _ [13, 14, 15, 16, 17, 18, 19, 20, 21, 22, 23, 24, 25, 26, 27, 28, 29, 30, 31, 32, 33, 34, 35, 36, 37, 38, 39, 40, 41, 42, 43, 44, 45, 46, 47, 48, 49, 50, 51, 52, 53, 54, 55, 56, 57, 58, 59, 60, 61] rfl (by decide +kernel)
set_option maxRecDepth 20000 in
theorem gX8_isLike_X8_areSame : GoodIn wsX8_isLike (wsV RX8 202 RX8 yX8_areSame wsX8_areSame) := goodIn_app (goodIn_of _ (by decide +kernel)) ggX8_isLike_X8_areSame
def fw_dX8_isLike_0 : List (Nat × Instr × Nat) := [(0, .iconst 0, 1), (1, .istore 4, 2), (3, .iload 4, 2), (5, .bipush 10, 2), (7, .if_icmp .gt 74, 3), (10, .aload_n 0, 1), (11, .iload_n 1, 1), (12, .iload_n 2, 1), (13, .iload 4, 2), (15, .invokevirtual 198, 3), (18, .istore 5, 2), (20, .aload_n 0, 1), (21, .aload_n 0, 1), (22, .getfield 70, 3), (25, .iload_n 3, 1), (26, .iaload, 1), (27, .aload_n 0, 1), (28, .getfield 73, 3), (31, .iload_n 3, 1), (32, .iaload, 1), (33, .iload 4, 2), (35, .invokevirtual 198, 3), (38, .istore 6, 2), (40, .iload 5, 2), (42, .ifCond .ge 10, 3), (45, .iload 6, 2), (47, .ifCond .ge 5, 3), (50, .iconst 1, 1), (51, .ireturn, 1), (52, .iload 5, 2), (54, .ifCond .lt 19, 3), (57, .iload 6, 2), (59, .ifCond .lt 14, 3), (62, .aload_n 0, 1), (63, .iload 5, 2), (65, .iload 6, 2), (67, .invokevirtual 202, 3), (70, .ifCond .ne 5, 3), (73, .iconst 0, 1), (74, .ireturn, 1)]
theorem fw_dX8_isLike_0_c : fchk 0 (cX8_isLike.data.toList.drop 0) fw_dX8_isLike_0 = true := by decide +kernel
theorem dX8_isLike_0 : decode cX8_isLike 0 = .ok (.iconst 0, 1) := fchk_d fw_dX8_isLike_0_c (0, .iconst 0, 1) (List.mem_of_getElem? (i := 0) rfl)
theorem dX8_isLike_1 : decode cX8_isLike 1 = .ok (.istore 4, 2) := fchk_d fw_dX8_isLike_0_c (1, .istore 4, 2) (List.mem_of_getElem? (i := 1) rfl)
theorem dX8_isLike_3 : decode cX8_isLike 3 = .ok (.iload 4, 2) := fchk_d fw_dX8_isLike_0_c (3, .iload 4, 2) (List.mem_of_getElem? (i := 2) rfl)
theorem dX8_isLike_5 : decode cX8_isLike 5 = .ok (.bipush 10, 2) := fchk_d fw_dX8_isLike_0_c (5, .bipush 10, 2) (List.mem_of_getElem? (i := 3) rfl)
theorem dX8_isLike_7 : decode cX8_isLike 7 = .ok (.if_icmp .gt 74, 3) := fchk_d fw_dX8_isLike_0_c (7, .if_icmp .gt 74, 3) (List.mem_of_getElem? (i := 4) rfl)
theorem dX8_isLike_10 : decode cX8_isLike 10 = .ok (.aload_n 0, 1) := fchk_d fw_dX8_isLike_0_c (10, .aload_n 0, 1) (List.mem_of_getElem? (i := 5) rfl)
theorem dX8_isLike_11 : decode cX8_isLike 11 = .ok (.iload_n 1, 1) := fchk_d fw_dX8_isLike_0_c (11, .iload_n 1, 1) (List.mem_of_getElem? (i := 6) rfl)
theorem dX8_isLike_12 : decode cX8_isLike 12 = .ok (.iload_n 2, 1) := fchk_d fw_dX8_isLike_0_c (12, .iload_n 2, 1) (List.mem_of_getElem? (i := 7) rfl)
theorem dX8_isLike_13 : decode cX8_isLike 13 = .ok (.iload 4, 2) := fchk_d fw_dX8_isLike_0_c (13, .iload 4, 2) (List.mem_of_getElem? (i := 8) rfl)
theorem dX8_isLike_15 : decode cX8_isLike 15 = .ok (.invokevirtual 198, 3) := fchk_d fw_dX8_isLike_0_c (15, .invokevirtual 198, 3) (List.mem_of_getElem? (i := 9) rfl)
theorem dX8_isLike_18 : decode cX8_isLike 18 = .ok (.istore 5, 2) := fchk_d fw_dX8_isLike_0_c (18, .istore 5, 2) (List.mem_of_getElem? (i := 10) rfl)
theorem dX8_isLike_20 : decode cX8_isLike 20 = .ok (.aload_n 0, 1) := fchk_d fw_dX8_isLike_0_c (20, .aload_n 0, 1) (List.mem_of_getElem? (i := 11) rfl)
theorem dX8_isLike_21 : decode cX8_isLike 21 = .ok (.aload_n 0, 1) := fchk_d fw_dX8_isLike_0_c (21, .aload_n 0, 1) (List.mem_of_getElem? (i := 12) rfl)
theorem dX8_isLike_22 : decode cX8_isLike 22 = .ok (.getfield 70, 3) := fchk_d fw_dX8_isLike_0_c (22, .getfield 70, 3) (List.mem_of_getElem? (i := 13) rfl)
theorem dX8_isLike_25 : decode cX8_isLike 25 = .ok (.iload_n 3, 1) := fchk_d fw_dX8_isLike_0_c (25, .iload_n 3, 1) (List.mem_of_getElem? (i := 14) rfl)
theorem dX8_isLike_26 : decode cX8_isLike 26 = .ok (.iaload, 1) := fchk_d fw_dX8_isLike_0_c (26, .iaload, 1) (List.mem_of_getElem? (i := 15) rfl)
theorem dX8_isLike_27 : decode cX8_isLike 27 = .ok (.aload_n 0, 1) := fchk_d fw_dX8_isLike_0_c (27, .aload_n 0, 1) (List.mem_of_getElem? (i := 16) rfl)
theorem dX8_isLike_28 : decode cX8_isLike 28 = .ok (.getfield 73, 3) := fchk_d fw_dX8_isLike_0_c (28, .getfield 73, 3) (List.mem_of_getElem? (i := 17) rfl)
theorem dX8_isLike_31 : decode cX8_isLike 31 = .ok (.iload_n 3, 1) := fchk_d fw_dX8_isLike_0_c (31, .iload_n 3, 1) (List.mem_of_getElem? (i := 18) rfl)
theorem dX8_isLike_32 : decode cX8_isLike 32 = .ok (.iaload, 1) := fchk_d fw_dX8_isLike_0_c (32, .iaload, 1) (List.mem_of_getElem? (i := 19) rfl)
theorem dX8_isLike_33 : decode cX8_isLike 33 = .ok (.iload 4, 2) := fchk_d fw_dX8_isLike_0_c (33, .iload 4, 2) (List.mem_of_getElem? (i := 20) rfl)
theorem dX8_isLike_35 : decode cX8_isLike 35 = .ok (.invokevirtual 198, 3) := fchk_d fw_dX8_isLike_0_c (35, .invokevirtual 198, 3) (List.mem_of_getElem? (i := 21) rfl)
theorem dX8_isLike_38 : decode cX8_isLike 38 = .ok (.istore 6, 2) := fchk_d fw_dX8_isLike_0_c (38, .istore 6, 2) (List.mem_of_getElem? (i := 22) rfl)
theorem dX8_isLike_40 : decode cX8_isLike 40 = .ok (.iload 5, 2) := fchk_d fw_dX8_isLike_0_c (40, .iload 5, 2) (List.mem_of_getElem? (i := 23) rfl)
theorem dX8_isLike_42 : decode cX8_isLike 42 = .ok (.ifCond .ge 10, 3) := fchk_d fw_dX8_isLike_0_c (42, .ifCond .ge 10, 3) (List.mem_of_getElem? (i := 24) rfl)
theorem dX8_isLike_45 : decode cX8_isLike 45 = .ok (.iload 6, 2) := fchk_d fw_dX8_isLike_0_c (45, .iload 6, 2) (List.mem_of_getElem? (i := 25) rfl)
theorem dX8_isLike_47 : decode cX8_isLike 47 = .ok (.ifCond .ge 5, 3) := fchk_d fw_dX8_isLike_0_c (47, .ifCond .ge 5, 3) (List.mem_of_getElem? (i := 26) rfl)
theorem dX8_isLike_50 : decode cX8_isLike 50 = .ok (.iconst 1, 1) := fchk_d fw_dX8_isLike_0_c (50, .iconst 1, 1) (List.mem_of_getElem? (i := 27) rfl)
theorem dX8_isLike_51 : decode cX8_isLike 51 = .ok (.ireturn, 1) := fchk_d fw_dX8_isLike_0_c (51, .ireturn, 1) (List.mem_of_getElem? (i := 28) rfl)
theorem dX8_isLike_52 : decode cX8_isLike 52 = .ok (.iload 5, 2) := fchk_d fw_dX8_isLike_0_c (52, .iload 5, 2) (List.mem_of_getElem? (i := 29) rfl)
theorem dX8_isLike_54 : decode cX8_isLike 54 = .ok (.ifCond .lt 19, 3) := fchk_d fw_dX8_isLike_0_c (54, .ifCond .lt 19, 3) (List.mem_of_getElem? (i := 30) rfl)
theorem dX8_isLike_57 : decode cX8_isLike 57 = .ok (.iload 6, 2) := fchk_d fw_dX8_isLike_0_c (57, .iload 6, 2) (List.mem_of_getElem? (i := 31) rfl)
theorem dX8_isLike_59 : decode cX8_isLike 59 = .ok (.ifCond .lt 14, 3) := fchk_d fw_dX8_isLike_0_c (59, .ifCond .lt 14, 3) (List.mem_of_getElem? (i := 32) rfl)
theorem dX8_isLike_62 : decode cX8_isLike 62 = .ok (.aload_n 0, 1) := fchk_d fw_dX8_isLike_0_c (62, .aload_n 0, 1) (List.mem_of_getElem? (i := 33) rfl)
theorem dX8_isLike_63 : decode cX8_isLike 63 = .ok (.iload 5, 2) := fchk_d fw_dX8_isLike_0_c (63, .iload 5, 2) (List.mem_of_getElem? (i := 34) rfl)
theorem dX8_isLike_65 : decode cX8_isLike 65 = .ok (.iload 6, 2) := fchk_d fw_dX8_isLike_0_c (65, .iload 6, 2) (List.mem_of_getElem? (i := 35) rfl)
theorem dX8_isLike_67 : decode cX8_isLike 67 = .ok (.invokevirtual 202, 3) := fchk_d fw_dX8_isLike_0_c (67, .invokevirtual 202, 3) (List.mem_of_getElem? (i := 36) rfl)
theorem dX8_isLike_70 : decode cX8_isLike 70 = .ok (.ifCond .ne 5, 3) := fchk_d fw_dX8_isLike_0_c (70, .ifCond .ne 5, 3) (List.mem_of_getElem? (i := 37) rfl)
theorem dX8_isLike_73 : decode cX8_isLike 73 = .ok (.iconst 0, 1) := fchk_d fw_dX8_isLike_0_c (73, .iconst 0, 1) (List.mem_of_getElem? (i := 38) rfl)
theorem dX8_isLike_74 : decode cX8_isLike 74 = .ok (.ireturn, 1) := fchk_d fw_dX8_isLike_0_c (74, .ireturn, 1) (List.mem_of_getElem? (i := 39) rfl)
theorem dX8_isLike_75 : decode cX8_isLike 75 = .ok (.iinc 4 1, 3) := by decide +kernel
def fw_dX8_isLike_78 : List (Nat × Instr × Nat) := [(78, .goto (-75), 3), (81, .iconst 1, 1), (82, .ireturn, 1)]
theorem fw_dX8_isLike_78_c : fchk 78 (cX8_isLike.data.toList.drop 78) fw_dX8_isLike_78 = true := by decide +kernel
theorem dX8_isLike_78 : decode cX8_isLike 78 = .ok (.goto (-75), 3) := fchk_d fw_dX8_isLike_78_c (78, .goto (-75), 3) (List.mem_of_getElem? (i := 0) rfl)
theorem dX8_isLike_81 : decode cX8_isLike 81 = .ok (.iconst 1, 1) := fchk_d fw_dX8_isLike_78_c (81, .iconst 1, 1) (List.mem_of_getElem? (i := 1) rfl)
theorem dX8_isLike_82 : decode cX8_isLike 82 = .ok (.ireturn, 1) := fchk_d fw_dX8_isLike_78_c (82, .ireturn, 1) (List.mem_of_getElem? (i := 2) rfl)
set_option maxRecDepth 20000 in
theorem ggX8_lays_X8_isLike : GoodIn wsX8_lays wsX8_isLike := goodIn_r _ [10, 4, 5, 11, 12, 13, 9, 14, 15, 16, 17, 18, 19, 20, 21, 22, 23, 24, 25, 26, 27, 28, 29, 30, 31, 32, 33, 34, 35, 36, 37, 38, 39, 40, 41, 42, 43, 44, 45, 46, 47, 48, 49, 50, 51, 52, 53, 54, 55, 56, 57, 58, 59, 60, 61, 62, 63, 64, 65, 66, 67, 68] rfl (by decide +kernel)
set_option maxRecDepth 20000 in
theorem gX8_lays_X8_isLike : GoodIn wsX8_lays (wsV RX8 208 RX8 yX8_isLike wsX8_isLike) := goodIn_app (goodIn_of _ (by decide +kernel)) ggX8_lays_X8_isLike
def fw_dX8_lays_0 : List (Nat × Instr × Nat) := [(0, .iconst 0, 1), (1, .istore 4, 2), (3, .iload 4, 2), (5, .aload_n 0, 1), (6, .getfield 205, 3), (9, .if_icmp .ge 48, 3), (12, .aload_n 0, 1), (13, .getfield 76, 3), (16, .iload 4, 2), (18, .iaload, 1), (19, .iload_n 3, 1), (20, .if_icmp .ne 31, 3), (23, .aload_n 0, 1), (24, .iload_n 1, 1), (25, .iload_n 2, 1), (26, .iload 4, 2), (28, .invokevirtual 208, 3), (31, .ifCond .ne 6, 3), (34, .goto 17, 3), (37, .aload_n 0, 1), (38, .getfield 79, 3), (41, .iload 4, 2), (43, .dup2, 1), (44, .iaload, 1), (45, .iconst 1, 1), (46, .iadd, 1), (47, .iastore, 1), (48, .iload 4, 2), (50, .ireturn, 1)]
theorem fw_dX8_lays_0_c : fchk 0 (cX8_lays.data.toList.drop 0) fw_dX8_lays_0 = true := by decide +kernel
theorem dX8_lays_0 : decode cX8_lays 0 = .ok (.iconst 0, 1) := fchk_d fw_dX8_lays_0_c (0, .iconst 0, 1) (List.mem_of_getElem? (i := 0) rfl)
theorem dX8_lays_1 : decode cX8_lays 1 = .ok (.istore 4, 2) := fchk_d fw_dX8_lays_0_c (1, .istore 4, 2) (List.mem_of_getElem? (i := 1) rfl)
theorem dX8_lays_3 : decode cX8_lays 3 = .ok (.iload 4, 2) := fchk_d fw_dX8_lays_0_c (3, .iload 4, 2) (List.mem_of_getElem? (i := 2) rfl)
theorem dX8_lays_5 : decode cX8_lays 5 = .ok (.aload_n 0, 1) := fchk_d fw_dX8_lays_0_c (5, .aload_n 0, 1) (List.mem_of_getElem? (i := 3) rfl)
theorem dX8_lays_6 : decode cX8_lays 6 = .ok (.getfield 205, 3) := fchk_d fw_dX8_lays_0_c (6, .getfield 205, 3) (List.mem_of_getElem? (i := 4) rfl)
theorem dX8_lays_9 : decode cX8_lays 9 = .ok (.if_icmp .ge 48, 3) := fchk_d fw_dX8_lays_0_c (9, .if_icmp .ge 48, 3) (List.mem_of_getElem? (i := 5) rfl)
theorem dX8_lays_12 : decode cX8_lays 12 = .ok (.aload_n 0, 1) := fchk_d fw_dX8_lays_0_c (12, .aload_n 0, 1) (List.mem_of_getElem? (i := 6) rfl)
theorem dX8_lays_13 : decode cX8_lays 13 = .ok (.getfield 76, 3) := fchk_d fw_dX8_lays_0_c (13, .getfield 76, 3) (List.mem_of_getElem? (i := 7) rfl)
theorem dX8_lays_16 : decode cX8_lays 16 = .ok (.iload 4, 2) := fchk_d fw_dX8_lays_0_c (16, .iload 4, 2) (List.mem_of_getElem? (i := 8) rfl)
theorem dX8_lays_18 : decode cX8_lays 18 = .ok (.iaload, 1) := fchk_d fw_dX8_lays_0_c (18, .iaload, 1) (List.mem_of_getElem? (i := 9) rfl)
theorem dX8_lays_19 : decode cX8_lays 19 = .ok (.iload_n 3, 1) := fchk_d fw_dX8_lays_0_c (19, .iload_n 3, 1) (List.mem_of_getElem? (i := 10) rfl)
theorem dX8_lays_20 : decode cX8_lays 20 = .ok (.if_icmp .ne 31, 3) := fchk_d fw_dX8_lays_0_c (20, .if_icmp .ne 31, 3) (List.mem_of_getElem? (i := 11) rfl)
theorem dX8_lays_23 : decode cX8_lays 23 = .ok (.aload_n 0, 1) := fchk_d fw_dX8_lays_0_c (23, .aload_n 0, 1) (List.mem_of_getElem? (i := 12) rfl)
theorem dX8_lays_24 : decode cX8_lays 24 = .ok (.iload_n 1, 1) := fchk_d fw_dX8_lays_0_c (24, .iload_n 1, 1) (List.mem_of_getElem? (i := 13) rfl)
theorem dX8_lays_25 : decode cX8_lays 25 = .ok (.iload_n 2, 1) := fchk_d fw_dX8_lays_0_c (25, .iload_n 2, 1) (List.mem_of_getElem? (i := 14) rfl)
theorem dX8_lays_26 : decode cX8_lays 26 = .ok (.iload 4, 2) := fchk_d fw_dX8_lays_0_c (26, .iload 4, 2) (List.mem_of_getElem? (i := 15) rfl)
theorem dX8_lays_28 : decode cX8_lays 28 = .ok (.invokevirtual 208, 3) := fchk_d fw_dX8_lays_0_c (28, .invokevirtual 208, 3) (List.mem_of_getElem? (i := 16) rfl)
theorem dX8_lays_31 : decode cX8_lays 31 = .ok (.ifCond .ne 6, 3) := fchk_d fw_dX8_lays_0_c (31, .ifCond .ne 6, 3) (List.mem_of_getElem? (i := 17) rfl)
theorem dX8_lays_34 : decode cX8_lays 34 = .ok (.goto 17, 3) := fchk_d fw_dX8_lays_0_c (34, .goto 17, 3) (List.mem_of_getElem? (i := 18) rfl)
theorem dX8_lays_37 : decode cX8_lays 37 = .ok (.aload_n 0, 1) := fchk_d fw_dX8_lays_0_c (37, .aload_n 0, 1) (List.mem_of_getElem? (i := 19) rfl)
theorem dX8_lays_38 : decode cX8_lays 38 = .ok (.getfield 79, 3) := fchk_d fw_dX8_lays_0_c (38, .getfield 79, 3) (List.mem_of_getElem? (i := 20) rfl)
theorem dX8_lays_41 : decode cX8_lays 41 = .ok (.iload 4, 2) := fchk_d fw_dX8_lays_0_c (41, .iload 4, 2) (List.mem_of_getElem? (i := 21) rfl)
theorem dX8_lays_43 : decode cX8_lays 43 = .ok (.dup2, 1) := fchk_d fw_dX8_lays_0_c (43, .dup2, 1) (List.mem_of_getElem? (i := 22) rfl)
theorem dX8_lays_44 : decode cX8_lays 44 = .ok (.iaload, 1) := fchk_d fw_dX8_lays_0_c (44, .iaload, 1) (List.mem_of_getElem? (i := 23) rfl)
theorem dX8_lays_45 : decode cX8_lays 45 = .ok (.iconst 1, 1) := fchk_d fw_dX8_lays_0_c (45, .iconst 1, 1) (List.mem_of_getElem? (i := 24) rfl)
theorem dX8_lays_46 : decode cX8_lays 46 = .ok (.iadd, 1) := fchk_d fw_dX8_lays_0_c (46, .iadd, 1) (List.mem_of_getElem? (i := 25) rfl)
theorem dX8_lays_47 : decode cX8_lays 47 = .ok (.iastore, 1) := fchk_d fw_dX8_lays_0_c (47, .iastore, 1) (List.mem_of_getElem? (i := 26) rfl)
theorem dX8_lays_48 : decode cX8_lays 48 = .ok (.iload 4, 2) := fchk_d fw_dX8_lays_0_c (48, .iload 4, 2) (List.mem_of_getElem? (i := 27) rfl)
theorem dX8_lays_50 : decode cX8_lays 50 = .ok (.ireturn, 1) := fchk_d fw_dX8_lays_0_c (50, .ireturn, 1) (List.mem_of_getElem? (i := 28) rfl)
theorem dX8_lays_51 : decode cX8_lays 51 = .ok (.iinc 4 1, 3) := by decide +kernel
def fw_dX8_lays_54 : List (Nat × Instr × Nat) := [(54, .goto (-51), 3), (57, .aload_n 0, 1), (58, .getfield 205, 3), (61, .istore 4, 2), (63, .aload_n 0, 1), (64, .dup, 1), (65, .getfield 205, 3), (68, .iconst 1, 1), (69, .iadd, 1), (70, .putfield 205, 3), (73, .aload_n 0, 1), (74, .getfield 70, 3), (77, .iload 4, 2), (79, .iload_n 1, 1), (80, .iastore, 1), (81, .aload_n 0, 1), (82, .getfield 73, 3), (85, .iload 4, 2), (87, .iload_n 2, 1), (88, .iastore, 1), (89, .aload_n 0, 1), (90, .getfield 76, 3), (93, .iload 4, 2), (95, .iload_n 3, 1), (96, .iastore, 1), (97, .aload_n 0, 1), (98, .getfield 79, 3), (101, .iload 4, 2), (103, .iconst 1, 1), (104, .iastore, 1), (105, .iload 4, 2), (107, .ireturn, 1)]
theorem fw_dX8_lays_54_c : fchk 54 (cX8_lays.data.toList.drop 54) fw_dX8_lays_54 = true := by decide +kernel
theorem dX8_lays_54 : decode cX8_lays 54 = .ok (.goto (-51), 3) := fchk_d fw_dX8_lays_54_c (54, .goto (-51), 3) (List.mem_of_getElem? (i := 0) rfl)
theorem dX8_lays_57 : decode cX8_lays 57 = .ok (.aload_n 0, 1) := fchk_d fw_dX8_lays_54_c (57, .aload_n 0, 1) (List.mem_of_getElem? (i := 1) rfl)
theorem dX8_lays_58 : decode cX8_lays 58 = .ok (.getfield 205, 3) := fchk_d fw_dX8_lays_54_c (58, .getfield 205, 3) (List.mem_of_getElem? (i := 2) rfl)
theorem dX8_lays_61 : decode cX8_lays 61 = .ok (.istore 4, 2) := fchk_d fw_dX8_lays_54_c (61, .istore 4, 2) (List.mem_of_getElem? (i := 3) rfl)
theorem dX8_lays_63 : decode cX8_lays 63 = .ok (.aload_n 0, 1) := fchk_d fw_dX8_lays_54_c (63, .aload_n 0, 1) (List.mem_of_getElem? (i := 4) rfl)
theorem dX8_lays_64 : decode cX8_lays 64 = .ok (.dup, 1) := fchk_d fw_dX8_lays_54_c (64, .dup, 1) (List.mem_of_getElem? (i := 5) rfl)
theorem dX8_lays_65 : decode cX8_lays 65 = .ok (.getfield 205, 3) := fchk_d fw_dX8_lays_54_c (65, .getfield 205, 3) (List.mem_of_getElem? (i := 6) rfl)
theorem dX8_lays_68 : decode cX8_lays 68 = .ok (.iconst 1, 1) := fchk_d fw_dX8_lays_54_c (68, .iconst 1, 1) (List.mem_of_getElem? (i := 7) rfl)
theorem dX8_lays_69 : decode cX8_lays 69 = .ok (.iadd, 1) := fchk_d fw_dX8_lays_54_c (69, .iadd, 1) (List.mem_of_getElem? (i := 8) rfl)
theorem dX8_lays_70 : decode cX8_lays 70 = .ok (.putfield 205, 3) := fchk_d fw_dX8_lays_54_c (70, .putfield 205, 3) (List.mem_of_getElem? (i := 9) rfl)
theorem dX8_lays_73 : decode cX8_lays 73 = .ok (.aload_n 0, 1) := fchk_d fw_dX8_lays_54_c (73, .aload_n 0, 1) (List.mem_of_getElem? (i := 10) rfl)
theorem dX8_lays_74 : decode cX8_lays 74 = .ok (.getfield 70, 3) := fchk_d fw_dX8_lays_54_c (74, .getfield 70, 3) (List.mem_of_getElem? (i := 11) rfl)
theorem dX8_lays_77 : decode cX8_lays 77 = .ok (.iload 4, 2) := fchk_d fw_dX8_lays_54_c (77, .iload 4, 2) (List.mem_of_getElem? (i := 12) rfl)
theorem dX8_lays_79 : decode cX8_lays 79 = .ok (.iload_n 1, 1) := fchk_d fw_dX8_lays_54_c (79, .iload_n 1, 1) (List.mem_of_getElem? (i := 13) rfl)
theorem dX8_lays_80 : decode cX8_lays 80 = .ok (.iastore, 1) := fchk_d fw_dX8_lays_54_c (80, .iastore, 1) (List.mem_of_getElem? (i := 14) rfl)
theorem dX8_lays_81 : decode cX8_lays 81 = .ok (.aload_n 0, 1) := fchk_d fw_dX8_lays_54_c (81, .aload_n 0, 1) (List.mem_of_getElem? (i := 15) rfl)
theorem dX8_lays_82 : decode cX8_lays 82 = .ok (.getfield 73, 3) := fchk_d fw_dX8_lays_54_c (82, .getfield 73, 3) (List.mem_of_getElem? (i := 16) rfl)
theorem dX8_lays_85 : decode cX8_lays 85 = .ok (.iload 4, 2) := fchk_d fw_dX8_lays_54_c (85, .iload 4, 2) (List.mem_of_getElem? (i := 17) rfl)
theorem dX8_lays_87 : decode cX8_lays 87 = .ok (.iload_n 2, 1) := fchk_d fw_dX8_lays_54_c (87, .iload_n 2, 1) (List.mem_of_getElem? (i := 18) rfl)
theorem dX8_lays_88 : decode cX8_lays 88 = .ok (.iastore, 1) := fchk_d fw_dX8_lays_54_c (88, .iastore, 1) (List.mem_of_getElem? (i := 19) rfl)
theorem dX8_lays_89 : decode cX8_lays 89 = .ok (.aload_n 0, 1) := fchk_d fw_dX8_lays_54_c (89, .aload_n 0, 1) (List.mem_of_getElem? (i := 20) rfl)
theorem dX8_lays_90 : decode cX8_lays 90 = .ok (.getfield 76, 3) := fchk_d fw_dX8_lays_54_c (90, .getfield 76, 3) (List.mem_of_getElem? (i := 21) rfl)
theorem dX8_lays_93 : decode cX8_lays 93 = .ok (.iload 4, 2) := fchk_d fw_dX8_lays_54_c (93, .iload 4, 2) (List.mem_of_getElem? (i := 22) rfl)
theorem dX8_lays_95 : decode cX8_lays 95 = .ok (.iload_n 3, 1) := fchk_d fw_dX8_lays_54_c (95, .iload_n 3, 1) (List.mem_of_getElem? (i := 23) rfl)
theorem dX8_lays_96 : decode cX8_lays 96 = .ok (.iastore, 1) := fchk_d fw_dX8_lays_54_c (96, .iastore, 1) (List.mem_of_getElem? (i := 24) rfl)
theorem dX8_lays_97 : decode cX8_lays 97 = .ok (.aload_n 0, 1) := fchk_d fw_dX8_lays_54_c (97, .aload_n 0, 1) (List.mem_of_getElem? (i := 25) rfl)
theorem dX8_lays_98 : decode cX8_lays 98 = .ok (.getfield 79, 3) := fchk_d fw_dX8_lays_54_c (98, .getfield 79, 3) (List.mem_of_getElem? (i := 26) rfl)
theorem dX8_lays_101 : decode cX8_lays 101 = .ok (.iload 4, 2) := fchk_d fw_dX8_lays_54_c (101, .iload 4, 2) (List.mem_of_getElem? (i := 27) rfl)
theorem dX8_lays_103 : decode cX8_lays 103 = .ok (.iconst 1, 1) := fchk_d fw_dX8_lays_54_c (103, .iconst 1, 1) (List.mem_of_getElem? (i := 28) rfl)
theorem dX8_lays_104 : decode cX8_lays 104 = .ok (.iastore, 1) := fchk_d fw_dX8_lays_54_c (104, .iastore, 1) (List.mem_of_getElem? (i := 29) rfl)
theorem dX8_lays_105 : decode cX8_lays 105 = .ok (.iload 4, 2) := fchk_d fw_dX8_lays_54_c (105, .iload 4, 2) (List.mem_of_getElem? (i := 30) rfl)
theorem dX8_lays_107 : decode cX8_lays 107 = .ok (.ireturn, 1) := fchk_d fw_dX8_lays_54_c (107, .ireturn, 1) (List.mem_of_getElem? (i := 31) rfl)
set_option maxRecDepth 20000 in
theorem ggX8_store_X8_packs : GoodIn wsX8_store wsX8_packs := goodIn_r _ [9, 10, 11, 12, 13, 14, 15, 2, 16, 17, 18, 8, 19, 20, 21, 22, 23, 24, 25, 26, 27, 28, 29, 30, 31, 32, 33, 34, 35, 36, 37, 38, 39, 40, 41, 42, 43, 44, 45, 92, 93, 94, 95, 96, 97, 98, 99, 100, 101, 102, 103, 104, 105, 106, 107, 108, 109, 110, 111, 112, 113, 114, 115, 116, 117, 118, 119, 120, 121, 122, 123, 124, 125, 126, 127, 128, 129, 130, 131, 132, 133, 134, 135] rfl (by decide +kernel)
set_option maxRecDepth 20000 in
theorem gX8_store_X8_packs : GoodIn wsX8_store (wsV RX8 194 RX8 yX8_packs wsX8_packs) := goodIn_app (goodIn_of _ (by decide +kernel)) ggX8_store_X8_packs
set_option maxRecDepth 20000 in
theorem ggX8_store_X8_lays : GoodIn wsX8_store wsX8_lays := goodIn_r _ [49, 1, 50, 51, 52, 53, 54, 55, 56, 8, 57, 58, 59, 60, 61, 11, 15, 62, 63, 64, 65, 20, 25, 33, 34, 92, 93, 94, 95, 96, 97, 98, 99, 100, 101, 102, 103, 104, 105, 106, 107, 108, 109, 110, 111, 112, 113, 114, 115, 116, 117, 118, 119, 120, 121, 122, 123, 124, 125, 126, 127, 128, 129, 130, 131, 132, 133, 134, 135] rfl (by decide +kernel)
