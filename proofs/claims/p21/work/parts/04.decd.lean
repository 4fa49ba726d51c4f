def fw_dX8_init_0 : List (Nat × Instr × Nat) := [(0, .aload_n 0, 1), (1, .invokespecial 1, 3), (4, .aload_n 0, 1), (5, .bipush 74, 2)]
theorem fw_dX8_init_0_c : fchk 0 (cX8_init.data.toList.drop 0) fw_dX8_init_0 = true := by decide +kernel
theorem dX8_init_0 : Eq (decode cX8_init 0) (Except.ok (Instr.aload_n 0, 1)) := fE fw_dX8_init_0_c 0 rfl
theorem dX8_init_1 : Eq (decode cX8_init 1) (Except.ok (Instr.invokespecial 1, 3)) := fE fw_dX8_init_0_c 1 rfl
theorem dX8_init_4 : Eq (decode cX8_init 4) (Except.ok (Instr.aload_n 0, 1)) := fE fw_dX8_init_0_c 2 rfl
theorem dX8_init_5 : Eq (decode cX8_init 5) (Except.ok (Instr.bipush 74, 2)) := fE fw_dX8_init_0_c 3 rfl
theorem dX8_init_7 : decode cX8_init 7 = .ok (.newarray .long, 2) := by decide +kernel
def fw_dX8_init_9 : List (Nat × Instr × Nat) := [(9, .putfield 7, 3), (12, .aload_n 0, 1), (13, .bipush 74, 2)]
theorem fw_dX8_init_9_c : fchk 9 (cX8_init.data.toList.drop 9) fw_dX8_init_9 = true := by decide +kernel
theorem dX8_init_9 : Eq (decode cX8_init 9) (Except.ok (Instr.putfield 7, 3)) := fE fw_dX8_init_9_c 0 rfl
theorem dX8_init_12 : Eq (decode cX8_init 12) (Except.ok (Instr.aload_n 0, 1)) := fE fw_dX8_init_9_c 1 rfl
theorem dX8_init_13 : Eq (decode cX8_init 13) (Except.ok (Instr.bipush 74, 2)) := fE fw_dX8_init_9_c 2 rfl
theorem dX8_init_15 : decode cX8_init 15 = .ok (.newarray .long, 2) := by decide +kernel
def fw_dX8_init_17 : List (Nat × Instr × Nat) := [(17, .putfield 13, 3), (20, .aload_n 0, 1), (21, .bipush 74, 2)]
theorem fw_dX8_init_17_c : fchk 17 (cX8_init.data.toList.drop 17) fw_dX8_init_17 = true := by decide +kernel
theorem dX8_init_17 : Eq (decode cX8_init 17) (Except.ok (Instr.putfield 13, 3)) := fE fw_dX8_init_17_c 0 rfl
theorem dX8_init_20 : Eq (decode cX8_init 20) (Except.ok (Instr.aload_n 0, 1)) := fE fw_dX8_init_17_c 1 rfl
theorem dX8_init_21 : Eq (decode cX8_init 21) (Except.ok (Instr.bipush 74, 2)) := fE fw_dX8_init_17_c 2 rfl
theorem dX8_init_23 : decode cX8_init 23 = .ok (.newarray .long, 2) := by decide +kernel
def fw_dX8_init_25 : List (Nat × Instr × Nat) := [(25, .putfield 16, 3), (28, .aload_n 0, 1), (29, .bipush 74, 2)]
theorem fw_dX8_init_25_c : fchk 25 (cX8_init.data.toList.drop 25) fw_dX8_init_25 = true := by decide +kernel
theorem dX8_init_25 : Eq (decode cX8_init 25) (Except.ok (Instr.putfield 16, 3)) := fE fw_dX8_init_25_c 0 rfl
theorem dX8_init_28 : Eq (decode cX8_init 28) (Except.ok (Instr.aload_n 0, 1)) := fE fw_dX8_init_25_c 1 rfl
theorem dX8_init_29 : Eq (decode cX8_init 29) (Except.ok (Instr.bipush 74, 2)) := fE fw_dX8_init_25_c 2 rfl
theorem dX8_init_31 : decode cX8_init 31 = .ok (.newarray .long, 2) := by decide +kernel
def fw_dX8_init_33 : List (Nat × Instr × Nat) := [(33, .putfield 19, 3), (36, .aload_n 0, 1), (37, .bipush 74, 2)]
theorem fw_dX8_init_33_c : fchk 33 (cX8_init.data.toList.drop 33) fw_dX8_init_33 = true := by decide +kernel
theorem dX8_init_33 : Eq (decode cX8_init 33) (Except.ok (Instr.putfield 19, 3)) := fE fw_dX8_init_33_c 0 rfl
theorem dX8_init_36 : Eq (decode cX8_init 36) (Except.ok (Instr.aload_n 0, 1)) := fE fw_dX8_init_33_c 1 rfl
theorem dX8_init_37 : Eq (decode cX8_init 37) (Except.ok (Instr.bipush 74, 2)) := fE fw_dX8_init_33_c 2 rfl
theorem dX8_init_39 : decode cX8_init 39 = .ok (.newarray .long, 2) := by decide +kernel
def fw_dX8_init_41 : List (Nat × Instr × Nat) := [(41, .putfield 22, 3), (44, .aload_n 0, 1), (45, .bipush 8, 2)]
theorem fw_dX8_init_41_c : fchk 41 (cX8_init.data.toList.drop 41) fw_dX8_init_41 = true := by decide +kernel
theorem dX8_init_41 : Eq (decode cX8_init 41) (Except.ok (Instr.putfield 22, 3)) := fE fw_dX8_init_41_c 0 rfl
theorem dX8_init_44 : Eq (decode cX8_init 44) (Except.ok (Instr.aload_n 0, 1)) := fE fw_dX8_init_41_c 1 rfl
theorem dX8_init_45 : Eq (decode cX8_init 45) (Except.ok (Instr.bipush 8, 2)) := fE fw_dX8_init_41_c 2 rfl
theorem dX8_init_47 : decode cX8_init 47 = .ok (.newarray .int, 2) := by decide +kernel
def fw_dX8_init_49 : List (Nat × Instr × Nat) := [(49, .putfield 25, 3), (52, .aload_n 0, 1), (53, .bipush 120, 2)]
theorem fw_dX8_init_49_c : fchk 49 (cX8_init.data.toList.drop 49) fw_dX8_init_49 = true := by decide +kernel
theorem dX8_init_49 : Eq (decode cX8_init 49) (Except.ok (Instr.putfield 25, 3)) := fE fw_dX8_init_49_c 0 rfl
theorem dX8_init_52 : Eq (decode cX8_init 52) (Except.ok (Instr.aload_n 0, 1)) := fE fw_dX8_init_49_c 1 rfl
theorem dX8_init_53 : Eq (decode cX8_init 53) (Except.ok (Instr.bipush 120, 2)) := fE fw_dX8_init_49_c 2 rfl
theorem dX8_init_55 : decode cX8_init 55 = .ok (.newarray .int, 2) := by decide +kernel
def fw_dX8_init_57 : List (Nat × Instr × Nat) := [(57, .putfield 29, 3), (60, .aload_n 0, 1), (61, .bipush 120, 2)]
theorem fw_dX8_init_57_c : fchk 57 (cX8_init.data.toList.drop 57) fw_dX8_init_57 = true := by decide +kernel
theorem dX8_init_57 : Eq (decode cX8_init 57) (Except.ok (Instr.putfield 29, 3)) := fE fw_dX8_init_57_c 0 rfl
theorem dX8_init_60 : Eq (decode cX8_init 60) (Except.ok (Instr.aload_n 0, 1)) := fE fw_dX8_init_57_c 1 rfl
theorem dX8_init_61 : Eq (decode cX8_init 61) (Except.ok (Instr.bipush 120, 2)) := fE fw_dX8_init_57_c 2 rfl
theorem dX8_init_63 : decode cX8_init 63 = .ok (.newarray .int, 2) := by decide +kernel
def fw_dX8_init_65 : List (Nat × Instr × Nat) := [(65, .putfield 32, 3), (68, .aload_n 0, 1), (69, .bipush 120, 2)]
theorem fw_dX8_init_65_c : fchk 65 (cX8_init.data.toList.drop 65) fw_dX8_init_65 = true := by decide +kernel
theorem dX8_init_65 : Eq (decode cX8_init 65) (Except.ok (Instr.putfield 32, 3)) := fE fw_dX8_init_65_c 0 rfl
theorem dX8_init_68 : Eq (decode cX8_init 68) (Except.ok (Instr.aload_n 0, 1)) := fE fw_dX8_init_65_c 1 rfl
theorem dX8_init_69 : Eq (decode cX8_init 69) (Except.ok (Instr.bipush 120, 2)) := fE fw_dX8_init_65_c 2 rfl
theorem dX8_init_71 : decode cX8_init 71 = .ok (.newarray .int, 2) := by decide +kernel
def fw_dX8_init_73 : List (Nat × Instr × Nat) := [(73, .putfield 35, 3), (76, .aload_n 0, 1), (77, .bipush 120, 2)]
theorem fw_dX8_init_73_c : fchk 73 (cX8_init.data.toList.drop 73) fw_dX8_init_73 = true := by decide +kernel
theorem dX8_init_73 : Eq (decode cX8_init 73) (Except.ok (Instr.putfield 35, 3)) := fE fw_dX8_init_73_c 0 rfl
theorem dX8_init_76 : Eq (decode cX8_init 76) (Except.ok (Instr.aload_n 0, 1)) := fE fw_dX8_init_73_c 1 rfl
theorem dX8_init_77 : Eq (decode cX8_init 77) (Except.ok (Instr.bipush 120, 2)) := fE fw_dX8_init_73_c 2 rfl
theorem dX8_init_79 : decode cX8_init 79 = .ok (.newarray .int, 2) := by decide +kernel
def fw_dX8_init_81 : List (Nat × Instr × Nat) := [(81, .putfield 38, 3), (84, .aload_n 0, 1), (85, .bipush 12, 2)]
theorem fw_dX8_init_81_c : fchk 81 (cX8_init.data.toList.drop 81) fw_dX8_init_81 = true := by decide +kernel
theorem dX8_init_81 : Eq (decode cX8_init 81) (Except.ok (Instr.putfield 38, 3)) := fE fw_dX8_init_81_c 0 rfl
theorem dX8_init_84 : Eq (decode cX8_init 84) (Except.ok (Instr.aload_n 0, 1)) := fE fw_dX8_init_81_c 1 rfl
theorem dX8_init_85 : Eq (decode cX8_init 85) (Except.ok (Instr.bipush 12, 2)) := fE fw_dX8_init_81_c 2 rfl
theorem dX8_init_87 : decode cX8_init 87 = .ok (.newarray .int, 2) := by decide +kernel
def fw_dX8_init_89 : List (Nat × Instr × Nat) := [(89, .putfield 41, 3), (92, .aload_n 0, 1), (93, .iconst 1, 1), (94, .putfield 44, 3), (97, .aload_n 0, 1), (98, .bipush 8, 2)]
theorem fw_dX8_init_89_c : fchk 89 (cX8_init.data.toList.drop 89) fw_dX8_init_89 = true := by decide +kernel
theorem dX8_init_89 : Eq (decode cX8_init 89) (Except.ok (Instr.putfield 41, 3)) := fE fw_dX8_init_89_c 0 rfl
theorem dX8_init_92 : Eq (decode cX8_init 92) (Except.ok (Instr.aload_n 0, 1)) := fE fw_dX8_init_89_c 1 rfl
theorem dX8_init_93 : Eq (decode cX8_init 93) (Except.ok (Instr.iconst 1, 1)) := fE fw_dX8_init_89_c 2 rfl
theorem dX8_init_94 : Eq (decode cX8_init 94) (Except.ok (Instr.putfield 44, 3)) := fE fw_dX8_init_89_c 3 rfl
theorem dX8_init_97 : Eq (decode cX8_init 97) (Except.ok (Instr.aload_n 0, 1)) := fE fw_dX8_init_89_c 4 rfl
theorem dX8_init_98 : Eq (decode cX8_init 98) (Except.ok (Instr.bipush 8, 2)) := fE fw_dX8_init_89_c 5 rfl
theorem dX8_init_100 : decode cX8_init 100 = .ok (.newarray .int, 2) := by decide +kernel
def fw_dX8_init_102 : List (Nat × Instr × Nat) := [(102, .putfield 48, 3), (105, .aload_n 0, 1), (106, .sipush 1024, 3)]
theorem fw_dX8_init_102_c : fchk 102 (cX8_init.data.toList.drop 102) fw_dX8_init_102 = true := by decide +kernel
theorem dX8_init_102 : Eq (decode cX8_init 102) (Except.ok (Instr.putfield 48, 3)) := fE fw_dX8_init_102_c 0 rfl
theorem dX8_init_105 : Eq (decode cX8_init 105) (Except.ok (Instr.aload_n 0, 1)) := fE fw_dX8_init_102_c 1 rfl
theorem dX8_init_106 : Eq (decode cX8_init 106) (Except.ok (Instr.sipush 1024, 3)) := fE fw_dX8_init_102_c 2 rfl
theorem dX8_init_109 : decode cX8_init 109 = .ok (.newarray .int, 2) := by decide +kernel
def fw_dX8_init_111 : List (Nat × Instr × Nat) := [(111, .putfield 51, 3), (114, .aload_n 0, 1), (115, .bipush 120, 2)]
theorem fw_dX8_init_111_c : fchk 111 (cX8_init.data.toList.drop 111) fw_dX8_init_111 = true := by decide +kernel
theorem dX8_init_111 : Eq (decode cX8_init 111) (Except.ok (Instr.putfield 51, 3)) := fE fw_dX8_init_111_c 0 rfl
theorem dX8_init_114 : Eq (decode cX8_init 114) (Except.ok (Instr.aload_n 0, 1)) := fE fw_dX8_init_111_c 1 rfl
theorem dX8_init_115 : Eq (decode cX8_init 115) (Except.ok (Instr.bipush 120, 2)) := fE fw_dX8_init_111_c 2 rfl
theorem dX8_init_117 : decode cX8_init 117 = .ok (.newarray .int, 2) := by decide +kernel
def fw_dX8_init_119 : List (Nat × Instr × Nat) := [(119, .putfield 54, 3), (122, .aload_n 0, 1), (123, .bipush 12, 2)]
theorem fw_dX8_init_119_c : fchk 119 (cX8_init.data.toList.drop 119) fw_dX8_init_119 = true := by decide +kernel
theorem dX8_init_119 : Eq (decode cX8_init 119) (Except.ok (Instr.putfield 54, 3)) := fE fw_dX8_init_119_c 0 rfl
theorem dX8_init_122 : Eq (decode cX8_init 122) (Except.ok (Instr.aload_n 0, 1)) := fE fw_dX8_init_119_c 1 rfl
theorem dX8_init_123 : Eq (decode cX8_init 123) (Except.ok (Instr.bipush 12, 2)) := fE fw_dX8_init_119_c 2 rfl
theorem dX8_init_125 : decode cX8_init 125 = .ok (.newarray .int, 2) := by decide +kernel
def fw_dX8_init_127 : List (Nat × Instr × Nat) := [(127, .putfield 57, 3), (130, .aload_n 0, 1), (131, .bipush 10, 2)]
theorem fw_dX8_init_127_c : fchk 127 (cX8_init.data.toList.drop 127) fw_dX8_init_127 = true := by decide +kernel
theorem dX8_init_127 : Eq (decode cX8_init 127) (Except.ok (Instr.putfield 57, 3)) := fE fw_dX8_init_127_c 0 rfl
theorem dX8_init_130 : Eq (decode cX8_init 130) (Except.ok (Instr.aload_n 0, 1)) := fE fw_dX8_init_127_c 1 rfl
theorem dX8_init_131 : Eq (decode cX8_init 131) (Except.ok (Instr.bipush 10, 2)) := fE fw_dX8_init_127_c 2 rfl
theorem dX8_init_133 : decode cX8_init 133 = .ok (.newarray .int, 2) := by decide +kernel
def fw_dX8_init_135 : List (Nat × Instr × Nat) := [(135, .putfield 60, 3), (138, .aload_n 0, 1), (139, .bipush 10, 2)]
theorem fw_dX8_init_135_c : fchk 135 (cX8_init.data.toList.drop 135) fw_dX8_init_135 = true := by decide +kernel
theorem dX8_init_135 : Eq (decode cX8_init 135) (Except.ok (Instr.putfield 60, 3)) := fE fw_dX8_init_135_c 0 rfl
theorem dX8_init_138 : Eq (decode cX8_init 138) (Except.ok (Instr.aload_n 0, 1)) := fE fw_dX8_init_135_c 1 rfl
theorem dX8_init_139 : Eq (decode cX8_init 139) (Except.ok (Instr.bipush 10, 2)) := fE fw_dX8_init_135_c 2 rfl
theorem dX8_init_141 : decode cX8_init 141 = .ok (.newarray .int, 2) := by decide +kernel
def fw_dX8_init_143 : List (Nat × Instr × Nat) := [(143, .putfield 63, 3), (146, .aload_n 0, 1), (147, .bipush 12, 2)]
theorem fw_dX8_init_143_c : fchk 143 (cX8_init.data.toList.drop 143) fw_dX8_init_143 = true := by decide +kernel
theorem dX8_init_143 : Eq (decode cX8_init 143) (Except.ok (Instr.putfield 63, 3)) := fE fw_dX8_init_143_c 0 rfl
theorem dX8_init_146 : Eq (decode cX8_init 146) (Except.ok (Instr.aload_n 0, 1)) := fE fw_dX8_init_143_c 1 rfl
theorem dX8_init_147 : Eq (decode cX8_init 147) (Except.ok (Instr.bipush 12, 2)) := fE fw_dX8_init_143_c 2 rfl
theorem dX8_init_149 : decode cX8_init 149 = .ok (.newarray .boolean, 2) := by decide +kernel
def fw_dX8_init_151 : List (Nat × Instr × Nat) := [(151, .putfield 66, 3), (154, .aload_n 0, 1), (155, .bipush 120, 2)]
theorem fw_dX8_init_151_c : fchk 151 (cX8_init.data.toList.drop 151) fw_dX8_init_151 = true := by decide +kernel
theorem dX8_init_151 : Eq (decode cX8_init 151) (Except.ok (Instr.putfield 66, 3)) := fE fw_dX8_init_151_c 0 rfl
theorem dX8_init_154 : Eq (decode cX8_init 154) (Except.ok (Instr.aload_n 0, 1)) := fE fw_dX8_init_151_c 1 rfl
theorem dX8_init_155 : Eq (decode cX8_init 155) (Except.ok (Instr.bipush 120, 2)) := fE fw_dX8_init_151_c 2 rfl
theorem dX8_init_157 : decode cX8_init 157 = .ok (.newarray .int, 2) := by decide +kernel
def fw_dX8_init_159 : List (Nat × Instr × Nat) := [(159, .putfield 70, 3), (162, .aload_n 0, 1), (163, .bipush 120, 2)]
theorem fw_dX8_init_159_c : fchk 159 (cX8_init.data.toList.drop 159) fw_dX8_init_159 = true := by decide +kernel
theorem dX8_init_159 : Eq (decode cX8_init 159) (Except.ok (Instr.putfield 70, 3)) := fE fw_dX8_init_159_c 0 rfl
theorem dX8_init_162 : Eq (decode cX8_init 162) (Except.ok (Instr.aload_n 0, 1)) := fE fw_dX8_init_159_c 1 rfl
theorem dX8_init_163 : Eq (decode cX8_init 163) (Except.ok (Instr.bipush 120, 2)) := fE fw_dX8_init_159_c 2 rfl
theorem dX8_init_165 : decode cX8_init 165 = .ok (.newarray .int, 2) := by decide +kernel
def fw_dX8_init_167 : List (Nat × Instr × Nat) := [(167, .putfield 73, 3), (170, .aload_n 0, 1), (171, .bipush 120, 2)]
theorem fw_dX8_init_167_c : fchk 167 (cX8_init.data.toList.drop 167) fw_dX8_init_167 = true := by decide +kernel
theorem dX8_init_167 : Eq (decode cX8_init 167) (Except.ok (Instr.putfield 73, 3)) := fE fw_dX8_init_167_c 0 rfl
theorem dX8_init_170 : Eq (decode cX8_init 170) (Except.ok (Instr.aload_n 0, 1)) := fE fw_dX8_init_167_c 1 rfl
theorem dX8_init_171 : Eq (decode cX8_init 171) (Except.ok (Instr.bipush 120, 2)) := fE fw_dX8_init_167_c 2 rfl
theorem dX8_init_173 : decode cX8_init 173 = .ok (.newarray .int, 2) := by decide +kernel
def fw_dX8_init_175 : List (Nat × Instr × Nat) := [(175, .putfield 76, 3), (178, .aload_n 0, 1), (179, .bipush 120, 2)]
theorem fw_dX8_init_175_c : fchk 175 (cX8_init.data.toList.drop 175) fw_dX8_init_175 = true := by decide +kernel
theorem dX8_init_175 : Eq (decode cX8_init 175) (Except.ok (Instr.putfield 76, 3)) := fE fw_dX8_init_175_c 0 rfl
theorem dX8_init_178 : Eq (decode cX8_init 178) (Except.ok (Instr.aload_n 0, 1)) := fE fw_dX8_init_175_c 1 rfl
theorem dX8_init_179 : Eq (decode cX8_init 179) (Except.ok (Instr.bipush 120, 2)) := fE fw_dX8_init_175_c 2 rfl
theorem dX8_init_181 : decode cX8_init 181 = .ok (.newarray .int, 2) := by decide +kernel
def fw_dX8_init_183 : List (Nat × Instr × Nat) := [(183, .putfield 79, 3), (186, .aload_n 0, 1), (187, .bipush 120, 2)]
theorem fw_dX8_init_183_c : fchk 183 (cX8_init.data.toList.drop 183) fw_dX8_init_183 = true := by decide +kernel
theorem dX8_init_183 : Eq (decode cX8_init 183) (Except.ok (Instr.putfield 79, 3)) := fE fw_dX8_init_183_c 0 rfl
theorem dX8_init_186 : Eq (decode cX8_init 186) (Except.ok (Instr.aload_n 0, 1)) := fE fw_dX8_init_183_c 1 rfl
theorem dX8_init_187 : Eq (decode cX8_init 187) (Except.ok (Instr.bipush 120, 2)) := fE fw_dX8_init_183_c 2 rfl
theorem dX8_init_189 : decode cX8_init 189 = .ok (.newarray .int, 2) := by decide +kernel
def fw_dX8_init_191 : List (Nat × Instr × Nat) := [(191, .putfield 82, 3), (194, .aload_n 0, 1), (195, .sipush 840, 3)]
theorem fw_dX8_init_191_c : fchk 191 (cX8_init.data.toList.drop 191) fw_dX8_init_191 = true := by decide +kernel
theorem dX8_init_191 : Eq (decode cX8_init 191) (Except.ok (Instr.putfield 82, 3)) := fE fw_dX8_init_191_c 0 rfl
theorem dX8_init_194 : Eq (decode cX8_init 194) (Except.ok (Instr.aload_n 0, 1)) := fE fw_dX8_init_191_c 1 rfl
theorem dX8_init_195 : Eq (decode cX8_init 195) (Except.ok (Instr.sipush 840, 3)) := fE fw_dX8_init_191_c 2 rfl
theorem dX8_init_198 : decode cX8_init 198 = .ok (.newarray .int, 2) := by decide +kernel
def fw_dX8_init_200 : List (Nat × Instr × Nat) := [(200, .putfield 85, 3), (203, .aload_n 0, 1), (204, .bipush 7, 2)]
theorem fw_dX8_init_200_c : fchk 200 (cX8_init.data.toList.drop 200) fw_dX8_init_200 = true := by decide +kernel
theorem dX8_init_200 : Eq (decode cX8_init 200) (Except.ok (Instr.putfield 85, 3)) := fE fw_dX8_init_200_c 0 rfl
theorem dX8_init_203 : Eq (decode cX8_init 203) (Except.ok (Instr.aload_n 0, 1)) := fE fw_dX8_init_200_c 1 rfl
theorem dX8_init_204 : Eq (decode cX8_init 204) (Except.ok (Instr.bipush 7, 2)) := fE fw_dX8_init_200_c 2 rfl
theorem dX8_init_206 : decode cX8_init 206 = .ok (.newarray .int, 2) := by decide +kernel
def fw_dX8_init_208 : List (Nat × Instr × Nat) := [(208, .putfield 88, 3), (211, .aload_n 0, 1), (212, .bipush 7, 2)]
theorem fw_dX8_init_208_c : fchk 208 (cX8_init.data.toList.drop 208) fw_dX8_init_208 = true := by decide +kernel
theorem dX8_init_208 : Eq (decode cX8_init 208) (Except.ok (Instr.putfield 88, 3)) := fE fw_dX8_init_208_c 0 rfl
theorem dX8_init_211 : Eq (decode cX8_init 211) (Except.ok (Instr.aload_n 0, 1)) := fE fw_dX8_init_208_c 1 rfl
theorem dX8_init_212 : Eq (decode cX8_init 212) (Except.ok (Instr.bipush 7, 2)) := fE fw_dX8_init_208_c 2 rfl
theorem dX8_init_214 : decode cX8_init 214 = .ok (.newarray .int, 2) := by decide +kernel
def fw_dX8_init_216 : List (Nat × Instr × Nat) := [(216, .putfield 91, 3), (219, .aload_n 0, 1), (220, .bipush 7, 2)]
theorem fw_dX8_init_216_c : fchk 216 (cX8_init.data.toList.drop 216) fw_dX8_init_216 = true := by decide +kernel
theorem dX8_init_216 : Eq (decode cX8_init 216) (Except.ok (Instr.putfield 91, 3)) := fE fw_dX8_init_216_c 0 rfl
theorem dX8_init_219 : Eq (decode cX8_init 219) (Except.ok (Instr.aload_n 0, 1)) := fE fw_dX8_init_216_c 1 rfl
theorem dX8_init_220 : Eq (decode cX8_init 220) (Except.ok (Instr.bipush 7, 2)) := fE fw_dX8_init_216_c 2 rfl
theorem dX8_init_222 : decode cX8_init 222 = .ok (.newarray .int, 2) := by decide +kernel
def fw_dX8_init_224 : List (Nat × Instr × Nat) := [(224, .putfield 94, 3), (227, .aload_n 0, 1), (228, .bipush 7, 2)]
theorem fw_dX8_init_224_c : fchk 224 (cX8_init.data.toList.drop 224) fw_dX8_init_224 = true := by decide +kernel
theorem dX8_init_224 : Eq (decode cX8_init 224) (Except.ok (Instr.putfield 94, 3)) := fE fw_dX8_init_224_c 0 rfl
theorem dX8_init_227 : Eq (decode cX8_init 227) (Except.ok (Instr.aload_n 0, 1)) := fE fw_dX8_init_224_c 1 rfl
theorem dX8_init_228 : Eq (decode cX8_init 228) (Except.ok (Instr.bipush 7, 2)) := fE fw_dX8_init_224_c 2 rfl
theorem dX8_init_230 : decode cX8_init 230 = .ok (.newarray .int, 2) := by decide +kernel
def fw_dX8_init_232 : List (Nat × Instr × Nat) := [(232, .putfield 97, 3), (235, .aload_n 0, 1), (236, .iconst (-1), 1), (237, .putfield 100, 3), (240, .aload_n 0, 1), (241, .bipush 74, 2)]
theorem fw_dX8_init_232_c : fchk 232 (cX8_init.data.toList.drop 232) fw_dX8_init_232 = true := by decide +kernel
theorem dX8_init_232 : Eq (decode cX8_init 232) (Except.ok (Instr.putfield 97, 3)) := fE fw_dX8_init_232_c 0 rfl
theorem dX8_init_235 : Eq (decode cX8_init 235) (Except.ok (Instr.aload_n 0, 1)) := fE fw_dX8_init_232_c 1 rfl
theorem dX8_init_236 : Eq (decode cX8_init 236) (Except.ok (Instr.iconst (-1), 1)) := fE fw_dX8_init_232_c 2 rfl
theorem dX8_init_237 : Eq (decode cX8_init 237) (Except.ok (Instr.putfield 100, 3)) := fE fw_dX8_init_232_c 3 rfl
theorem dX8_init_240 : Eq (decode cX8_init 240) (Except.ok (Instr.aload_n 0, 1)) := fE fw_dX8_init_232_c 4 rfl
theorem dX8_init_241 : Eq (decode cX8_init 241) (Except.ok (Instr.bipush 74, 2)) := fE fw_dX8_init_232_c 5 rfl
theorem dX8_init_243 : decode cX8_init 243 = .ok (.newarray .long, 2) := by decide +kernel
def fw_dX8_init_245 : List (Nat × Instr × Nat) := [(245, .putfield 103, 3), (248, .aload_n 0, 1), (249, .bipush 16, 2)]
theorem fw_dX8_init_245_c : fchk 245 (cX8_init.data.toList.drop 245) fw_dX8_init_245 = true := by decide +kernel
theorem dX8_init_245 : Eq (decode cX8_init 245) (Except.ok (Instr.putfield 103, 3)) := fE fw_dX8_init_245_c 0 rfl
theorem dX8_init_248 : Eq (decode cX8_init 248) (Except.ok (Instr.aload_n 0, 1)) := fE fw_dX8_init_245_c 1 rfl
theorem dX8_init_249 : Eq (decode cX8_init 249) (Except.ok (Instr.bipush 16, 2)) := fE fw_dX8_init_245_c 2 rfl
theorem dX8_init_251 : decode cX8_init 251 = .ok (.newarray .int, 2) := by decide +kernel
def fw_dX8_init_253 : List (Nat × Instr × Nat) := [(253, .putfield 106, 3), (256, .aload_n 0, 1), (257, .bipush 64, 2)]
theorem fw_dX8_init_253_c : fchk 253 (cX8_init.data.toList.drop 253) fw_dX8_init_253 = true := by decide +kernel
theorem dX8_init_253 : Eq (decode cX8_init 253) (Except.ok (Instr.putfield 106, 3)) := fE fw_dX8_init_253_c 0 rfl
theorem dX8_init_256 : Eq (decode cX8_init 256) (Except.ok (Instr.aload_n 0, 1)) := fE fw_dX8_init_253_c 1 rfl
theorem dX8_init_257 : Eq (decode cX8_init 257) (Except.ok (Instr.bipush 64, 2)) := fE fw_dX8_init_253_c 2 rfl
theorem dX8_init_259 : decode cX8_init 259 = .ok (.newarray .int, 2) := by decide +kernel
def fw_dX8_init_261 : List (Nat × Instr × Nat) := [(261, .putfield 109, 3), (264, .aload_n 0, 1), (265, .bipush 64, 2)]
theorem fw_dX8_init_261_c : fchk 261 (cX8_init.data.toList.drop 261) fw_dX8_init_261 = true := by decide +kernel
theorem dX8_init_261 : Eq (decode cX8_init 261) (Except.ok (Instr.putfield 109, 3)) := fE fw_dX8_init_261_c 0 rfl
theorem dX8_init_264 : Eq (decode cX8_init 264) (Except.ok (Instr.aload_n 0, 1)) := fE fw_dX8_init_261_c 1 rfl
theorem dX8_init_265 : Eq (decode cX8_init 265) (Except.ok (Instr.bipush 64, 2)) := fE fw_dX8_init_261_c 2 rfl
theorem dX8_init_267 : decode cX8_init 267 = .ok (.newarray .int, 2) := by decide +kernel
def fw_dX8_init_269 : List (Nat × Instr × Nat) := [(269, .putfield 112, 3), (272, .aload_n 0, 1), (273, .iconst (-1), 1), (274, .putfield 115, 3), (277, .iconst 0, 1), (278, .istore_n 1, 1), (279, .iload_n 1, 1), (280, .bipush 8, 2), (282, .if_icmp .ge 17, 3), (285, .aload_n 0, 1), (286, .getfield 25, 3), (289, .iload_n 1, 1), (290, .bipush 16, 2), (292, .iastore, 1)]
theorem fw_dX8_init_269_c : fchk 269 (cX8_init.data.toList.drop 269) fw_dX8_init_269 = true := by decide +kernel
theorem dX8_init_269 : Eq (decode cX8_init 269) (Except.ok (Instr.putfield 112, 3)) := fE fw_dX8_init_269_c 0 rfl
theorem dX8_init_272 : Eq (decode cX8_init 272) (Except.ok (Instr.aload_n 0, 1)) := fE fw_dX8_init_269_c 1 rfl
theorem dX8_init_273 : Eq (decode cX8_init 273) (Except.ok (Instr.iconst (-1), 1)) := fE fw_dX8_init_269_c 2 rfl
theorem dX8_init_274 : Eq (decode cX8_init 274) (Except.ok (Instr.putfield 115, 3)) := fE fw_dX8_init_269_c 3 rfl
theorem dX8_init_277 : Eq (decode cX8_init 277) (Except.ok (Instr.iconst 0, 1)) := fE fw_dX8_init_269_c 4 rfl
theorem dX8_init_278 : Eq (decode cX8_init 278) (Except.ok (Instr.istore_n 1, 1)) := fE fw_dX8_init_269_c 5 rfl
theorem dX8_init_279 : Eq (decode cX8_init 279) (Except.ok (Instr.iload_n 1, 1)) := fE fw_dX8_init_269_c 6 rfl
theorem dX8_init_280 : Eq (decode cX8_init 280) (Except.ok (Instr.bipush 8, 2)) := fE fw_dX8_init_269_c 7 rfl
theorem dX8_init_282 : Eq (decode cX8_init 282) (Except.ok (Instr.if_icmp .ge 17, 3)) := fE fw_dX8_init_269_c 8 rfl
theorem dX8_init_285 : Eq (decode cX8_init 285) (Except.ok (Instr.aload_n 0, 1)) := fE fw_dX8_init_269_c 9 rfl
theorem dX8_init_286 : Eq (decode cX8_init 286) (Except.ok (Instr.getfield 25, 3)) := fE fw_dX8_init_269_c 10 rfl
theorem dX8_init_289 : Eq (decode cX8_init 289) (Except.ok (Instr.iload_n 1, 1)) := fE fw_dX8_init_269_c 11 rfl
theorem dX8_init_290 : Eq (decode cX8_init 290) (Except.ok (Instr.bipush 16, 2)) := fE fw_dX8_init_269_c 12 rfl
theorem dX8_init_292 : Eq (decode cX8_init 292) (Except.ok (Instr.iastore, 1)) := fE fw_dX8_init_269_c 13 rfl
theorem dX8_init_293 : decode cX8_init 293 = .ok (.iinc 1 1, 3) := by decide +kernel
def fw_dX8_init_296 : List (Nat × Instr × Nat) := [(296, .goto (-17), 3), (299, .iconst 0, 1), (300, .istore_n 1, 1), (301, .iload_n 1, 1), (302, .bipush 16, 2), (304, .if_icmp .ge 16, 3), (307, .aload_n 0, 1), (308, .getfield 106, 3), (311, .iload_n 1, 1), (312, .iconst (-1), 1), (313, .iastore, 1)]
theorem fw_dX8_init_296_c : fchk 296 (cX8_init.data.toList.drop 296) fw_dX8_init_296 = true := by decide +kernel
theorem dX8_init_296 : Eq (decode cX8_init 296) (Except.ok (Instr.goto (-17), 3)) := fE fw_dX8_init_296_c 0 rfl
theorem dX8_init_299 : Eq (decode cX8_init 299) (Except.ok (Instr.iconst 0, 1)) := fE fw_dX8_init_296_c 1 rfl
theorem dX8_init_300 : Eq (decode cX8_init 300) (Except.ok (Instr.istore_n 1, 1)) := fE fw_dX8_init_296_c 2 rfl
theorem dX8_init_301 : Eq (decode cX8_init 301) (Except.ok (Instr.iload_n 1, 1)) := fE fw_dX8_init_296_c 3 rfl
theorem dX8_init_302 : Eq (decode cX8_init 302) (Except.ok (Instr.bipush 16, 2)) := fE fw_dX8_init_296_c 4 rfl
theorem dX8_init_304 : Eq (decode cX8_init 304) (Except.ok (Instr.if_icmp .ge 16, 3)) := fE fw_dX8_init_296_c 5 rfl
theorem dX8_init_307 : Eq (decode cX8_init 307) (Except.ok (Instr.aload_n 0, 1)) := fE fw_dX8_init_296_c 6 rfl
theorem dX8_init_308 : Eq (decode cX8_init 308) (Except.ok (Instr.getfield 106, 3)) := fE fw_dX8_init_296_c 7 rfl
theorem dX8_init_311 : Eq (decode cX8_init 311) (Except.ok (Instr.iload_n 1, 1)) := fE fw_dX8_init_296_c 8 rfl
theorem dX8_init_312 : Eq (decode cX8_init 312) (Except.ok (Instr.iconst (-1), 1)) := fE fw_dX8_init_296_c 9 rfl
theorem dX8_init_313 : Eq (decode cX8_init 313) (Except.ok (Instr.iastore, 1)) := fE fw_dX8_init_296_c 10 rfl
theorem dX8_init_314 : decode cX8_init 314 = .ok (.iinc 1 1, 3) := by decide +kernel
def fw_dX8_init_317 : List (Nat × Instr × Nat) := [(317, .goto (-16), 3), (320, .return_, 1)]
theorem fw_dX8_init_317_c : fchk 317 (cX8_init.data.toList.drop 317) fw_dX8_init_317 = true := by decide +kernel
theorem dX8_init_317 : Eq (decode cX8_init 317) (Except.ok (Instr.goto (-16), 3)) := fE fw_dX8_init_317_c 0 rfl
theorem dX8_init_320 : Eq (decode cX8_init 320) (Except.ok (Instr.return_, 1)) := fE fw_dX8_init_317_c 1 rfl
def fw_dX8_isIn_0 : List (Nat × Instr × Nat) := [(0, .lload_n 0, 1), (1, .lload_n 2, 1), (2, .lcmp, 1), (3, .ifCond .lt 14, 3), (6, .lload_n 0, 1), (7, .lload 4, 2), (9, .lcmp, 1), (10, .ifCond .gt 7, 3), (13, .iconst 1, 1), (14, .goto 4, 3), (17, .iconst 0, 1), (18, .ireturn, 1)]
theorem fw_dX8_isIn_0_c : fchk 0 (cX8_isIn.data.toList.drop 0) fw_dX8_isIn_0 = true := by decide +kernel
theorem dX8_isIn_0 : Eq (decode cX8_isIn 0) (Except.ok (Instr.lload_n 0, 1)) := fE fw_dX8_isIn_0_c 0 rfl
theorem dX8_isIn_1 : Eq (decode cX8_isIn 1) (Except.ok (Instr.lload_n 2, 1)) := fE fw_dX8_isIn_0_c 1 rfl
theorem dX8_isIn_2 : Eq (decode cX8_isIn 2) (Except.ok (Instr.lcmp, 1)) := fE fw_dX8_isIn_0_c 2 rfl
theorem dX8_isIn_3 : Eq (decode cX8_isIn 3) (Except.ok (Instr.ifCond .lt 14, 3)) := fE fw_dX8_isIn_0_c 3 rfl
theorem dX8_isIn_6 : Eq (decode cX8_isIn 6) (Except.ok (Instr.lload_n 0, 1)) := fE fw_dX8_isIn_0_c 4 rfl
theorem dX8_isIn_7 : Eq (decode cX8_isIn 7) (Except.ok (Instr.lload 4, 2)) := fE fw_dX8_isIn_0_c 5 rfl
theorem dX8_isIn_9 : Eq (decode cX8_isIn 9) (Except.ok (Instr.lcmp, 1)) := fE fw_dX8_isIn_0_c 6 rfl
theorem dX8_isIn_10 : Eq (decode cX8_isIn 10) (Except.ok (Instr.ifCond .gt 7, 3)) := fE fw_dX8_isIn_0_c 7 rfl
theorem dX8_isIn_13 : Eq (decode cX8_isIn 13) (Except.ok (Instr.iconst 1, 1)) := fE fw_dX8_isIn_0_c 8 rfl
theorem dX8_isIn_14 : Eq (decode cX8_isIn 14) (Except.ok (Instr.goto 4, 3)) := fE fw_dX8_isIn_0_c 9 rfl
theorem dX8_isIn_17 : Eq (decode cX8_isIn 17) (Except.ok (Instr.iconst 0, 1)) := fE fw_dX8_isIn_0_c 10 rfl
theorem dX8_isIn_18 : Eq (decode cX8_isIn 18) (Except.ok (Instr.ireturn, 1)) := fE fw_dX8_isIn_0_c 11 rfl
def fw_dX8_no_0 : List (Nat × Instr × Nat) := [(0, .aload_n 0, 1), (1, .getfield 48, 3), (4, .iload_n 1, 1), (5, .ineg, 1), (6, .dup2, 1), (7, .iaload, 1), (8, .iconst 1, 1), (9, .iadd, 1), (10, .iastore, 1), (11, .iload_n 1, 1), (12, .ireturn, 1)]
theorem fw_dX8_no_0_c : fchk 0 (cX8_no.data.toList.drop 0) fw_dX8_no_0 = true := by decide +kernel
theorem dX8_no_0 : Eq (decode cX8_no 0) (Except.ok (Instr.aload_n 0, 1)) := fE fw_dX8_no_0_c 0 rfl
theorem dX8_no_1 : Eq (decode cX8_no 1) (Except.ok (Instr.getfield 48, 3)) := fE fw_dX8_no_0_c 1 rfl
theorem dX8_no_4 : Eq (decode cX8_no 4) (Except.ok (Instr.iload_n 1, 1)) := fE fw_dX8_no_0_c 2 rfl
theorem dX8_no_5 : Eq (decode cX8_no 5) (Except.ok (Instr.ineg, 1)) := fE fw_dX8_no_0_c 3 rfl
theorem dX8_no_6 : Eq (decode cX8_no 6) (Except.ok (Instr.dup2, 1)) := fE fw_dX8_no_0_c 4 rfl
theorem dX8_no_7 : Eq (decode cX8_no 7) (Except.ok (Instr.iaload, 1)) := fE fw_dX8_no_0_c 5 rfl
theorem dX8_no_8 : Eq (decode cX8_no 8) (Except.ok (Instr.iconst 1, 1)) := fE fw_dX8_no_0_c 6 rfl
theorem dX8_no_9 : Eq (decode cX8_no 9) (Except.ok (Instr.iadd, 1)) := fE fw_dX8_no_0_c 7 rfl
theorem dX8_no_10 : Eq (decode cX8_no 10) (Except.ok (Instr.iastore, 1)) := fE fw_dX8_no_0_c 8 rfl
theorem dX8_no_11 : Eq (decode cX8_no 11) (Except.ok (Instr.iload_n 1, 1)) := fE fw_dX8_no_0_c 9 rfl
theorem dX8_no_12 : Eq (decode cX8_no 12) (Except.ok (Instr.ireturn, 1)) := fE fw_dX8_no_0_c 10 rfl
def fw_dX8_isRegister_0 : List (Nat × Instr × Nat) := [(0, .iload_n 0, 1), (1, .ifCond .lt 13, 3), (4, .iload_n 0, 1), (5, .bipush 8, 2), (7, .if_icmp .ge 7, 3), (10, .iconst 1, 1), (11, .goto 4, 3), (14, .iconst 0, 1), (15, .ireturn, 1)]
theorem fw_dX8_isRegister_0_c : fchk 0 (cX8_isRegister.data.toList.drop 0) fw_dX8_isRegister_0 = true := by decide +kernel
theorem dX8_isRegister_0 : Eq (decode cX8_isRegister 0) (Except.ok (Instr.iload_n 0, 1)) := fE fw_dX8_isRegister_0_c 0 rfl
theorem dX8_isRegister_1 : Eq (decode cX8_isRegister 1) (Except.ok (Instr.ifCond .lt 13, 3)) := fE fw_dX8_isRegister_0_c 1 rfl
theorem dX8_isRegister_4 : Eq (decode cX8_isRegister 4) (Except.ok (Instr.iload_n 0, 1)) := fE fw_dX8_isRegister_0_c 2 rfl
theorem dX8_isRegister_5 : Eq (decode cX8_isRegister 5) (Except.ok (Instr.bipush 8, 2)) := fE fw_dX8_isRegister_0_c 3 rfl
theorem dX8_isRegister_7 : Eq (decode cX8_isRegister 7) (Except.ok (Instr.if_icmp .ge 7, 3)) := fE fw_dX8_isRegister_0_c 4 rfl
theorem dX8_isRegister_10 : Eq (decode cX8_isRegister 10) (Except.ok (Instr.iconst 1, 1)) := fE fw_dX8_isRegister_0_c 5 rfl
theorem dX8_isRegister_11 : Eq (decode cX8_isRegister 11) (Except.ok (Instr.goto 4, 3)) := fE fw_dX8_isRegister_0_c 6 rfl
theorem dX8_isRegister_14 : Eq (decode cX8_isRegister 14) (Except.ok (Instr.iconst 0, 1)) := fE fw_dX8_isRegister_0_c 7 rfl
theorem dX8_isRegister_15 : Eq (decode cX8_isRegister 15) (Except.ok (Instr.ireturn, 1)) := fE fw_dX8_isRegister_0_c 8 rfl
def fw_dX8_isCell_0 : List (Nat × Instr × Nat) := [(0, .iload_n 0, 1), (1, .ifCond .lt 13, 3), (4, .iload_n 0, 1), (5, .bipush 64, 2), (7, .if_icmp .ge 7, 3), (10, .iconst 1, 1), (11, .goto 4, 3), (14, .iconst 0, 1), (15, .ireturn, 1)]
theorem fw_dX8_isCell_0_c : fchk 0 (cX8_isCell.data.toList.drop 0) fw_dX8_isCell_0 = true := by decide +kernel
theorem dX8_isCell_0 : Eq (decode cX8_isCell 0) (Except.ok (Instr.iload_n 0, 1)) := fE fw_dX8_isCell_0_c 0 rfl
theorem dX8_isCell_1 : Eq (decode cX8_isCell 1) (Except.ok (Instr.ifCond .lt 13, 3)) := fE fw_dX8_isCell_0_c 1 rfl
theorem dX8_isCell_4 : Eq (decode cX8_isCell 4) (Except.ok (Instr.iload_n 0, 1)) := fE fw_dX8_isCell_0_c 2 rfl
theorem dX8_isCell_5 : Eq (decode cX8_isCell 5) (Except.ok (Instr.bipush 64, 2)) := fE fw_dX8_isCell_0_c 3 rfl
theorem dX8_isCell_7 : Eq (decode cX8_isCell 7) (Except.ok (Instr.if_icmp .ge 7, 3)) := fE fw_dX8_isCell_0_c 4 rfl
theorem dX8_isCell_10 : Eq (decode cX8_isCell 10) (Except.ok (Instr.iconst 1, 1)) := fE fw_dX8_isCell_0_c 5 rfl
theorem dX8_isCell_11 : Eq (decode cX8_isCell 11) (Except.ok (Instr.goto 4, 3)) := fE fw_dX8_isCell_0_c 6 rfl
theorem dX8_isCell_14 : Eq (decode cX8_isCell 14) (Except.ok (Instr.iconst 0, 1)) := fE fw_dX8_isCell_0_c 7 rfl
theorem dX8_isCell_15 : Eq (decode cX8_isCell 15) (Except.ok (Instr.ireturn, 1)) := fE fw_dX8_isCell_0_c 8 rfl
def fw_dX8_isInstruction_0 : List (Nat × Instr × Nat) := [(0, .iload_n 0, 1), (1, .ifCond .lt 13, 3), (4, .iload_n 0, 1), (5, .bipush 12, 2), (7, .if_icmp .ge 7, 3), (10, .iconst 1, 1), (11, .goto 4, 3), (14, .iconst 0, 1), (15, .ireturn, 1)]
theorem fw_dX8_isInstruction_0_c : fchk 0 (cX8_isInstruction.data.toList.drop 0) fw_dX8_isInstruction_0 = true := by decide +kernel
theorem dX8_isInstruction_0 : Eq (decode cX8_isInstruction 0) (Except.ok (Instr.iload_n 0, 1)) := fE fw_dX8_isInstruction_0_c 0 rfl
theorem dX8_isInstruction_1 : Eq (decode cX8_isInstruction 1) (Except.ok (Instr.ifCond .lt 13, 3)) := fE fw_dX8_isInstruction_0_c 1 rfl
theorem dX8_isInstruction_4 : Eq (decode cX8_isInstruction 4) (Except.ok (Instr.iload_n 0, 1)) := fE fw_dX8_isInstruction_0_c 2 rfl
theorem dX8_isInstruction_5 : Eq (decode cX8_isInstruction 5) (Except.ok (Instr.bipush 12, 2)) := fE fw_dX8_isInstruction_0_c 3 rfl
theorem dX8_isInstruction_7 : Eq (decode cX8_isInstruction 7) (Except.ok (Instr.if_icmp .ge 7, 3)) := fE fw_dX8_isInstruction_0_c 4 rfl
theorem dX8_isInstruction_10 : Eq (decode cX8_isInstruction 10) (Except.ok (Instr.iconst 1, 1)) := fE fw_dX8_isInstruction_0_c 5 rfl
theorem dX8_isInstruction_11 : Eq (decode cX8_isInstruction 11) (Except.ok (Instr.goto 4, 3)) := fE fw_dX8_isInstruction_0_c 6 rfl
theorem dX8_isInstruction_14 : Eq (decode cX8_isInstruction 14) (Except.ok (Instr.iconst 0, 1)) := fE fw_dX8_isInstruction_0_c 7 rfl
theorem dX8_isInstruction_15 : Eq (decode cX8_isInstruction 15) (Except.ok (Instr.ireturn, 1)) := fE fw_dX8_isInstruction_0_c 8 rfl
def fw_dX8_cut_0 : List (Nat × Instr × Nat) := [(0, .lload_n 2, 1), (1, .lconst 1, 1), (2, .aload_n 0, 1), (3, .getfield 25, 3), (6, .iload_n 1, 1), (7, .iaload, 1), (8, .lshl, 1), (9, .lconst 1, 1), (10, .lsub, 1), (11, .land, 1), (12, .lreturn, 1)]
theorem fw_dX8_cut_0_c : fchk 0 (cX8_cut.data.toList.drop 0) fw_dX8_cut_0 = true := by decide +kernel
theorem dX8_cut_0 : Eq (decode cX8_cut 0) (Except.ok (Instr.lload_n 2, 1)) := fE fw_dX8_cut_0_c 0 rfl
theorem dX8_cut_1 : Eq (decode cX8_cut 1) (Except.ok (Instr.lconst 1, 1)) := fE fw_dX8_cut_0_c 1 rfl
theorem dX8_cut_2 : Eq (decode cX8_cut 2) (Except.ok (Instr.aload_n 0, 1)) := fE fw_dX8_cut_0_c 2 rfl
theorem dX8_cut_3 : Eq (decode cX8_cut 3) (Except.ok (Instr.getfield 25, 3)) := fE fw_dX8_cut_0_c 3 rfl
theorem dX8_cut_6 : Eq (decode cX8_cut 6) (Except.ok (Instr.iload_n 1, 1)) := fE fw_dX8_cut_0_c 4 rfl
theorem dX8_cut_7 : Eq (decode cX8_cut 7) (Except.ok (Instr.iaload, 1)) := fE fw_dX8_cut_0_c 5 rfl
theorem dX8_cut_8 : Eq (decode cX8_cut 8) (Except.ok (Instr.lshl, 1)) := fE fw_dX8_cut_0_c 6 rfl
theorem dX8_cut_9 : Eq (decode cX8_cut 9) (Except.ok (Instr.lconst 1, 1)) := fE fw_dX8_cut_0_c 7 rfl
theorem dX8_cut_10 : Eq (decode cX8_cut 10) (Except.ok (Instr.lsub, 1)) := fE fw_dX8_cut_0_c 8 rfl
theorem dX8_cut_11 : Eq (decode cX8_cut 11) (Except.ok (Instr.land, 1)) := fE fw_dX8_cut_0_c 9 rfl
theorem dX8_cut_12 : Eq (decode cX8_cut 12) (Except.ok (Instr.lreturn, 1)) := fE fw_dX8_cut_0_c 10 rfl
set_option maxRecDepth 20000 in
theorem gi_wsX8_width_0 : GoodIn wsX8_width wsX8_width := goodIn_sub (fun _ h => h) (by decide +kernel)
set_option maxRecDepth 20000 in
theorem gi_wsX8_width_1 : GoodIn wsX8_width wsX80 := goodIn_sub (fun w h => List.mem_cons_of_mem _ (List.mem_append_right _ h)) (by decide +kernel)
def bs_wsX8_width : List (List Cond) := [wsX8_width, wsX80]
theorem bs_wsX8_width_in : ∀ b ∈ bs_wsX8_width, GoodIn wsX8_width b := List.forall_mem_cons.mpr ⟨gi_wsX8_width_0, List.forall_mem_cons.mpr ⟨gi_wsX8_width_1, (fun _ h => absurd h List.not_mem_nil)⟩⟩
set_option maxRecDepth 20000 in
theorem ggX8_width_X8_isRegister : GoodIn wsX8_width wsX8_isRegister := goodIn_k (gi_q bs_wsX8_width_in _ [(0, 7)] rfl) (gi_q bs_wsX8_width_in _ [] rfl)
set_option maxRecDepth 20000 in
theorem gX8_width_X8_isRegister : GoodIn wsX8_width (va_wsS RX8 118 yX8_isRegister wsX8_isRegister) := goodIn_app (gi_q bs_wsX8_width_in _ [(0, 4), (0, 5), (0, 6)] rfl) ggX8_width_X8_isRegister
set_option maxRecDepth 20000 in
theorem ggX8_width_X8_no : GoodIn wsX8_width wsX8_no := goodIn_k (gi_q bs_wsX8_width_in _ [(0, 11)] rfl) (goodIn_app (gi_q bs_wsX8_width_in _ [(0, 12)] rfl) (gi_wsX8_width_1))
set_option maxRecDepth 20000 in
theorem gX8_width_X8_no : GoodIn wsX8_width (wsV RX8 122 RX8 yX8_no wsX8_no) := goodIn_app (gi_q bs_wsX8_width_in _ [(0, 8), (0, 9), (0, 10), (0, 6)] rfl) ggX8_width_X8_no
set_option maxRecDepth 20000 in
theorem ggX8_width_X8_isIn : GoodIn wsX8_width wsX8_isIn := goodIn_k (gi_q bs_wsX8_width_in _ [(0, 15)] rfl) (gi_q bs_wsX8_width_in _ [] rfl)
set_option maxRecDepth 20000 in
theorem gX8_width_X8_isIn : GoodIn wsX8_width (va_wsS RX8 128 yX8_isIn wsX8_isIn) := goodIn_app (gi_q bs_wsX8_width_in _ [(0, 13), (0, 14), (0, 6)] rfl) ggX8_width_X8_isIn
set_option maxRecDepth 20000 in
theorem ggX8_width_X8_cut : GoodIn wsX8_width wsX8_cut := goodIn_k (gi_q bs_wsX8_width_in _ [(0, 19)] rfl) (goodIn_app (gi_q bs_wsX8_width_in _ [(0, 2)] rfl) (gi_wsX8_width_1))
set_option maxRecDepth 20000 in
theorem gX8_width_X8_cut : GoodIn wsX8_width (wsV RX8 132 RX8 yX8_cut wsX8_cut) := goodIn_app (gi_q bs_wsX8_width_in _ [(0, 16), (0, 17), (0, 18), (0, 6)] rfl) ggX8_width_X8_cut
def fw_dX8_width_0 : List (Nat × Instr × Nat) := [(0, .iload_n 1, 1), (1, .invokestatic 118, 3), (4, .ifCond .ne 10, 3), (7, .aload_n 0, 1), (8, .bipush (-3), 2), (10, .invokevirtual 122, 3), (13, .ireturn, 1), (14, .iload_n 2, 1), (15, .i2l, 1), (16, .lconst 1, 1), (17, .ldc2_w 126, 3), (20, .invokestatic 128, 3), (23, .ifCond .ne 10, 3), (26, .aload_n 0, 1), (27, .bipush (-6), 2), (29, .invokevirtual 122, 3), (32, .ireturn, 1), (33, .aload_n 0, 1), (34, .getfield 25, 3), (37, .iload_n 1, 1)]
theorem fw_dX8_width_0_c : fchk 0 (cX8_width.data.toList.drop 0) fw_dX8_width_0 = true := by decide +kernel
theorem dX8_width_0 : Eq (decode cX8_width 0) (Except.ok (Instr.iload_n 1, 1)) := fE fw_dX8_width_0_c 0 rfl
theorem dX8_width_1 : Eq (decode cX8_width 1) (Except.ok (Instr.invokestatic 118, 3)) := fE fw_dX8_width_0_c 1 rfl
theorem dX8_width_4 : Eq (decode cX8_width 4) (Except.ok (Instr.ifCond .ne 10, 3)) := fE fw_dX8_width_0_c 2 rfl
theorem dX8_width_7 : Eq (decode cX8_width 7) (Except.ok (Instr.aload_n 0, 1)) := fE fw_dX8_width_0_c 3 rfl
theorem dX8_width_8 : Eq (decode cX8_width 8) (Except.ok (Instr.bipush (-3), 2)) := fE fw_dX8_width_0_c 4 rfl
theorem dX8_width_10 : Eq (decode cX8_width 10) (Except.ok (Instr.invokevirtual 122, 3)) := fE fw_dX8_width_0_c 5 rfl
theorem dX8_width_13 : Eq (decode cX8_width 13) (Except.ok (Instr.ireturn, 1)) := fE fw_dX8_width_0_c 6 rfl
theorem dX8_width_14 : Eq (decode cX8_width 14) (Except.ok (Instr.iload_n 2, 1)) := fE fw_dX8_width_0_c 7 rfl
theorem dX8_width_15 : Eq (decode cX8_width 15) (Except.ok (Instr.i2l, 1)) := fE fw_dX8_width_0_c 8 rfl
theorem dX8_width_16 : Eq (decode cX8_width 16) (Except.ok (Instr.lconst 1, 1)) := fE fw_dX8_width_0_c 9 rfl
theorem dX8_width_17 : Eq (decode cX8_width 17) (Except.ok (Instr.ldc2_w 126, 3)) := fE fw_dX8_width_0_c 10 rfl
theorem dX8_width_20 : Eq (decode cX8_width 20) (Except.ok (Instr.invokestatic 128, 3)) := fE fw_dX8_width_0_c 11 rfl
theorem dX8_width_23 : Eq (decode cX8_width 23) (Except.ok (Instr.ifCond .ne 10, 3)) := fE fw_dX8_width_0_c 12 rfl
theorem dX8_width_26 : Eq (decode cX8_width 26) (Except.ok (Instr.aload_n 0, 1)) := fE fw_dX8_width_0_c 13 rfl
theorem dX8_width_27 : Eq (decode cX8_width 27) (Except.ok (Instr.bipush (-6), 2)) := fE fw_dX8_width_0_c 14 rfl
theorem dX8_width_29 : Eq (decode cX8_width 29) (Except.ok (Instr.invokevirtual 122, 3)) := fE fw_dX8_width_0_c 15 rfl
theorem dX8_width_32 : Eq (decode cX8_width 32) (Except.ok (Instr.ireturn, 1)) := fE fw_dX8_width_0_c 16 rfl
theorem dX8_width_33 : Eq (decode cX8_width 33) (Except.ok (Instr.aload_n 0, 1)) := fE fw_dX8_width_0_c 17 rfl
theorem dX8_width_34 : Eq (decode cX8_width 34) (Except.ok (Instr.getfield 25, 3)) := fE fw_dX8_width_0_c 18 rfl
theorem dX8_width_37 : Eq (decode cX8_width 37) (Except.ok (Instr.iload_n 1, 1)) := fE fw_dX8_width_0_c 19 rfl
def fw_dX8_width_38 : List (Nat × Instr × Nat) := [(38, .iaload, 1), (39, .istore_n 3, 1), (40, .aload_n 0, 1), (41, .getfield 25, 3), (44, .iload_n 1, 1), (45, .iload_n 2, 1), (46, .iastore, 1), (47, .aload_n 0, 1), (48, .getfield 7, 3), (51, .iload_n 1, 1), (52, .aload_n 0, 1), (53, .iload_n 1, 1), (54, .aload_n 0, 1), (55, .getfield 7, 3), (58, .iload_n 1, 1), (59, .laload, 1), (60, .invokevirtual 132, 3), (63, .lastore, 1), (64, .iload_n 3, 1), (65, .ireturn, 1)]
theorem fw_dX8_width_38_c : fchk 38 (cX8_width.data.toList.drop 38) fw_dX8_width_38 = true := by decide +kernel
theorem dX8_width_38 : Eq (decode cX8_width 38) (Except.ok (Instr.iaload, 1)) := fE fw_dX8_width_38_c 0 rfl
theorem dX8_width_39 : Eq (decode cX8_width 39) (Except.ok (Instr.istore_n 3, 1)) := fE fw_dX8_width_38_c 1 rfl
theorem dX8_width_40 : Eq (decode cX8_width 40) (Except.ok (Instr.aload_n 0, 1)) := fE fw_dX8_width_38_c 2 rfl
theorem dX8_width_41 : Eq (decode cX8_width 41) (Except.ok (Instr.getfield 25, 3)) := fE fw_dX8_width_38_c 3 rfl
theorem dX8_width_44 : Eq (decode cX8_width 44) (Except.ok (Instr.iload_n 1, 1)) := fE fw_dX8_width_38_c 4 rfl
theorem dX8_width_45 : Eq (decode cX8_width 45) (Except.ok (Instr.iload_n 2, 1)) := fE fw_dX8_width_38_c 5 rfl
theorem dX8_width_46 : Eq (decode cX8_width 46) (Except.ok (Instr.iastore, 1)) := fE fw_dX8_width_38_c 6 rfl
theorem dX8_width_47 : Eq (decode cX8_width 47) (Except.ok (Instr.aload_n 0, 1)) := fE fw_dX8_width_38_c 7 rfl
theorem dX8_width_48 : Eq (decode cX8_width 48) (Except.ok (Instr.getfield 7, 3)) := fE fw_dX8_width_38_c 8 rfl
theorem dX8_width_51 : Eq (decode cX8_width 51) (Except.ok (Instr.iload_n 1, 1)) := fE fw_dX8_width_38_c 9 rfl
theorem dX8_width_52 : Eq (decode cX8_width 52) (Except.ok (Instr.aload_n 0, 1)) := fE fw_dX8_width_38_c 10 rfl
theorem dX8_width_53 : Eq (decode cX8_width 53) (Except.ok (Instr.iload_n 1, 1)) := fE fw_dX8_width_38_c 11 rfl
theorem dX8_width_54 : Eq (decode cX8_width 54) (Except.ok (Instr.aload_n 0, 1)) := fE fw_dX8_width_38_c 12 rfl
theorem dX8_width_55 : Eq (decode cX8_width 55) (Except.ok (Instr.getfield 7, 3)) := fE fw_dX8_width_38_c 13 rfl
theorem dX8_width_58 : Eq (decode cX8_width 58) (Except.ok (Instr.iload_n 1, 1)) := fE fw_dX8_width_38_c 14 rfl
theorem dX8_width_59 : Eq (decode cX8_width 59) (Except.ok (Instr.laload, 1)) := fE fw_dX8_width_38_c 15 rfl
theorem dX8_width_60 : Eq (decode cX8_width 60) (Except.ok (Instr.invokevirtual 132, 3)) := fE fw_dX8_width_38_c 16 rfl
theorem dX8_width_63 : Eq (decode cX8_width 63) (Except.ok (Instr.lastore, 1)) := fE fw_dX8_width_38_c 17 rfl
theorem dX8_width_64 : Eq (decode cX8_width 64) (Except.ok (Instr.iload_n 3, 1)) := fE fw_dX8_width_38_c 18 rfl
theorem dX8_width_65 : Eq (decode cX8_width 65) (Except.ok (Instr.ireturn, 1)) := fE fw_dX8_width_38_c 19 rfl
set_option maxRecDepth 20000 in
theorem gi_wsX8_set_0 : GoodIn wsX8_set wsX8_set := goodIn_sub (fun _ h => h) (by decide +kernel)
set_option maxRecDepth 20000 in
theorem gi_wsX8_set_1 : GoodIn wsX8_set wsX80 := goodIn_sub (fun w h => List.mem_cons_of_mem _ (List.mem_append_right _ h)) (by decide +kernel)
def bs_wsX8_set : List (List Cond) := [wsX8_set, wsX80]
theorem bs_wsX8_set_in : ∀ b ∈ bs_wsX8_set, GoodIn wsX8_set b := List.forall_mem_cons.mpr ⟨gi_wsX8_set_0, List.forall_mem_cons.mpr ⟨gi_wsX8_set_1, (fun _ h => absurd h List.not_mem_nil)⟩⟩
set_option maxRecDepth 20000 in
theorem ggX8_set_X8_isRegister : GoodIn wsX8_set wsX8_isRegister := goodIn_k (gi_q bs_wsX8_set_in _ [(0, 5)] rfl) (gi_q bs_wsX8_set_in _ [] rfl)
set_option maxRecDepth 20000 in
theorem gX8_set_X8_isRegister : GoodIn wsX8_set (va_wsS RX8 118 yX8_isRegister wsX8_isRegister) := goodIn_app (gi_q bs_wsX8_set_in _ [(0, 2), (0, 3), (0, 4)] rfl) ggX8_set_X8_isRegister
set_option maxRecDepth 20000 in
theorem ggX8_set_X8_no : GoodIn wsX8_set wsX8_no := goodIn_k (gi_q bs_wsX8_set_in _ [(0, 9)] rfl) (goodIn_app (gi_q bs_wsX8_set_in _ [(0, 10)] rfl) (gi_wsX8_set_1))
set_option maxRecDepth 20000 in
theorem gX8_set_X8_no : GoodIn wsX8_set (wsV RX8 122 RX8 yX8_no wsX8_no) := goodIn_app (gi_q bs_wsX8_set_in _ [(0, 6), (0, 7), (0, 8), (0, 4)] rfl) ggX8_set_X8_no
set_option maxRecDepth 20000 in
theorem ggX8_set_X8_cut : GoodIn wsX8_set wsX8_cut := goodIn_k (gi_q bs_wsX8_set_in _ [(0, 14)] rfl) (goodIn_app (gi_q bs_wsX8_set_in _ [(0, 15)] rfl) (gi_wsX8_set_1))
set_option maxRecDepth 20000 in
theorem gX8_set_X8_cut : GoodIn wsX8_set (wsV RX8 132 RX8 yX8_cut wsX8_cut) := goodIn_app (gi_q bs_wsX8_set_in _ [(0, 11), (0, 12), (0, 13), (0, 4)] rfl) ggX8_set_X8_cut
def fw_dX8_set_0 : List (Nat × Instr × Nat) := [(0, .iload_n 1, 1), (1, .invokestatic 118, 3), (4, .ifCond .ne 10, 3), (7, .aload_n 0, 1), (8, .bipush (-3), 2), (10, .invokevirtual 122, 3), (13, .ireturn, 1), (14, .aload_n 0, 1), (15, .getfield 7, 3), (18, .iload_n 1, 1), (19, .laload, 1), (20, .lstore 4, 2), (22, .aload_n 0, 1), (23, .getfield 7, 3), (26, .iload_n 1, 1), (27, .aload_n 0, 1), (28, .iload_n 1, 1), (29, .lload_n 2, 1), (30, .invokevirtual 132, 3), (33, .lastore, 1)]
theorem fw_dX8_set_0_c : fchk 0 (cX8_set.data.toList.drop 0) fw_dX8_set_0 = true := by decide +kernel
theorem dX8_set_0 : Eq (decode cX8_set 0) (Except.ok (Instr.iload_n 1, 1)) := fE fw_dX8_set_0_c 0 rfl
theorem dX8_set_1 : Eq (decode cX8_set 1) (Except.ok (Instr.invokestatic 118, 3)) := fE fw_dX8_set_0_c 1 rfl
theorem dX8_set_4 : Eq (decode cX8_set 4) (Except.ok (Instr.ifCond .ne 10, 3)) := fE fw_dX8_set_0_c 2 rfl
theorem dX8_set_7 : Eq (decode cX8_set 7) (Except.ok (Instr.aload_n 0, 1)) := fE fw_dX8_set_0_c 3 rfl
theorem dX8_set_8 : Eq (decode cX8_set 8) (Except.ok (Instr.bipush (-3), 2)) := fE fw_dX8_set_0_c 4 rfl
theorem dX8_set_10 : Eq (decode cX8_set 10) (Except.ok (Instr.invokevirtual 122, 3)) := fE fw_dX8_set_0_c 5 rfl
theorem dX8_set_13 : Eq (decode cX8_set 13) (Except.ok (Instr.ireturn, 1)) := fE fw_dX8_set_0_c 6 rfl
theorem dX8_set_14 : Eq (decode cX8_set 14) (Except.ok (Instr.aload_n 0, 1)) := fE fw_dX8_set_0_c 7 rfl
theorem dX8_set_15 : Eq (decode cX8_set 15) (Except.ok (Instr.getfield 7, 3)) := fE fw_dX8_set_0_c 8 rfl
theorem dX8_set_18 : Eq (decode cX8_set 18) (Except.ok (Instr.iload_n 1, 1)) := fE fw_dX8_set_0_c 9 rfl
theorem dX8_set_19 : Eq (decode cX8_set 19) (Except.ok (Instr.laload, 1)) := fE fw_dX8_set_0_c 10 rfl
theorem dX8_set_20 : Eq (decode cX8_set 20) (Except.ok (Instr.lstore 4, 2)) := fE fw_dX8_set_0_c 11 rfl
theorem dX8_set_22 : Eq (decode cX8_set 22) (Except.ok (Instr.aload_n 0, 1)) := fE fw_dX8_set_0_c 12 rfl
theorem dX8_set_23 : Eq (decode cX8_set 23) (Except.ok (Instr.getfield 7, 3)) := fE fw_dX8_set_0_c 13 rfl
theorem dX8_set_26 : Eq (decode cX8_set 26) (Except.ok (Instr.iload_n 1, 1)) := fE fw_dX8_set_0_c 14 rfl
theorem dX8_set_27 : Eq (decode cX8_set 27) (Except.ok (Instr.aload_n 0, 1)) := fE fw_dX8_set_0_c 15 rfl
theorem dX8_set_28 : Eq (decode cX8_set 28) (Except.ok (Instr.iload_n 1, 1)) := fE fw_dX8_set_0_c 16 rfl
theorem dX8_set_29 : Eq (decode cX8_set 29) (Except.ok (Instr.lload_n 2, 1)) := fE fw_dX8_set_0_c 17 rfl
theorem dX8_set_30 : Eq (decode cX8_set 30) (Except.ok (Instr.invokevirtual 132, 3)) := fE fw_dX8_set_0_c 18 rfl
theorem dX8_set_33 : Eq (decode cX8_set 33) (Except.ok (Instr.lastore, 1)) := fE fw_dX8_set_0_c 19 rfl
def fw_dX8_set_34 : List (Nat × Instr × Nat) := [(34, .lload 4, 2), (36, .aload_n 0, 1), (37, .getfield 7, 3), (40, .iload_n 1, 1), (41, .laload, 1), (42, .lcmp, 1), (43, .ifCond .eq 7, 3), (46, .iconst 1, 1), (47, .goto 4, 3), (50, .iconst 0, 1), (51, .ireturn, 1)]
theorem fw_dX8_set_34_c : fchk 34 (cX8_set.data.toList.drop 34) fw_dX8_set_34 = true := by decide +kernel
theorem dX8_set_34 : Eq (decode cX8_set 34) (Except.ok (Instr.lload 4, 2)) := fE fw_dX8_set_34_c 0 rfl
theorem dX8_set_36 : Eq (decode cX8_set 36) (Except.ok (Instr.aload_n 0, 1)) := fE fw_dX8_set_34_c 1 rfl
theorem dX8_set_37 : Eq (decode cX8_set 37) (Except.ok (Instr.getfield 7, 3)) := fE fw_dX8_set_34_c 2 rfl
theorem dX8_set_40 : Eq (decode cX8_set 40) (Except.ok (Instr.iload_n 1, 1)) := fE fw_dX8_set_34_c 3 rfl
theorem dX8_set_41 : Eq (decode cX8_set 41) (Except.ok (Instr.laload, 1)) := fE fw_dX8_set_34_c 4 rfl
theorem dX8_set_42 : Eq (decode cX8_set 42) (Except.ok (Instr.lcmp, 1)) := fE fw_dX8_set_34_c 5 rfl
theorem dX8_set_43 : Eq (decode cX8_set 43) (Except.ok (Instr.ifCond .eq 7, 3)) := fE fw_dX8_set_34_c 6 rfl
theorem dX8_set_46 : Eq (decode cX8_set 46) (Except.ok (Instr.iconst 1, 1)) := fE fw_dX8_set_34_c 7 rfl
theorem dX8_set_47 : Eq (decode cX8_set 47) (Except.ok (Instr.goto 4, 3)) := fE fw_dX8_set_34_c 8 rfl
theorem dX8_set_50 : Eq (decode cX8_set 50) (Except.ok (Instr.iconst 0, 1)) := fE fw_dX8_set_34_c 9 rfl
theorem dX8_set_51 : Eq (decode cX8_set 51) (Except.ok (Instr.ireturn, 1)) := fE fw_dX8_set_34_c 10 rfl
set_option maxRecDepth 20000 in
theorem gi_wsX8_register_0 : GoodIn wsX8_register wsX8_register := goodIn_sub (fun _ h => h) (by decide +kernel)
set_option maxRecDepth 20000 in
theorem gi_wsX8_register_1 : GoodIn wsX8_register wsX80 := goodIn_sub (fun w h => List.mem_cons_of_mem _ (List.mem_append_right _ h)) (by decide +kernel)
def bs_wsX8_register : List (List Cond) := [wsX8_register, wsX80]
theorem bs_wsX8_register_in : ∀ b ∈ bs_wsX8_register, GoodIn wsX8_register b := List.forall_mem_cons.mpr ⟨gi_wsX8_register_0, List.forall_mem_cons.mpr ⟨gi_wsX8_register_1, (fun _ h => absurd h List.not_mem_nil)⟩⟩
set_option maxRecDepth 20000 in
theorem ggX8_register_X8_isRegister : GoodIn wsX8_register wsX8_isRegister := goodIn_k (gi_q bs_wsX8_register_in _ [(0, 5)] rfl) (gi_q bs_wsX8_register_in _ [] rfl)
set_option maxRecDepth 20000 in
theorem gX8_register_X8_isRegister : GoodIn wsX8_register (va_wsS RX8 118 yX8_isRegister wsX8_isRegister) := goodIn_app (gi_q bs_wsX8_register_in _ [(0, 2), (0, 3), (0, 4)] rfl) ggX8_register_X8_isRegister
set_option maxRecDepth 20000 in
theorem ggX8_register_X8_no : GoodIn wsX8_register wsX8_no := goodIn_k (gi_q bs_wsX8_register_in _ [(0, 9)] rfl) (goodIn_app (gi_q bs_wsX8_register_in _ [(0, 10)] rfl) (gi_wsX8_register_1))
set_option maxRecDepth 20000 in
theorem gX8_register_X8_no : GoodIn wsX8_register (wsV RX8 122 RX8 yX8_no wsX8_no) := goodIn_app (gi_q bs_wsX8_register_in _ [(0, 6), (0, 7), (0, 8), (0, 4)] rfl) ggX8_register_X8_no
def fw_dX8_register_0 : List (Nat × Instr × Nat) := [(0, .iload_n 1, 1), (1, .invokestatic 118, 3), (4, .ifCond .eq 10, 3), (7, .aload_n 0, 1), (8, .getfield 7, 3), (11, .iload_n 1, 1), (12, .laload, 1), (13, .lreturn, 1), (14, .aload_n 0, 1), (15, .bipush (-3), 2), (17, .invokevirtual 122, 3), (20, .istore_n 2, 1), (21, .lconst 0, 1), (22, .lreturn, 1)]
theorem fw_dX8_register_0_c : fchk 0 (cX8_register.data.toList.drop 0) fw_dX8_register_0 = true := by decide +kernel
theorem dX8_register_0 : Eq (decode cX8_register 0) (Except.ok (Instr.iload_n 1, 1)) := fE fw_dX8_register_0_c 0 rfl
theorem dX8_register_1 : Eq (decode cX8_register 1) (Except.ok (Instr.invokestatic 118, 3)) := fE fw_dX8_register_0_c 1 rfl
theorem dX8_register_4 : Eq (decode cX8_register 4) (Except.ok (Instr.ifCond .eq 10, 3)) := fE fw_dX8_register_0_c 2 rfl
theorem dX8_register_7 : Eq (decode cX8_register 7) (Except.ok (Instr.aload_n 0, 1)) := fE fw_dX8_register_0_c 3 rfl
theorem dX8_register_8 : Eq (decode cX8_register 8) (Except.ok (Instr.getfield 7, 3)) := fE fw_dX8_register_0_c 4 rfl
theorem dX8_register_11 : Eq (decode cX8_register 11) (Except.ok (Instr.iload_n 1, 1)) := fE fw_dX8_register_0_c 5 rfl
theorem dX8_register_12 : Eq (decode cX8_register 12) (Except.ok (Instr.laload, 1)) := fE fw_dX8_register_0_c 6 rfl
theorem dX8_register_13 : Eq (decode cX8_register 13) (Except.ok (Instr.lreturn, 1)) := fE fw_dX8_register_0_c 7 rfl
theorem dX8_register_14 : Eq (decode cX8_register 14) (Except.ok (Instr.aload_n 0, 1)) := fE fw_dX8_register_0_c 8 rfl
theorem dX8_register_15 : Eq (decode cX8_register 15) (Except.ok (Instr.bipush (-3), 2)) := fE fw_dX8_register_0_c 9 rfl
theorem dX8_register_17 : Eq (decode cX8_register 17) (Except.ok (Instr.invokevirtual 122, 3)) := fE fw_dX8_register_0_c 10 rfl
theorem dX8_register_20 : Eq (decode cX8_register 20) (Except.ok (Instr.istore_n 2, 1)) := fE fw_dX8_register_0_c 11 rfl
theorem dX8_register_21 : Eq (decode cX8_register 21) (Except.ok (Instr.lconst 0, 1)) := fE fw_dX8_register_0_c 12 rfl
theorem dX8_register_22 : Eq (decode cX8_register 22) (Except.ok (Instr.lreturn, 1)) := fE fw_dX8_register_0_c 13 rfl
set_option maxRecDepth 20000 in
theorem gi_wsX8_poke_0 : GoodIn wsX8_poke wsX8_poke := goodIn_sub (fun _ h => h) (by decide +kernel)
set_option maxRecDepth 20000 in
theorem gi_wsX8_poke_1 : GoodIn wsX8_poke wsX80 := goodIn_sub (fun w h => List.mem_cons_of_mem _ (List.mem_append_right _ h)) (by decide +kernel)
def bs_wsX8_poke : List (List Cond) := [wsX8_poke, wsX80]
theorem bs_wsX8_poke_in : ∀ b ∈ bs_wsX8_poke, GoodIn wsX8_poke b := List.forall_mem_cons.mpr ⟨gi_wsX8_poke_0, List.forall_mem_cons.mpr ⟨gi_wsX8_poke_1, (fun _ h => absurd h List.not_mem_nil)⟩⟩
set_option maxRecDepth 20000 in
theorem ggX8_poke_X8_isCell : GoodIn wsX8_poke wsX8_isCell := goodIn_k (gi_q bs_wsX8_poke_in _ [(0, 6)] rfl) (gi_q bs_wsX8_poke_in _ [] rfl)
set_option maxRecDepth 20000 in
theorem gX8_poke_X8_isCell : GoodIn wsX8_poke (va_wsS RX8 136 yX8_isCell wsX8_isCell) := goodIn_app (gi_q bs_wsX8_poke_in _ [(0, 3), (0, 4), (0, 5)] rfl) ggX8_poke_X8_isCell
set_option maxRecDepth 20000 in
theorem ggX8_poke_X8_no : GoodIn wsX8_poke wsX8_no := goodIn_k (gi_q bs_wsX8_poke_in _ [(0, 10)] rfl) (goodIn_app (gi_q bs_wsX8_poke_in _ [(0, 11)] rfl) (gi_wsX8_poke_1))
set_option maxRecDepth 20000 in
theorem gX8_poke_X8_no : GoodIn wsX8_poke (wsV RX8 122 RX8 yX8_no wsX8_no) := goodIn_app (gi_q bs_wsX8_poke_in _ [(0, 7), (0, 8), (0, 9), (0, 5)] rfl) ggX8_poke_X8_no
def fw_dX8_poke_0 : List (Nat × Instr × Nat) := [(0, .iload_n 1, 1), (1, .invokestatic 136, 3), (4, .ifCond .ne 10, 3), (7, .aload_n 0, 1), (8, .bipush (-3), 2), (10, .invokevirtual 122, 3), (13, .ireturn, 1), (14, .aload_n 0, 1), (15, .getfield 7, 3), (18, .bipush 10, 2), (20, .iload_n 1, 1), (21, .iadd, 1), (22, .laload, 1), (23, .lstore 4, 2), (25, .aload_n 0, 1), (26, .getfield 7, 3), (29, .bipush 10, 2), (31, .iload_n 1, 1), (32, .iadd, 1), (33, .lload_n 2, 1)]
theorem fw_dX8_poke_0_c : fchk 0 (cX8_poke.data.toList.drop 0) fw_dX8_poke_0 = true := by decide +kernel
theorem dX8_poke_0 : Eq (decode cX8_poke 0) (Except.ok (Instr.iload_n 1, 1)) := fE fw_dX8_poke_0_c 0 rfl
theorem dX8_poke_1 : Eq (decode cX8_poke 1) (Except.ok (Instr.invokestatic 136, 3)) := fE fw_dX8_poke_0_c 1 rfl
theorem dX8_poke_4 : Eq (decode cX8_poke 4) (Except.ok (Instr.ifCond .ne 10, 3)) := fE fw_dX8_poke_0_c 2 rfl
theorem dX8_poke_7 : Eq (decode cX8_poke 7) (Except.ok (Instr.aload_n 0, 1)) := fE fw_dX8_poke_0_c 3 rfl
theorem dX8_poke_8 : Eq (decode cX8_poke 8) (Except.ok (Instr.bipush (-3), 2)) := fE fw_dX8_poke_0_c 4 rfl
theorem dX8_poke_10 : Eq (decode cX8_poke 10) (Except.ok (Instr.invokevirtual 122, 3)) := fE fw_dX8_poke_0_c 5 rfl
theorem dX8_poke_13 : Eq (decode cX8_poke 13) (Except.ok (Instr.ireturn, 1)) := fE fw_dX8_poke_0_c 6 rfl
theorem dX8_poke_14 : Eq (decode cX8_poke 14) (Except.ok (Instr.aload_n 0, 1)) := fE fw_dX8_poke_0_c 7 rfl
theorem dX8_poke_15 : Eq (decode cX8_poke 15) (Except.ok (Instr.getfield 7, 3)) := fE fw_dX8_poke_0_c 8 rfl
theorem dX8_poke_18 : Eq (decode cX8_poke 18) (Except.ok (Instr.bipush 10, 2)) := fE fw_dX8_poke_0_c 9 rfl
theorem dX8_poke_20 : Eq (decode cX8_poke 20) (Except.ok (Instr.iload_n 1, 1)) := fE fw_dX8_poke_0_c 10 rfl
theorem dX8_poke_21 : Eq (decode cX8_poke 21) (Except.ok (Instr.iadd, 1)) := fE fw_dX8_poke_0_c 11 rfl
theorem dX8_poke_22 : Eq (decode cX8_poke 22) (Except.ok (Instr.laload, 1)) := fE fw_dX8_poke_0_c 12 rfl
theorem dX8_poke_23 : Eq (decode cX8_poke 23) (Except.ok (Instr.lstore 4, 2)) := fE fw_dX8_poke_0_c 13 rfl
theorem dX8_poke_25 : Eq (decode cX8_poke 25) (Except.ok (Instr.aload_n 0, 1)) := fE fw_dX8_poke_0_c 14 rfl
theorem dX8_poke_26 : Eq (decode cX8_poke 26) (Except.ok (Instr.getfield 7, 3)) := fE fw_dX8_poke_0_c 15 rfl
theorem dX8_poke_29 : Eq (decode cX8_poke 29) (Except.ok (Instr.bipush 10, 2)) := fE fw_dX8_poke_0_c 16 rfl
theorem dX8_poke_31 : Eq (decode cX8_poke 31) (Except.ok (Instr.iload_n 1, 1)) := fE fw_dX8_poke_0_c 17 rfl
theorem dX8_poke_32 : Eq (decode cX8_poke 32) (Except.ok (Instr.iadd, 1)) := fE fw_dX8_poke_0_c 18 rfl
theorem dX8_poke_33 : Eq (decode cX8_poke 33) (Except.ok (Instr.lload_n 2, 1)) := fE fw_dX8_poke_0_c 19 rfl
def fw_dX8_poke_34 : List (Nat × Instr × Nat) := [(34, .ldc2_w 139, 3), (37, .land, 1), (38, .lastore, 1), (39, .lload 4, 2), (41, .aload_n 0, 1), (42, .getfield 7, 3), (45, .bipush 10, 2), (47, .iload_n 1, 1), (48, .iadd, 1), (49, .laload, 1), (50, .lcmp, 1), (51, .ifCond .eq 7, 3), (54, .iconst 1, 1), (55, .goto 4, 3), (58, .iconst 0, 1), (59, .ireturn, 1)]
theorem fw_dX8_poke_34_c : fchk 34 (cX8_poke.data.toList.drop 34) fw_dX8_poke_34 = true := by decide +kernel
theorem dX8_poke_34 : Eq (decode cX8_poke 34) (Except.ok (Instr.ldc2_w 139, 3)) := fE fw_dX8_poke_34_c 0 rfl
theorem dX8_poke_37 : Eq (decode cX8_poke 37) (Except.ok (Instr.land, 1)) := fE fw_dX8_poke_34_c 1 rfl
theorem dX8_poke_38 : Eq (decode cX8_poke 38) (Except.ok (Instr.lastore, 1)) := fE fw_dX8_poke_34_c 2 rfl
theorem dX8_poke_39 : Eq (decode cX8_poke 39) (Except.ok (Instr.lload 4, 2)) := fE fw_dX8_poke_34_c 3 rfl
theorem dX8_poke_41 : Eq (decode cX8_poke 41) (Except.ok (Instr.aload_n 0, 1)) := fE fw_dX8_poke_34_c 4 rfl
theorem dX8_poke_42 : Eq (decode cX8_poke 42) (Except.ok (Instr.getfield 7, 3)) := fE fw_dX8_poke_34_c 5 rfl
theorem dX8_poke_45 : Eq (decode cX8_poke 45) (Except.ok (Instr.bipush 10, 2)) := fE fw_dX8_poke_34_c 6 rfl
theorem dX8_poke_47 : Eq (decode cX8_poke 47) (Except.ok (Instr.iload_n 1, 1)) := fE fw_dX8_poke_34_c 7 rfl
theorem dX8_poke_48 : Eq (decode cX8_poke 48) (Except.ok (Instr.iadd, 1)) := fE fw_dX8_poke_34_c 8 rfl
theorem dX8_poke_49 : Eq (decode cX8_poke 49) (Except.ok (Instr.laload, 1)) := fE fw_dX8_poke_34_c 9 rfl
theorem dX8_poke_50 : Eq (decode cX8_poke 50) (Except.ok (Instr.lcmp, 1)) := fE fw_dX8_poke_34_c 10 rfl
theorem dX8_poke_51 : Eq (decode cX8_poke 51) (Except.ok (Instr.ifCond .eq 7, 3)) := fE fw_dX8_poke_34_c 11 rfl
theorem dX8_poke_54 : Eq (decode cX8_poke 54) (Except.ok (Instr.iconst 1, 1)) := fE fw_dX8_poke_34_c 12 rfl
theorem dX8_poke_55 : Eq (decode cX8_poke 55) (Except.ok (Instr.goto 4, 3)) := fE fw_dX8_poke_34_c 13 rfl
theorem dX8_poke_58 : Eq (decode cX8_poke 58) (Except.ok (Instr.iconst 0, 1)) := fE fw_dX8_poke_34_c 14 rfl
theorem dX8_poke_59 : Eq (decode cX8_poke 59) (Except.ok (Instr.ireturn, 1)) := fE fw_dX8_poke_34_c 15 rfl
set_option maxRecDepth 20000 in
theorem gi_wsX8_cell_0 : GoodIn wsX8_cell wsX8_cell := goodIn_sub (fun _ h => h) (by decide +kernel)
set_option maxRecDepth 20000 in
theorem gi_wsX8_cell_1 : GoodIn wsX8_cell wsX80 := goodIn_sub (fun w h => List.mem_cons_of_mem _ (List.mem_append_right _ h)) (by decide +kernel)
def bs_wsX8_cell : List (List Cond) := [wsX8_cell, wsX80]
theorem bs_wsX8_cell_in : ∀ b ∈ bs_wsX8_cell, GoodIn wsX8_cell b := List.forall_mem_cons.mpr ⟨gi_wsX8_cell_0, List.forall_mem_cons.mpr ⟨gi_wsX8_cell_1, (fun _ h => absurd h List.not_mem_nil)⟩⟩
set_option maxRecDepth 20000 in
theorem ggX8_cell_X8_isCell : GoodIn wsX8_cell wsX8_isCell := goodIn_k (gi_q bs_wsX8_cell_in _ [(0, 5)] rfl) (gi_q bs_wsX8_cell_in _ [] rfl)
set_option maxRecDepth 20000 in
theorem gX8_cell_X8_isCell : GoodIn wsX8_cell (va_wsS RX8 136 yX8_isCell wsX8_isCell) := goodIn_app (gi_q bs_wsX8_cell_in _ [(0, 2), (0, 3), (0, 4)] rfl) ggX8_cell_X8_isCell
set_option maxRecDepth 20000 in
theorem ggX8_cell_X8_no : GoodIn wsX8_cell wsX8_no := goodIn_k (gi_q bs_wsX8_cell_in _ [(0, 9)] rfl) (goodIn_app (gi_q bs_wsX8_cell_in _ [(0, 10)] rfl) (gi_wsX8_cell_1))
set_option maxRecDepth 20000 in
theorem gX8_cell_X8_no : GoodIn wsX8_cell (wsV RX8 122 RX8 yX8_no wsX8_no) := goodIn_app (gi_q bs_wsX8_cell_in _ [(0, 6), (0, 7), (0, 8), (0, 4)] rfl) ggX8_cell_X8_no
def fw_dX8_cell_0 : List (Nat × Instr × Nat) := [(0, .iload_n 1, 1), (1, .invokestatic 136, 3), (4, .ifCond .eq 13, 3), (7, .aload_n 0, 1), (8, .getfield 7, 3), (11, .bipush 10, 2), (13, .iload_n 1, 1), (14, .iadd, 1), (15, .laload, 1), (16, .lreturn, 1), (17, .aload_n 0, 1), (18, .bipush (-3), 2), (20, .invokevirtual 122, 3), (23, .istore_n 2, 1), (24, .lconst 0, 1), (25, .lreturn, 1)]
theorem fw_dX8_cell_0_c : fchk 0 (cX8_cell.data.toList.drop 0) fw_dX8_cell_0 = true := by decide +kernel
theorem dX8_cell_0 : Eq (decode cX8_cell 0) (Except.ok (Instr.iload_n 1, 1)) := fE fw_dX8_cell_0_c 0 rfl
theorem dX8_cell_1 : Eq (decode cX8_cell 1) (Except.ok (Instr.invokestatic 136, 3)) := fE fw_dX8_cell_0_c 1 rfl
theorem dX8_cell_4 : Eq (decode cX8_cell 4) (Except.ok (Instr.ifCond .eq 13, 3)) := fE fw_dX8_cell_0_c 2 rfl
theorem dX8_cell_7 : Eq (decode cX8_cell 7) (Except.ok (Instr.aload_n 0, 1)) := fE fw_dX8_cell_0_c 3 rfl
theorem dX8_cell_8 : Eq (decode cX8_cell 8) (Except.ok (Instr.getfield 7, 3)) := fE fw_dX8_cell_0_c 4 rfl
theorem dX8_cell_11 : Eq (decode cX8_cell 11) (Except.ok (Instr.bipush 10, 2)) := fE fw_dX8_cell_0_c 5 rfl
theorem dX8_cell_13 : Eq (decode cX8_cell 13) (Except.ok (Instr.iload_n 1, 1)) := fE fw_dX8_cell_0_c 6 rfl
theorem dX8_cell_14 : Eq (decode cX8_cell 14) (Except.ok (Instr.iadd, 1)) := fE fw_dX8_cell_0_c 7 rfl
theorem dX8_cell_15 : Eq (decode cX8_cell 15) (Except.ok (Instr.laload, 1)) := fE fw_dX8_cell_0_c 8 rfl
theorem dX8_cell_16 : Eq (decode cX8_cell 16) (Except.ok (Instr.lreturn, 1)) := fE fw_dX8_cell_0_c 9 rfl
theorem dX8_cell_17 : Eq (decode cX8_cell 17) (Except.ok (Instr.aload_n 0, 1)) := fE fw_dX8_cell_0_c 10 rfl
theorem dX8_cell_18 : Eq (decode cX8_cell 18) (Except.ok (Instr.bipush (-3), 2)) := fE fw_dX8_cell_0_c 11 rfl
theorem dX8_cell_20 : Eq (decode cX8_cell 20) (Except.ok (Instr.invokevirtual 122, 3)) := fE fw_dX8_cell_0_c 12 rfl
theorem dX8_cell_23 : Eq (decode cX8_cell 23) (Except.ok (Instr.istore_n 2, 1)) := fE fw_dX8_cell_0_c 13 rfl
theorem dX8_cell_24 : Eq (decode cX8_cell 24) (Except.ok (Instr.lconst 0, 1)) := fE fw_dX8_cell_0_c 14 rfl
theorem dX8_cell_25 : Eq (decode cX8_cell 25) (Except.ok (Instr.lreturn, 1)) := fE fw_dX8_cell_0_c 15 rfl
set_option maxRecDepth 20000 in
theorem gi_wsX8_flag_0 : GoodIn wsX8_flag wsX8_flag := goodIn_sub (fun _ h => h) (by decide +kernel)
set_option maxRecDepth 20000 in
theorem gi_wsX8_flag_1 : GoodIn wsX8_flag wsX80 := goodIn_sub (fun w h => List.mem_cons_of_mem _ (List.mem_append_right _ h)) (by decide +kernel)
def bs_wsX8_flag : List (List Cond) := [wsX8_flag, wsX80]
theorem bs_wsX8_flag_in : ∀ b ∈ bs_wsX8_flag, GoodIn wsX8_flag b := List.forall_mem_cons.mpr ⟨gi_wsX8_flag_0, List.forall_mem_cons.mpr ⟨gi_wsX8_flag_1, (fun _ h => absurd h List.not_mem_nil)⟩⟩
set_option maxRecDepth 20000 in
theorem ggX8_flag_X8_isIn : GoodIn wsX8_flag wsX8_isIn := goodIn_k (gi_q bs_wsX8_flag_in _ [(0, 5)] rfl) (gi_q bs_wsX8_flag_in _ [] rfl)
set_option maxRecDepth 20000 in
theorem gX8_flag_X8_isIn : GoodIn wsX8_flag (va_wsS RX8 128 yX8_isIn wsX8_isIn) := goodIn_app (gi_q bs_wsX8_flag_in _ [(0, 2), (0, 3), (0, 4)] rfl) ggX8_flag_X8_isIn
set_option maxRecDepth 20000 in
theorem ggX8_flag_X8_no : GoodIn wsX8_flag wsX8_no := goodIn_k (gi_q bs_wsX8_flag_in _ [(0, 9)] rfl) (goodIn_app (gi_q bs_wsX8_flag_in _ [(0, 10)] rfl) (gi_wsX8_flag_1))
set_option maxRecDepth 20000 in
theorem gX8_flag_X8_no : GoodIn wsX8_flag (wsV RX8 122 RX8 yX8_no wsX8_no) := goodIn_app (gi_q bs_wsX8_flag_in _ [(0, 6), (0, 7), (0, 8), (0, 4)] rfl) ggX8_flag_X8_no
def fw_dX8_flag_0 : List (Nat × Instr × Nat) := [(0, .iload_n 1, 1), (1, .i2l, 1), (2, .lconst 0, 1), (3, .lconst 1, 1), (4, .invokestatic 128, 3), (7, .ifCond .ne 10, 3), (10, .aload_n 0, 1), (11, .bipush (-3), 2), (13, .invokevirtual 122, 3), (16, .ireturn, 1), (17, .aload_n 0, 1), (18, .getfield 7, 3), (21, .bipush 8, 2), (23, .iload_n 1, 1), (24, .iadd, 1), (25, .laload, 1), (26, .l2i, 1), (27, .istore_n 3, 1), (28, .aload_n 0, 1), (29, .getfield 7, 3)]
theorem fw_dX8_flag_0_c : fchk 0 (cX8_flag.data.toList.drop 0) fw_dX8_flag_0 = true := by decide +kernel
theorem dX8_flag_0 : Eq (decode cX8_flag 0) (Except.ok (Instr.iload_n 1, 1)) := fE fw_dX8_flag_0_c 0 rfl
theorem dX8_flag_1 : Eq (decode cX8_flag 1) (Except.ok (Instr.i2l, 1)) := fE fw_dX8_flag_0_c 1 rfl
theorem dX8_flag_2 : Eq (decode cX8_flag 2) (Except.ok (Instr.lconst 0, 1)) := fE fw_dX8_flag_0_c 2 rfl
theorem dX8_flag_3 : Eq (decode cX8_flag 3) (Except.ok (Instr.lconst 1, 1)) := fE fw_dX8_flag_0_c 3 rfl
theorem dX8_flag_4 : Eq (decode cX8_flag 4) (Except.ok (Instr.invokestatic 128, 3)) := fE fw_dX8_flag_0_c 4 rfl
theorem dX8_flag_7 : Eq (decode cX8_flag 7) (Except.ok (Instr.ifCond .ne 10, 3)) := fE fw_dX8_flag_0_c 5 rfl
theorem dX8_flag_10 : Eq (decode cX8_flag 10) (Except.ok (Instr.aload_n 0, 1)) := fE fw_dX8_flag_0_c 6 rfl
theorem dX8_flag_11 : Eq (decode cX8_flag 11) (Except.ok (Instr.bipush (-3), 2)) := fE fw_dX8_flag_0_c 7 rfl
theorem dX8_flag_13 : Eq (decode cX8_flag 13) (Except.ok (Instr.invokevirtual 122, 3)) := fE fw_dX8_flag_0_c 8 rfl
theorem dX8_flag_16 : Eq (decode cX8_flag 16) (Except.ok (Instr.ireturn, 1)) := fE fw_dX8_flag_0_c 9 rfl
theorem dX8_flag_17 : Eq (decode cX8_flag 17) (Except.ok (Instr.aload_n 0, 1)) := fE fw_dX8_flag_0_c 10 rfl
theorem dX8_flag_18 : Eq (decode cX8_flag 18) (Except.ok (Instr.getfield 7, 3)) := fE fw_dX8_flag_0_c 11 rfl
theorem dX8_flag_21 : Eq (decode cX8_flag 21) (Except.ok (Instr.bipush 8, 2)) := fE fw_dX8_flag_0_c 12 rfl
theorem dX8_flag_23 : Eq (decode cX8_flag 23) (Except.ok (Instr.iload_n 1, 1)) := fE fw_dX8_flag_0_c 13 rfl
theorem dX8_flag_24 : Eq (decode cX8_flag 24) (Except.ok (Instr.iadd, 1)) := fE fw_dX8_flag_0_c 14 rfl
theorem dX8_flag_25 : Eq (decode cX8_flag 25) (Except.ok (Instr.laload, 1)) := fE fw_dX8_flag_0_c 15 rfl
theorem dX8_flag_26 : Eq (decode cX8_flag 26) (Except.ok (Instr.l2i, 1)) := fE fw_dX8_flag_0_c 16 rfl
theorem dX8_flag_27 : Eq (decode cX8_flag 27) (Except.ok (Instr.istore_n 3, 1)) := fE fw_dX8_flag_0_c 17 rfl
theorem dX8_flag_28 : Eq (decode cX8_flag 28) (Except.ok (Instr.aload_n 0, 1)) := fE fw_dX8_flag_0_c 18 rfl
theorem dX8_flag_29 : Eq (decode cX8_flag 29) (Except.ok (Instr.getfield 7, 3)) := fE fw_dX8_flag_0_c 19 rfl
def fw_dX8_flag_32 : List (Nat × Instr × Nat) := [(32, .bipush 8, 2), (34, .iload_n 1, 1), (35, .iadd, 1), (36, .iload_n 2, 1), (37, .ifCond .eq 7, 3), (40, .lconst 1, 1), (41, .goto 4, 3), (44, .lconst 0, 1), (45, .lastore, 1), (46, .iload_n 3, 1), (47, .ireturn, 1)]
theorem fw_dX8_flag_32_c : fchk 32 (cX8_flag.data.toList.drop 32) fw_dX8_flag_32 = true := by decide +kernel
theorem dX8_flag_32 : Eq (decode cX8_flag 32) (Except.ok (Instr.bipush 8, 2)) := fE fw_dX8_flag_32_c 0 rfl
theorem dX8_flag_34 : Eq (decode cX8_flag 34) (Except.ok (Instr.iload_n 1, 1)) := fE fw_dX8_flag_32_c 1 rfl
theorem dX8_flag_35 : Eq (decode cX8_flag 35) (Except.ok (Instr.iadd, 1)) := fE fw_dX8_flag_32_c 2 rfl
theorem dX8_flag_36 : Eq (decode cX8_flag 36) (Except.ok (Instr.iload_n 2, 1)) := fE fw_dX8_flag_32_c 3 rfl
theorem dX8_flag_37 : Eq (decode cX8_flag 37) (Except.ok (Instr.ifCond .eq 7, 3)) := fE fw_dX8_flag_32_c 4 rfl
theorem dX8_flag_40 : Eq (decode cX8_flag 40) (Except.ok (Instr.lconst 1, 1)) := fE fw_dX8_flag_32_c 5 rfl
theorem dX8_flag_41 : Eq (decode cX8_flag 41) (Except.ok (Instr.goto 4, 3)) := fE fw_dX8_flag_32_c 6 rfl
theorem dX8_flag_44 : Eq (decode cX8_flag 44) (Except.ok (Instr.lconst 0, 1)) := fE fw_dX8_flag_32_c 7 rfl
theorem dX8_flag_45 : Eq (decode cX8_flag 45) (Except.ok (Instr.lastore, 1)) := fE fw_dX8_flag_32_c 8 rfl
theorem dX8_flag_46 : Eq (decode cX8_flag 46) (Except.ok (Instr.iload_n 3, 1)) := fE fw_dX8_flag_32_c 9 rfl
theorem dX8_flag_47 : Eq (decode cX8_flag 47) (Except.ok (Instr.ireturn, 1)) := fE fw_dX8_flag_32_c 10 rfl
def fw_dX8_flags_0 : List (Nat × Instr × Nat) := [(0, .aload_n 0, 1), (1, .getfield 7, 3), (4, .bipush 8, 2), (6, .laload, 1), (7, .ldc2_w 141, 3), (10, .aload_n 0, 1), (11, .getfield 7, 3), (14, .bipush 9, 2), (16, .laload, 1), (17, .lmul, 1), (18, .ladd, 1), (19, .l2i, 1), (20, .ireturn, 1)]
theorem fw_dX8_flags_0_c : fchk 0 (cX8_flags.data.toList.drop 0) fw_dX8_flags_0 = true := by decide +kernel
theorem dX8_flags_0 : Eq (decode cX8_flags 0) (Except.ok (Instr.aload_n 0, 1)) := fE fw_dX8_flags_0_c 0 rfl
theorem dX8_flags_1 : Eq (decode cX8_flags 1) (Except.ok (Instr.getfield 7, 3)) := fE fw_dX8_flags_0_c 1 rfl
theorem dX8_flags_4 : Eq (decode cX8_flags 4) (Except.ok (Instr.bipush 8, 2)) := fE fw_dX8_flags_0_c 2 rfl
theorem dX8_flags_6 : Eq (decode cX8_flags 6) (Except.ok (Instr.laload, 1)) := fE fw_dX8_flags_0_c 3 rfl
theorem dX8_flags_7 : Eq (decode cX8_flags 7) (Except.ok (Instr.ldc2_w 141, 3)) := fE fw_dX8_flags_0_c 4 rfl
theorem dX8_flags_10 : Eq (decode cX8_flags 10) (Except.ok (Instr.aload_n 0, 1)) := fE fw_dX8_flags_0_c 5 rfl
theorem dX8_flags_11 : Eq (decode cX8_flags 11) (Except.ok (Instr.getfield 7, 3)) := fE fw_dX8_flags_0_c 6 rfl
theorem dX8_flags_14 : Eq (decode cX8_flags 14) (Except.ok (Instr.bipush 9, 2)) := fE fw_dX8_flags_0_c 7 rfl
theorem dX8_flags_16 : Eq (decode cX8_flags 16) (Except.ok (Instr.laload, 1)) := fE fw_dX8_flags_0_c 8 rfl
theorem dX8_flags_17 : Eq (decode cX8_flags 17) (Except.ok (Instr.lmul, 1)) := fE fw_dX8_flags_0_c 9 rfl
theorem dX8_flags_18 : Eq (decode cX8_flags 18) (Except.ok (Instr.ladd, 1)) := fE fw_dX8_flags_0_c 10 rfl
theorem dX8_flags_19 : Eq (decode cX8_flags 19) (Except.ok (Instr.l2i, 1)) := fE fw_dX8_flags_0_c 11 rfl
theorem dX8_flags_20 : Eq (decode cX8_flags 20) (Except.ok (Instr.ireturn, 1)) := fE fw_dX8_flags_0_c 12 rfl
def fw_dX8_hasD_0 : List (Nat × Instr × Nat) := [(0, .iload_n 0, 1), (1, .bipush 7, 2), (3, .if_icmp .gt 7, 3), (6, .iconst 1, 1), (7, .goto 4, 3), (10, .iconst 0, 1), (11, .ireturn, 1)]
theorem fw_dX8_hasD_0_c : fchk 0 (cX8_hasD.data.toList.drop 0) fw_dX8_hasD_0 = true := by decide +kernel
theorem dX8_hasD_0 : Eq (decode cX8_hasD 0) (Except.ok (Instr.iload_n 0, 1)) := fE fw_dX8_hasD_0_c 0 rfl
theorem dX8_hasD_1 : Eq (decode cX8_hasD 1) (Except.ok (Instr.bipush 7, 2)) := fE fw_dX8_hasD_0_c 1 rfl
theorem dX8_hasD_3 : Eq (decode cX8_hasD 3) (Except.ok (Instr.if_icmp .gt 7, 3)) := fE fw_dX8_hasD_0_c 2 rfl
theorem dX8_hasD_6 : Eq (decode cX8_hasD 6) (Except.ok (Instr.iconst 1, 1)) := fE fw_dX8_hasD_0_c 3 rfl
theorem dX8_hasD_7 : Eq (decode cX8_hasD 7) (Except.ok (Instr.goto 4, 3)) := fE fw_dX8_hasD_0_c 4 rfl
theorem dX8_hasD_10 : Eq (decode cX8_hasD 10) (Except.ok (Instr.iconst 0, 1)) := fE fw_dX8_hasD_0_c 5 rfl
theorem dX8_hasD_11 : Eq (decode cX8_hasD 11) (Except.ok (Instr.ireturn, 1)) := fE fw_dX8_hasD_0_c 6 rfl
def fw_dX8_hasY_0 : List (Nat × Instr × Nat) := [(0, .iload_n 0, 1), (1, .iconst 2, 1), (2, .if_icmp .lt 13, 3), (5, .iload_n 0, 1), (6, .bipush 7, 2), (8, .if_icmp .eq 7, 3), (11, .iconst 1, 1), (12, .goto 4, 3), (15, .iconst 0, 1), (16, .ireturn, 1)]
theorem fw_dX8_hasY_0_c : fchk 0 (cX8_hasY.data.toList.drop 0) fw_dX8_hasY_0 = true := by decide +kernel
theorem dX8_hasY_0 : Eq (decode cX8_hasY 0) (Except.ok (Instr.iload_n 0, 1)) := fE fw_dX8_hasY_0_c 0 rfl
theorem dX8_hasY_1 : Eq (decode cX8_hasY 1) (Except.ok (Instr.iconst 2, 1)) := fE fw_dX8_hasY_0_c 1 rfl
theorem dX8_hasY_2 : Eq (decode cX8_hasY 2) (Except.ok (Instr.if_icmp .lt 13, 3)) := fE fw_dX8_hasY_0_c 2 rfl
theorem dX8_hasY_5 : Eq (decode cX8_hasY 5) (Except.ok (Instr.iload_n 0, 1)) := fE fw_dX8_hasY_0_c 3 rfl
theorem dX8_hasY_6 : Eq (decode cX8_hasY 6) (Except.ok (Instr.bipush 7, 2)) := fE fw_dX8_hasY_0_c 4 rfl
theorem dX8_hasY_8 : Eq (decode cX8_hasY 8) (Except.ok (Instr.if_icmp .eq 7, 3)) := fE fw_dX8_hasY_0_c 5 rfl
theorem dX8_hasY_11 : Eq (decode cX8_hasY 11) (Except.ok (Instr.iconst 1, 1)) := fE fw_dX8_hasY_0_c 6 rfl
theorem dX8_hasY_12 : Eq (decode cX8_hasY 12) (Except.ok (Instr.goto 4, 3)) := fE fw_dX8_hasY_0_c 7 rfl
theorem dX8_hasY_15 : Eq (decode cX8_hasY 15) (Except.ok (Instr.iconst 0, 1)) := fE fw_dX8_hasY_0_c 8 rfl
theorem dX8_hasY_16 : Eq (decode cX8_hasY 16) (Except.ok (Instr.ireturn, 1)) := fE fw_dX8_hasY_0_c 9 rfl
set_option maxRecDepth 20000 in
theorem gi_wsX8_isActs_0 : GoodIn wsX8_isActs wsX8_isActs := goodIn_sub (fun _ h => h) (by decide +kernel)
def bs_wsX8_isActs : List (List Cond) := [wsX8_isActs]
theorem bs_wsX8_isActs_in : ∀ b ∈ bs_wsX8_isActs, GoodIn wsX8_isActs b := List.forall_mem_cons.mpr ⟨gi_wsX8_isActs_0, (fun _ h => absurd h List.not_mem_nil)⟩
set_option maxRecDepth 20000 in
theorem ggX8_isActs_X8_isIn : GoodIn wsX8_isActs wsX8_isIn := goodIn_k (gi_q bs_wsX8_isActs_in _ [(0, 8)] rfl) (gi_q bs_wsX8_isActs_in _ [] rfl)
set_option maxRecDepth 20000 in
theorem gX8_isActs_X8_isIn : GoodIn wsX8_isActs (va_wsS RX8 128 yX8_isIn wsX8_isIn) := goodIn_app (gi_q bs_wsX8_isActs_in _ [(0, 5), (0, 6), (0, 7)] rfl) ggX8_isActs_X8_isIn
set_option maxRecDepth 20000 in
theorem ggX8_isActs_X8_hasD : GoodIn wsX8_isActs wsX8_hasD := goodIn_k (gi_q bs_wsX8_isActs_in _ [(0, 11)] rfl) (gi_q bs_wsX8_isActs_in _ [] rfl)
set_option maxRecDepth 20000 in
theorem gX8_isActs_X8_hasD : GoodIn wsX8_isActs (va_wsS RX8 145 yX8_hasD wsX8_hasD) := goodIn_app (gi_q bs_wsX8_isActs_in _ [(0, 9), (0, 10), (0, 7)] rfl) ggX8_isActs_X8_hasD
set_option maxRecDepth 20000 in
theorem ggX8_isActs_X8_isRegister : GoodIn wsX8_isActs wsX8_isRegister := goodIn_k (gi_q bs_wsX8_isActs_in _ [(0, 14)] rfl) (gi_q bs_wsX8_isActs_in _ [] rfl)
set_option maxRecDepth 20000 in
theorem gX8_isActs_X8_isRegister : GoodIn wsX8_isActs (va_wsS RX8 118 yX8_isRegister wsX8_isRegister) := goodIn_app (gi_q bs_wsX8_isActs_in _ [(0, 12), (0, 13), (0, 7)] rfl) ggX8_isActs_X8_isRegister
set_option maxRecDepth 20000 in
theorem ggX8_isActs_X8_hasY : GoodIn wsX8_isActs wsX8_hasY := goodIn_k (gi_q bs_wsX8_isActs_in _ [(0, 17)] rfl) (gi_q bs_wsX8_isActs_in _ [] rfl)
set_option maxRecDepth 20000 in
theorem gX8_isActs_X8_hasY : GoodIn wsX8_isActs (va_wsS RX8 150 yX8_hasY wsX8_hasY) := goodIn_app (gi_q bs_wsX8_isActs_in _ [(0, 15), (0, 16), (0, 7)] rfl) ggX8_isActs_X8_hasY
def fw_dX8_isActs_0 : List (Nat × Instr × Nat) := [(0, .iload_n 0, 1), (1, .i2l, 1), (2, .lconst 0, 1), (3, .ldc2_w 143, 3), (6, .invokestatic 128, 3), (9, .ifCond .eq 17, 3), (12, .iload_n 0, 1), (13, .invokestatic 145, 3), (16, .ifCond .eq 12, 3), (19, .iload_n 1, 1), (20, .invokestatic 118, 3), (23, .ifCond .ne 5, 3), (26, .iconst 0, 1), (27, .ireturn, 1), (28, .iload_n 0, 1), (29, .bipush 9, 2), (31, .if_icmp .lt 7, 3), (34, .iconst 1, 1), (35, .goto 4, 3), (38, .iconst 0, 1)]
theorem fw_dX8_isActs_0_c : fchk 0 (cX8_isActs.data.toList.drop 0) fw_dX8_isActs_0 = true := by decide +kernel
theorem dX8_isActs_0 : Eq (decode cX8_isActs 0) (Except.ok (Instr.iload_n 0, 1)) := fE fw_dX8_isActs_0_c 0 rfl
theorem dX8_isActs_1 : Eq (decode cX8_isActs 1) (Except.ok (Instr.i2l, 1)) := fE fw_dX8_isActs_0_c 1 rfl
theorem dX8_isActs_2 : Eq (decode cX8_isActs 2) (Except.ok (Instr.lconst 0, 1)) := fE fw_dX8_isActs_0_c 2 rfl
theorem dX8_isActs_3 : Eq (decode cX8_isActs 3) (Except.ok (Instr.ldc2_w 143, 3)) := fE fw_dX8_isActs_0_c 3 rfl
theorem dX8_isActs_6 : Eq (decode cX8_isActs 6) (Except.ok (Instr.invokestatic 128, 3)) := fE fw_dX8_isActs_0_c 4 rfl
theorem dX8_isActs_9 : Eq (decode cX8_isActs 9) (Except.ok (Instr.ifCond .eq 17, 3)) := fE fw_dX8_isActs_0_c 5 rfl
theorem dX8_isActs_12 : Eq (decode cX8_isActs 12) (Except.ok (Instr.iload_n 0, 1)) := fE fw_dX8_isActs_0_c 6 rfl
theorem dX8_isActs_13 : Eq (decode cX8_isActs 13) (Except.ok (Instr.invokestatic 145, 3)) := fE fw_dX8_isActs_0_c 7 rfl
theorem dX8_isActs_16 : Eq (decode cX8_isActs 16) (Except.ok (Instr.ifCond .eq 12, 3)) := fE fw_dX8_isActs_0_c 8 rfl
theorem dX8_isActs_19 : Eq (decode cX8_isActs 19) (Except.ok (Instr.iload_n 1, 1)) := fE fw_dX8_isActs_0_c 9 rfl
theorem dX8_isActs_20 : Eq (decode cX8_isActs 20) (Except.ok (Instr.invokestatic 118, 3)) := fE fw_dX8_isActs_0_c 10 rfl
theorem dX8_isActs_23 : Eq (decode cX8_isActs 23) (Except.ok (Instr.ifCond .ne 5, 3)) := fE fw_dX8_isActs_0_c 11 rfl
theorem dX8_isActs_26 : Eq (decode cX8_isActs 26) (Except.ok (Instr.iconst 0, 1)) := fE fw_dX8_isActs_0_c 12 rfl
theorem dX8_isActs_27 : Eq (decode cX8_isActs 27) (Except.ok (Instr.ireturn, 1)) := fE fw_dX8_isActs_0_c 13 rfl
theorem dX8_isActs_28 : Eq (decode cX8_isActs 28) (Except.ok (Instr.iload_n 0, 1)) := fE fw_dX8_isActs_0_c 14 rfl
theorem dX8_isActs_29 : Eq (decode cX8_isActs 29) (Except.ok (Instr.bipush 9, 2)) := fE fw_dX8_isActs_0_c 15 rfl
theorem dX8_isActs_31 : Eq (decode cX8_isActs 31) (Except.ok (Instr.if_icmp .lt 7, 3)) := fE fw_dX8_isActs_0_c 16 rfl
theorem dX8_isActs_34 : Eq (decode cX8_isActs 34) (Except.ok (Instr.iconst 1, 1)) := fE fw_dX8_isActs_0_c 17 rfl
theorem dX8_isActs_35 : Eq (decode cX8_isActs 35) (Except.ok (Instr.goto 4, 3)) := fE fw_dX8_isActs_0_c 18 rfl
theorem dX8_isActs_38 : Eq (decode cX8_isActs 38) (Except.ok (Instr.iconst 0, 1)) := fE fw_dX8_isActs_0_c 19 rfl
def fw_dX8_isActs_39 : List (Nat × Instr × Nat) := [(39, .istore 4, 2), (41, .iload_n 0, 1), (42, .ifCond .ne 18, 3), (45, .iload_n 2, 1), (46, .i2l, 1), (47, .lconst 0, 1), (48, .ldc2_w 148, 3), (51, .invokestatic 128, 3), (54, .ifCond .ne 33, 3), (57, .goto 28, 3), (60, .iload 4, 2), (62, .ifCond .eq 16, 3), (65, .iload_n 2, 1), (66, .i2l, 1), (67, .lconst 0, 1), (68, .lconst 1, 1), (69, .invokestatic 128, 3), (72, .ifCond .ne 15, 3), (75, .goto 10, 3), (78, .iload_n 2, 1)]
theorem fw_dX8_isActs_39_c : fchk 39 (cX8_isActs.data.toList.drop 39) fw_dX8_isActs_39 = true := by decide +kernel
theorem dX8_isActs_39 : Eq (decode cX8_isActs 39) (Except.ok (Instr.istore 4, 2)) := fE fw_dX8_isActs_39_c 0 rfl
theorem dX8_isActs_41 : Eq (decode cX8_isActs 41) (Except.ok (Instr.iload_n 0, 1)) := fE fw_dX8_isActs_39_c 1 rfl
theorem dX8_isActs_42 : Eq (decode cX8_isActs 42) (Except.ok (Instr.ifCond .ne 18, 3)) := fE fw_dX8_isActs_39_c 2 rfl
theorem dX8_isActs_45 : Eq (decode cX8_isActs 45) (Except.ok (Instr.iload_n 2, 1)) := fE fw_dX8_isActs_39_c 3 rfl
theorem dX8_isActs_46 : Eq (decode cX8_isActs 46) (Except.ok (Instr.i2l, 1)) := fE fw_dX8_isActs_39_c 4 rfl
theorem dX8_isActs_47 : Eq (decode cX8_isActs 47) (Except.ok (Instr.lconst 0, 1)) := fE fw_dX8_isActs_39_c 5 rfl
theorem dX8_isActs_48 : Eq (decode cX8_isActs 48) (Except.ok (Instr.ldc2_w 148, 3)) := fE fw_dX8_isActs_39_c 6 rfl
theorem dX8_isActs_51 : Eq (decode cX8_isActs 51) (Except.ok (Instr.invokestatic 128, 3)) := fE fw_dX8_isActs_39_c 7 rfl
theorem dX8_isActs_54 : Eq (decode cX8_isActs 54) (Except.ok (Instr.ifCond .ne 33, 3)) := fE fw_dX8_isActs_39_c 8 rfl
theorem dX8_isActs_57 : Eq (decode cX8_isActs 57) (Except.ok (Instr.goto 28, 3)) := fE fw_dX8_isActs_39_c 9 rfl
theorem dX8_isActs_60 : Eq (decode cX8_isActs 60) (Except.ok (Instr.iload 4, 2)) := fE fw_dX8_isActs_39_c 10 rfl
theorem dX8_isActs_62 : Eq (decode cX8_isActs 62) (Except.ok (Instr.ifCond .eq 16, 3)) := fE fw_dX8_isActs_39_c 11 rfl
theorem dX8_isActs_65 : Eq (decode cX8_isActs 65) (Except.ok (Instr.iload_n 2, 1)) := fE fw_dX8_isActs_39_c 12 rfl
theorem dX8_isActs_66 : Eq (decode cX8_isActs 66) (Except.ok (Instr.i2l, 1)) := fE fw_dX8_isActs_39_c 13 rfl
theorem dX8_isActs_67 : Eq (decode cX8_isActs 67) (Except.ok (Instr.lconst 0, 1)) := fE fw_dX8_isActs_39_c 14 rfl
theorem dX8_isActs_68 : Eq (decode cX8_isActs 68) (Except.ok (Instr.lconst 1, 1)) := fE fw_dX8_isActs_39_c 15 rfl
theorem dX8_isActs_69 : Eq (decode cX8_isActs 69) (Except.ok (Instr.invokestatic 128, 3)) := fE fw_dX8_isActs_39_c 16 rfl
theorem dX8_isActs_72 : Eq (decode cX8_isActs 72) (Except.ok (Instr.ifCond .ne 15, 3)) := fE fw_dX8_isActs_39_c 17 rfl
theorem dX8_isActs_75 : Eq (decode cX8_isActs 75) (Except.ok (Instr.goto 10, 3)) := fE fw_dX8_isActs_39_c 18 rfl
theorem dX8_isActs_78 : Eq (decode cX8_isActs 78) (Except.ok (Instr.iload_n 2, 1)) := fE fw_dX8_isActs_39_c 19 rfl
def fw_dX8_isActs_79 : List (Nat × Instr × Nat) := [(79, .invokestatic 118, 3), (82, .ifCond .ne 5, 3), (85, .iconst 0, 1), (86, .ireturn, 1), (87, .iload_n 0, 1), (88, .invokestatic 150, 3), (91, .ifCond .ne 5, 3), (94, .iconst 1, 1), (95, .ireturn, 1), (96, .iload_n 0, 1), (97, .bipush 6, 2), (99, .if_icmp .ne 17, 3), (102, .iload_n 3, 1), (103, .i2l, 1), (104, .ldc2_w 153, 3), (107, .ldc2_w 155, 3), (110, .invokestatic 128, 3), (113, .goto 22, 3), (116, .iload 4, 2), (118, .ifCond .eq 13, 3)]
theorem fw_dX8_isActs_79_c : fchk 79 (cX8_isActs.data.toList.drop 79) fw_dX8_isActs_79 = true := by decide +kernel
theorem dX8_isActs_79 : Eq (decode cX8_isActs 79) (Except.ok (Instr.invokestatic 118, 3)) := fE fw_dX8_isActs_79_c 0 rfl
theorem dX8_isActs_82 : Eq (decode cX8_isActs 82) (Except.ok (Instr.ifCond .ne 5, 3)) := fE fw_dX8_isActs_79_c 1 rfl
theorem dX8_isActs_85 : Eq (decode cX8_isActs 85) (Except.ok (Instr.iconst 0, 1)) := fE fw_dX8_isActs_79_c 2 rfl
theorem dX8_isActs_86 : Eq (decode cX8_isActs 86) (Except.ok (Instr.ireturn, 1)) := fE fw_dX8_isActs_79_c 3 rfl
theorem dX8_isActs_87 : Eq (decode cX8_isActs 87) (Except.ok (Instr.iload_n 0, 1)) := fE fw_dX8_isActs_79_c 4 rfl
theorem dX8_isActs_88 : Eq (decode cX8_isActs 88) (Except.ok (Instr.invokestatic 150, 3)) := fE fw_dX8_isActs_79_c 5 rfl
theorem dX8_isActs_91 : Eq (decode cX8_isActs 91) (Except.ok (Instr.ifCond .ne 5, 3)) := fE fw_dX8_isActs_79_c 6 rfl
theorem dX8_isActs_94 : Eq (decode cX8_isActs 94) (Except.ok (Instr.iconst 1, 1)) := fE fw_dX8_isActs_79_c 7 rfl
theorem dX8_isActs_95 : Eq (decode cX8_isActs 95) (Except.ok (Instr.ireturn, 1)) := fE fw_dX8_isActs_79_c 8 rfl
theorem dX8_isActs_96 : Eq (decode cX8_isActs 96) (Except.ok (Instr.iload_n 0, 1)) := fE fw_dX8_isActs_79_c 9 rfl
theorem dX8_isActs_97 : Eq (decode cX8_isActs 97) (Except.ok (Instr.bipush 6, 2)) := fE fw_dX8_isActs_79_c 10 rfl
theorem dX8_isActs_99 : Eq (decode cX8_isActs 99) (Except.ok (Instr.if_icmp .ne 17, 3)) := fE fw_dX8_isActs_79_c 11 rfl
theorem dX8_isActs_102 : Eq (decode cX8_isActs 102) (Except.ok (Instr.iload_n 3, 1)) := fE fw_dX8_isActs_79_c 12 rfl
theorem dX8_isActs_103 : Eq (decode cX8_isActs 103) (Except.ok (Instr.i2l, 1)) := fE fw_dX8_isActs_79_c 13 rfl
theorem dX8_isActs_104 : Eq (decode cX8_isActs 104) (Except.ok (Instr.ldc2_w 153, 3)) := fE fw_dX8_isActs_79_c 14 rfl
theorem dX8_isActs_107 : Eq (decode cX8_isActs 107) (Except.ok (Instr.ldc2_w 155, 3)) := fE fw_dX8_isActs_79_c 15 rfl
theorem dX8_isActs_110 : Eq (decode cX8_isActs 110) (Except.ok (Instr.invokestatic 128, 3)) := fE fw_dX8_isActs_79_c 16 rfl
theorem dX8_isActs_113 : Eq (decode cX8_isActs 113) (Except.ok (Instr.goto 22, 3)) := fE fw_dX8_isActs_79_c 17 rfl
theorem dX8_isActs_116 : Eq (decode cX8_isActs 116) (Except.ok (Instr.iload 4, 2)) := fE fw_dX8_isActs_79_c 18 rfl
theorem dX8_isActs_118 : Eq (decode cX8_isActs 118) (Except.ok (Instr.ifCond .eq 13, 3)) := fE fw_dX8_isActs_79_c 19 rfl
def fw_dX8_isActs_121 : List (Nat × Instr × Nat) := [(121, .iload_n 3, 1), (122, .i2l, 1), (123, .lconst 0, 1), (124, .lconst 1, 1), (125, .invokestatic 128, 3), (128, .goto 7, 3), (131, .iload_n 3, 1), (132, .invokestatic 118, 3), (135, .ireturn, 1)]
theorem fw_dX8_isActs_121_c : fchk 121 (cX8_isActs.data.toList.drop 121) fw_dX8_isActs_121 = true := by decide +kernel
theorem dX8_isActs_121 : Eq (decode cX8_isActs 121) (Except.ok (Instr.iload_n 3, 1)) := fE fw_dX8_isActs_121_c 0 rfl
theorem dX8_isActs_122 : Eq (decode cX8_isActs 122) (Except.ok (Instr.i2l, 1)) := fE fw_dX8_isActs_121_c 1 rfl
theorem dX8_isActs_123 : Eq (decode cX8_isActs 123) (Except.ok (Instr.lconst 0, 1)) := fE fw_dX8_isActs_121_c 2 rfl
theorem dX8_isActs_124 : Eq (decode cX8_isActs 124) (Except.ok (Instr.lconst 1, 1)) := fE fw_dX8_isActs_121_c 3 rfl
theorem dX8_isActs_125 : Eq (decode cX8_isActs 125) (Except.ok (Instr.invokestatic 128, 3)) := fE fw_dX8_isActs_121_c 4 rfl
theorem dX8_isActs_128 : Eq (decode cX8_isActs 128) (Except.ok (Instr.goto 7, 3)) := fE fw_dX8_isActs_121_c 5 rfl
theorem dX8_isActs_131 : Eq (decode cX8_isActs 131) (Except.ok (Instr.iload_n 3, 1)) := fE fw_dX8_isActs_121_c 6 rfl
theorem dX8_isActs_132 : Eq (decode cX8_isActs 132) (Except.ok (Instr.invokestatic 118, 3)) := fE fw_dX8_isActs_121_c 7 rfl
theorem dX8_isActs_135 : Eq (decode cX8_isActs 135) (Except.ok (Instr.ireturn, 1)) := fE fw_dX8_isActs_121_c 8 rfl
set_option maxRecDepth 20000 in
theorem gi_wsX8_act_0 : GoodIn wsX8_act wsX8_act_r1 := goodIn_sub (fun w h => List.mem_cons_of_mem _ (List.mem_append_left _ (List.mem_append_left _ h))) (by decide +kernel)
set_option maxRecDepth 20000 in
theorem gi_wsX8_act_1 : GoodIn wsX8_act wsX8_act_r2 := goodIn_sub (fun w h => List.mem_cons_of_mem _ (List.mem_append_left _ (List.mem_append_right _ h))) (by decide +kernel)
set_option maxRecDepth 20000 in
theorem gi_wsX8_act_2 : GoodIn wsX8_act wsX80 := goodIn_sub (fun w h => List.mem_cons_of_mem _ (List.mem_append_right _ h)) (by decide +kernel)
def bs_wsX8_act : List (List Cond) := [wsX8_act_r1, wsX8_act_r2, wsX80]
theorem bs_wsX8_act_in : ∀ b ∈ bs_wsX8_act, GoodIn wsX8_act b := List.forall_mem_cons.mpr ⟨gi_wsX8_act_0, List.forall_mem_cons.mpr ⟨gi_wsX8_act_1, List.forall_mem_cons.mpr ⟨gi_wsX8_act_2, (fun _ h => absurd h List.not_mem_nil)⟩⟩⟩
set_option maxRecDepth 20000 in
theorem ggX8_act_X8_isInstruction : GoodIn wsX8_act wsX8_isInstruction := goodIn_k (gi_q bs_wsX8_act_in _ [(0, 10)] rfl) (gi_q bs_wsX8_act_in _ [] rfl)
set_option maxRecDepth 20000 in
theorem gX8_act_X8_isInstruction : GoodIn wsX8_act (va_wsS RX8 157 yX8_isInstruction wsX8_isInstruction) := goodIn_app (gi_q bs_wsX8_act_in _ [(0, 7), (0, 8), (0, 9)] rfl) ggX8_act_X8_isInstruction
set_option maxRecDepth 20000 in
theorem ggX8_act_X8_no : GoodIn wsX8_act wsX8_no := goodIn_k (gi_q bs_wsX8_act_in _ [(0, 14)] rfl) (goodIn_app (gi_q bs_wsX8_act_in _ [(0, 15)] rfl) (gi_wsX8_act_2))
set_option maxRecDepth 20000 in
theorem gX8_act_X8_no : GoodIn wsX8_act (wsV RX8 122 RX8 yX8_no wsX8_no) := goodIn_app (gi_q bs_wsX8_act_in _ [(0, 11), (0, 12), (0, 13), (0, 9)] rfl) ggX8_act_X8_no
set_option maxRecDepth 20000 in
theorem ggX8_act_X8_isActs : GoodIn wsX8_act wsX8_isActs := goodIn_k (gi_q bs_wsX8_act_in _ [(0, 18)] rfl) (gi_q bs_wsX8_act_in _ [(0, 19), (0, 20), (0, 21), (0, 22), (0, 23), (1, 0), (0, 9), (1, 1), (1, 2), (1, 3), (1, 4), (1, 5), (1, 6), (1, 7), (1, 8), (1, 9), (1, 10)] rfl)
set_option maxRecDepth 20000 in
theorem gX8_act_X8_isActs : GoodIn wsX8_act (va_wsS RX8 160 yX8_isActs wsX8_isActs) := goodIn_app (gi_q bs_wsX8_act_in _ [(0, 16), (0, 17), (0, 9)] rfl) ggX8_act_X8_isActs
set_option maxRecDepth 20000 in
theorem ggX8_act_X8_hasD : GoodIn wsX8_act wsX8_hasD := goodIn_k (gi_q bs_wsX8_act_in _ [(1, 4)] rfl) (gi_q bs_wsX8_act_in _ [] rfl)
set_option maxRecDepth 20000 in
theorem gX8_act_X8_hasD : GoodIn wsX8_act (va_wsS RX8 145 yX8_hasD wsX8_hasD) := goodIn_app (gi_q bs_wsX8_act_in _ [(1, 2), (1, 3), (0, 9)] rfl) ggX8_act_X8_hasD
set_option maxRecDepth 20000 in
theorem ggX8_act_X8_hasY : GoodIn wsX8_act wsX8_hasY := goodIn_k (gi_q bs_wsX8_act_in _ [(1, 10)] rfl) (gi_q bs_wsX8_act_in _ [] rfl)
set_option maxRecDepth 20000 in
theorem gX8_act_X8_hasY : GoodIn wsX8_act (va_wsS RX8 150 yX8_hasY wsX8_hasY) := goodIn_app (gi_q bs_wsX8_act_in _ [(1, 8), (1, 9), (0, 9)] rfl) ggX8_act_X8_hasY
def fw_dX8_act_0 : List (Nat × Instr × Nat) := [(0, .iload_n 1, 1), (1, .invokestatic 157, 3), (4, .ifCond .ne 10, 3), (7, .aload_n 0, 1), (8, .bipush (-3), 2), (10, .invokevirtual 122, 3), (13, .ireturn, 1), (14, .iload_n 2, 1), (15, .iload_n 3, 1), (16, .iload 4, 2), (18, .iload 5, 2), (20, .invokestatic 160, 3), (23, .ifCond .ne 10, 3), (26, .aload_n 0, 1), (27, .bipush (-6), 2), (29, .invokevirtual 122, 3), (32, .ireturn, 1), (33, .aload_n 0, 1), (34, .getfield 41, 3), (37, .iload_n 1, 1)]
theorem fw_dX8_act_0_c : fchk 0 (cX8_act.data.toList.drop 0) fw_dX8_act_0 = true := by decide +kernel
theorem dX8_act_0 : Eq (decode cX8_act 0) (Except.ok (Instr.iload_n 1, 1)) := fE fw_dX8_act_0_c 0 rfl
theorem dX8_act_1 : Eq (decode cX8_act 1) (Except.ok (Instr.invokestatic 157, 3)) := fE fw_dX8_act_0_c 1 rfl
theorem dX8_act_4 : Eq (decode cX8_act 4) (Except.ok (Instr.ifCond .ne 10, 3)) := fE fw_dX8_act_0_c 2 rfl
theorem dX8_act_7 : Eq (decode cX8_act 7) (Except.ok (Instr.aload_n 0, 1)) := fE fw_dX8_act_0_c 3 rfl
theorem dX8_act_8 : Eq (decode cX8_act 8) (Except.ok (Instr.bipush (-3), 2)) := fE fw_dX8_act_0_c 4 rfl
theorem dX8_act_10 : Eq (decode cX8_act 10) (Except.ok (Instr.invokevirtual 122, 3)) := fE fw_dX8_act_0_c 5 rfl
theorem dX8_act_13 : Eq (decode cX8_act 13) (Except.ok (Instr.ireturn, 1)) := fE fw_dX8_act_0_c 6 rfl
theorem dX8_act_14 : Eq (decode cX8_act 14) (Except.ok (Instr.iload_n 2, 1)) := fE fw_dX8_act_0_c 7 rfl
theorem dX8_act_15 : Eq (decode cX8_act 15) (Except.ok (Instr.iload_n 3, 1)) := fE fw_dX8_act_0_c 8 rfl
theorem dX8_act_16 : Eq (decode cX8_act 16) (Except.ok (Instr.iload 4, 2)) := fE fw_dX8_act_0_c 9 rfl
theorem dX8_act_18 : Eq (decode cX8_act 18) (Except.ok (Instr.iload 5, 2)) := fE fw_dX8_act_0_c 10 rfl
theorem dX8_act_20 : Eq (decode cX8_act 20) (Except.ok (Instr.invokestatic 160, 3)) := fE fw_dX8_act_0_c 11 rfl
theorem dX8_act_23 : Eq (decode cX8_act 23) (Except.ok (Instr.ifCond .ne 10, 3)) := fE fw_dX8_act_0_c 12 rfl
theorem dX8_act_26 : Eq (decode cX8_act 26) (Except.ok (Instr.aload_n 0, 1)) := fE fw_dX8_act_0_c 13 rfl
theorem dX8_act_27 : Eq (decode cX8_act 27) (Except.ok (Instr.bipush (-6), 2)) := fE fw_dX8_act_0_c 14 rfl
theorem dX8_act_29 : Eq (decode cX8_act 29) (Except.ok (Instr.invokevirtual 122, 3)) := fE fw_dX8_act_0_c 15 rfl
theorem dX8_act_32 : Eq (decode cX8_act 32) (Except.ok (Instr.ireturn, 1)) := fE fw_dX8_act_0_c 16 rfl
theorem dX8_act_33 : Eq (decode cX8_act 33) (Except.ok (Instr.aload_n 0, 1)) := fE fw_dX8_act_0_c 17 rfl
theorem dX8_act_34 : Eq (decode cX8_act 34) (Except.ok (Instr.getfield 41, 3)) := fE fw_dX8_act_0_c 18 rfl
theorem dX8_act_37 : Eq (decode cX8_act 37) (Except.ok (Instr.iload_n 1, 1)) := fE fw_dX8_act_0_c 19 rfl
def fw_dX8_act_38 : List (Nat × Instr × Nat) := [(38, .iaload, 1), (39, .bipush 10, 2), (41, .if_icmp .ne 10, 3), (44, .aload_n 0, 1), (45, .bipush (-7), 2), (47, .invokevirtual 122, 3), (50, .ireturn, 1), (51, .bipush 10, 2), (53, .iload_n 1, 1), (54, .imul, 1), (55, .aload_n 0, 1), (56, .getfield 41, 3), (59, .iload_n 1, 1), (60, .iaload, 1), (61, .iadd, 1), (62, .istore 6, 2), (64, .aload_n 0, 1), (65, .getfield 29, 3), (68, .iload 6, 2), (70, .iload_n 2, 1)]
theorem fw_dX8_act_38_c : fchk 38 (cX8_act.data.toList.drop 38) fw_dX8_act_38 = true := by decide +kernel
theorem dX8_act_38 : Eq (decode cX8_act 38) (Except.ok (Instr.iaload, 1)) := fE fw_dX8_act_38_c 0 rfl
theorem dX8_act_39 : Eq (decode cX8_act 39) (Except.ok (Instr.bipush 10, 2)) := fE fw_dX8_act_38_c 1 rfl
theorem dX8_act_41 : Eq (decode cX8_act 41) (Except.ok (Instr.if_icmp .ne 10, 3)) := fE fw_dX8_act_38_c 2 rfl
theorem dX8_act_44 : Eq (decode cX8_act 44) (Except.ok (Instr.aload_n 0, 1)) := fE fw_dX8_act_38_c 3 rfl
theorem dX8_act_45 : Eq (decode cX8_act 45) (Except.ok (Instr.bipush (-7), 2)) := fE fw_dX8_act_38_c 4 rfl
theorem dX8_act_47 : Eq (decode cX8_act 47) (Except.ok (Instr.invokevirtual 122, 3)) := fE fw_dX8_act_38_c 5 rfl
theorem dX8_act_50 : Eq (decode cX8_act 50) (Except.ok (Instr.ireturn, 1)) := fE fw_dX8_act_38_c 6 rfl
theorem dX8_act_51 : Eq (decode cX8_act 51) (Except.ok (Instr.bipush 10, 2)) := fE fw_dX8_act_38_c 7 rfl
theorem dX8_act_53 : Eq (decode cX8_act 53) (Except.ok (Instr.iload_n 1, 1)) := fE fw_dX8_act_38_c 8 rfl
theorem dX8_act_54 : Eq (decode cX8_act 54) (Except.ok (Instr.imul, 1)) := fE fw_dX8_act_38_c 9 rfl
theorem dX8_act_55 : Eq (decode cX8_act 55) (Except.ok (Instr.aload_n 0, 1)) := fE fw_dX8_act_38_c 10 rfl
theorem dX8_act_56 : Eq (decode cX8_act 56) (Except.ok (Instr.getfield 41, 3)) := fE fw_dX8_act_38_c 11 rfl
theorem dX8_act_59 : Eq (decode cX8_act 59) (Except.ok (Instr.iload_n 1, 1)) := fE fw_dX8_act_38_c 12 rfl
theorem dX8_act_60 : Eq (decode cX8_act 60) (Except.ok (Instr.iaload, 1)) := fE fw_dX8_act_38_c 13 rfl
theorem dX8_act_61 : Eq (decode cX8_act 61) (Except.ok (Instr.iadd, 1)) := fE fw_dX8_act_38_c 14 rfl
theorem dX8_act_62 : Eq (decode cX8_act 62) (Except.ok (Instr.istore 6, 2)) := fE fw_dX8_act_38_c 15 rfl
theorem dX8_act_64 : Eq (decode cX8_act 64) (Except.ok (Instr.aload_n 0, 1)) := fE fw_dX8_act_38_c 16 rfl
theorem dX8_act_65 : Eq (decode cX8_act 65) (Except.ok (Instr.getfield 29, 3)) := fE fw_dX8_act_38_c 17 rfl
theorem dX8_act_68 : Eq (decode cX8_act 68) (Except.ok (Instr.iload 6, 2)) := fE fw_dX8_act_38_c 18 rfl
theorem dX8_act_70 : Eq (decode cX8_act 70) (Except.ok (Instr.iload_n 2, 1)) := fE fw_dX8_act_38_c 19 rfl
def fw_dX8_act_71 : List (Nat × Instr × Nat) := [(71, .iastore, 1), (72, .aload_n 0, 1), (73, .getfield 32, 3), (76, .iload 6, 2), (78, .iload_n 2, 1), (79, .invokestatic 145, 3), (82, .ifCond .eq 7, 3), (85, .iload_n 3, 1), (86, .goto 4, 3), (89, .iconst (-1), 1), (90, .iastore, 1), (91, .aload_n 0, 1), (92, .getfield 35, 3), (95, .iload 6, 2), (97, .iload 4, 2), (99, .iastore, 1), (100, .aload_n 0, 1), (101, .getfield 38, 3), (104, .iload 6, 2), (106, .iload_n 2, 1)]
theorem fw_dX8_act_71_c : fchk 71 (cX8_act.data.toList.drop 71) fw_dX8_act_71 = true := by decide +kernel
theorem dX8_act_71 : Eq (decode cX8_act 71) (Except.ok (Instr.iastore, 1)) := fE fw_dX8_act_71_c 0 rfl
theorem dX8_act_72 : Eq (decode cX8_act 72) (Except.ok (Instr.aload_n 0, 1)) := fE fw_dX8_act_71_c 1 rfl
theorem dX8_act_73 : Eq (decode cX8_act 73) (Except.ok (Instr.getfield 32, 3)) := fE fw_dX8_act_71_c 2 rfl
theorem dX8_act_76 : Eq (decode cX8_act 76) (Except.ok (Instr.iload 6, 2)) := fE fw_dX8_act_71_c 3 rfl
theorem dX8_act_78 : Eq (decode cX8_act 78) (Except.ok (Instr.iload_n 2, 1)) := fE fw_dX8_act_71_c 4 rfl
theorem dX8_act_79 : Eq (decode cX8_act 79) (Except.ok (Instr.invokestatic 145, 3)) := fE fw_dX8_act_71_c 5 rfl
theorem dX8_act_82 : Eq (decode cX8_act 82) (Except.ok (Instr.ifCond .eq 7, 3)) := fE fw_dX8_act_71_c 6 rfl
theorem dX8_act_85 : Eq (decode cX8_act 85) (Except.ok (Instr.iload_n 3, 1)) := fE fw_dX8_act_71_c 7 rfl
theorem dX8_act_86 : Eq (decode cX8_act 86) (Except.ok (Instr.goto 4, 3)) := fE fw_dX8_act_71_c 8 rfl
theorem dX8_act_89 : Eq (decode cX8_act 89) (Except.ok (Instr.iconst (-1), 1)) := fE fw_dX8_act_71_c 9 rfl
theorem dX8_act_90 : Eq (decode cX8_act 90) (Except.ok (Instr.iastore, 1)) := fE fw_dX8_act_71_c 10 rfl
theorem dX8_act_91 : Eq (decode cX8_act 91) (Except.ok (Instr.aload_n 0, 1)) := fE fw_dX8_act_71_c 11 rfl
theorem dX8_act_92 : Eq (decode cX8_act 92) (Except.ok (Instr.getfield 35, 3)) := fE fw_dX8_act_71_c 12 rfl
theorem dX8_act_95 : Eq (decode cX8_act 95) (Except.ok (Instr.iload 6, 2)) := fE fw_dX8_act_71_c 13 rfl
theorem dX8_act_97 : Eq (decode cX8_act 97) (Except.ok (Instr.iload 4, 2)) := fE fw_dX8_act_71_c 14 rfl
theorem dX8_act_99 : Eq (decode cX8_act 99) (Except.ok (Instr.iastore, 1)) := fE fw_dX8_act_71_c 15 rfl
theorem dX8_act_100 : Eq (decode cX8_act 100) (Except.ok (Instr.aload_n 0, 1)) := fE fw_dX8_act_71_c 16 rfl
theorem dX8_act_101 : Eq (decode cX8_act 101) (Except.ok (Instr.getfield 38, 3)) := fE fw_dX8_act_71_c 17 rfl
theorem dX8_act_104 : Eq (decode cX8_act 104) (Except.ok (Instr.iload 6, 2)) := fE fw_dX8_act_71_c 18 rfl
theorem dX8_act_106 : Eq (decode cX8_act 106) (Except.ok (Instr.iload_n 2, 1)) := fE fw_dX8_act_71_c 19 rfl
def fw_dX8_act_107 : List (Nat × Instr × Nat) := [(107, .invokestatic 150, 3), (110, .ifCond .eq 8, 3), (113, .iload 5, 2), (115, .goto 4, 3), (118, .iconst (-1), 1), (119, .iastore, 1), (120, .aload_n 0, 1), (121, .getfield 41, 3), (124, .iload_n 1, 1), (125, .dup2, 1), (126, .iaload, 1), (127, .iconst 1, 1), (128, .iadd, 1), (129, .iastore, 1), (130, .aload_n 0, 1), (131, .getfield 66, 3), (134, .iload_n 1, 1), (135, .iconst 0, 1), (136, .bastore, 1), (137, .aload_n 0, 1)]
theorem fw_dX8_act_107_c : fchk 107 (cX8_act.data.toList.drop 107) fw_dX8_act_107 = true := by decide +kernel
theorem dX8_act_107 : Eq (decode cX8_act 107) (Except.ok (Instr.invokestatic 150, 3)) := fE fw_dX8_act_107_c 0 rfl
theorem dX8_act_110 : Eq (decode cX8_act 110) (Except.ok (Instr.ifCond .eq 8, 3)) := fE fw_dX8_act_107_c 1 rfl
theorem dX8_act_113 : Eq (decode cX8_act 113) (Except.ok (Instr.iload 5, 2)) := fE fw_dX8_act_107_c 2 rfl
theorem dX8_act_115 : Eq (decode cX8_act 115) (Except.ok (Instr.goto 4, 3)) := fE fw_dX8_act_107_c 3 rfl
theorem dX8_act_118 : Eq (decode cX8_act 118) (Except.ok (Instr.iconst (-1), 1)) := fE fw_dX8_act_107_c 4 rfl
theorem dX8_act_119 : Eq (decode cX8_act 119) (Except.ok (Instr.iastore, 1)) := fE fw_dX8_act_107_c 5 rfl
theorem dX8_act_120 : Eq (decode cX8_act 120) (Except.ok (Instr.aload_n 0, 1)) := fE fw_dX8_act_107_c 6 rfl
theorem dX8_act_121 : Eq (decode cX8_act 121) (Except.ok (Instr.getfield 41, 3)) := fE fw_dX8_act_107_c 7 rfl
theorem dX8_act_124 : Eq (decode cX8_act 124) (Except.ok (Instr.iload_n 1, 1)) := fE fw_dX8_act_107_c 8 rfl
theorem dX8_act_125 : Eq (decode cX8_act 125) (Except.ok (Instr.dup2, 1)) := fE fw_dX8_act_107_c 9 rfl
theorem dX8_act_126 : Eq (decode cX8_act 126) (Except.ok (Instr.iaload, 1)) := fE fw_dX8_act_107_c 10 rfl
theorem dX8_act_127 : Eq (decode cX8_act 127) (Except.ok (Instr.iconst 1, 1)) := fE fw_dX8_act_107_c 11 rfl
theorem dX8_act_128 : Eq (decode cX8_act 128) (Except.ok (Instr.iadd, 1)) := fE fw_dX8_act_107_c 12 rfl
theorem dX8_act_129 : Eq (decode cX8_act 129) (Except.ok (Instr.iastore, 1)) := fE fw_dX8_act_107_c 13 rfl
theorem dX8_act_130 : Eq (decode cX8_act 130) (Except.ok (Instr.aload_n 0, 1)) := fE fw_dX8_act_107_c 14 rfl
theorem dX8_act_131 : Eq (decode cX8_act 131) (Except.ok (Instr.getfield 66, 3)) := fE fw_dX8_act_107_c 15 rfl
theorem dX8_act_134 : Eq (decode cX8_act 134) (Except.ok (Instr.iload_n 1, 1)) := fE fw_dX8_act_107_c 16 rfl
theorem dX8_act_135 : Eq (decode cX8_act 135) (Except.ok (Instr.iconst 0, 1)) := fE fw_dX8_act_107_c 17 rfl
theorem dX8_act_136 : Eq (decode cX8_act 136) (Except.ok (Instr.bastore, 1)) := fE fw_dX8_act_107_c 18 rfl
theorem dX8_act_137 : Eq (decode cX8_act 137) (Except.ok (Instr.aload_n 0, 1)) := fE fw_dX8_act_107_c 19 rfl
def fw_dX8_act_138 : List (Nat × Instr × Nat) := [(138, .iconst 0, 1), (139, .putfield 164, 3), (142, .aload_n 0, 1), (143, .getfield 41, 3), (146, .iload_n 1, 1), (147, .iaload, 1), (148, .ireturn, 1)]
theorem fw_dX8_act_138_c : fchk 138 (cX8_act.data.toList.drop 138) fw_dX8_act_138 = true := by decide +kernel
theorem dX8_act_138 : Eq (decode cX8_act 138) (Except.ok (Instr.iconst 0, 1)) := fE fw_dX8_act_138_c 0 rfl
theorem dX8_act_139 : Eq (decode cX8_act 139) (Except.ok (Instr.putfield 164, 3)) := fE fw_dX8_act_138_c 1 rfl
theorem dX8_act_142 : Eq (decode cX8_act 142) (Except.ok (Instr.aload_n 0, 1)) := fE fw_dX8_act_138_c 2 rfl
theorem dX8_act_143 : Eq (decode cX8_act 143) (Except.ok (Instr.getfield 41, 3)) := fE fw_dX8_act_138_c 3 rfl
theorem dX8_act_146 : Eq (decode cX8_act 146) (Except.ok (Instr.iload_n 1, 1)) := fE fw_dX8_act_138_c 4 rfl
theorem dX8_act_147 : Eq (decode cX8_act 147) (Except.ok (Instr.iaload, 1)) := fE fw_dX8_act_138_c 5 rfl
theorem dX8_act_148 : Eq (decode cX8_act 148) (Except.ok (Instr.ireturn, 1)) := fE fw_dX8_act_138_c 6 rfl
set_option maxRecDepth 20000 in
theorem gi_wsX8_clear_0 : GoodIn wsX8_clear wsX8_clear := goodIn_sub (fun _ h => h) (by decide +kernel)
set_option maxRecDepth 20000 in
theorem gi_wsX8_clear_1 : GoodIn wsX8_clear wsX80 := goodIn_sub (fun w h => List.mem_cons_of_mem _ (List.mem_append_right _ h)) (by decide +kernel)
def bs_wsX8_clear : List (List Cond) := [wsX8_clear, wsX80]
theorem bs_wsX8_clear_in : ∀ b ∈ bs_wsX8_clear, GoodIn wsX8_clear b := List.forall_mem_cons.mpr ⟨gi_wsX8_clear_0, List.forall_mem_cons.mpr ⟨gi_wsX8_clear_1, (fun _ h => absurd h List.not_mem_nil)⟩⟩
set_option maxRecDepth 20000 in
theorem ggX8_clear_X8_isInstruction : GoodIn wsX8_clear wsX8_isInstruction := goodIn_k (gi_q bs_wsX8_clear_in _ [(0, 7)] rfl) (gi_q bs_wsX8_clear_in _ [] rfl)
set_option maxRecDepth 20000 in
theorem gX8_clear_X8_isInstruction : GoodIn wsX8_clear (va_wsS RX8 157 yX8_isInstruction wsX8_isInstruction) := goodIn_app (gi_q bs_wsX8_clear_in _ [(0, 4), (0, 5), (0, 6)] rfl) ggX8_clear_X8_isInstruction
set_option maxRecDepth 20000 in
theorem ggX8_clear_X8_no : GoodIn wsX8_clear wsX8_no := goodIn_k (gi_q bs_wsX8_clear_in _ [(0, 11)] rfl) (goodIn_app (gi_q bs_wsX8_clear_in _ [(0, 12)] rfl) (gi_wsX8_clear_1))
set_option maxRecDepth 20000 in
theorem gX8_clear_X8_no : GoodIn wsX8_clear (wsV RX8 122 RX8 yX8_no wsX8_no) := goodIn_app (gi_q bs_wsX8_clear_in _ [(0, 8), (0, 9), (0, 10), (0, 6)] rfl) ggX8_clear_X8_no
def fw_dX8_clear_0 : List (Nat × Instr × Nat) := [(0, .iload_n 1, 1), (1, .invokestatic 157, 3), (4, .ifCond .ne 10, 3), (7, .aload_n 0, 1), (8, .bipush (-3), 2), (10, .invokevirtual 122, 3), (13, .ireturn, 1), (14, .aload_n 0, 1), (15, .getfield 41, 3), (18, .iload_n 1, 1), (19, .iaload, 1), (20, .istore_n 2, 1), (21, .iload_n 2, 1), (22, .ifCond .ne 5, 3), (25, .iconst 0, 1), (26, .ireturn, 1), (27, .aload_n 0, 1), (28, .getfield 41, 3), (31, .iload_n 1, 1), (32, .iconst 0, 1)]
theorem fw_dX8_clear_0_c : fchk 0 (cX8_clear.data.toList.drop 0) fw_dX8_clear_0 = true := by decide +kernel
theorem dX8_clear_0 : Eq (decode cX8_clear 0) (Except.ok (Instr.iload_n 1, 1)) := fE fw_dX8_clear_0_c 0 rfl
theorem dX8_clear_1 : Eq (decode cX8_clear 1) (Except.ok (Instr.invokestatic 157, 3)) := fE fw_dX8_clear_0_c 1 rfl
theorem dX8_clear_4 : Eq (decode cX8_clear 4) (Except.ok (Instr.ifCond .ne 10, 3)) := fE fw_dX8_clear_0_c 2 rfl
theorem dX8_clear_7 : Eq (decode cX8_clear 7) (Except.ok (Instr.aload_n 0, 1)) := fE fw_dX8_clear_0_c 3 rfl
theorem dX8_clear_8 : Eq (decode cX8_clear 8) (Except.ok (Instr.bipush (-3), 2)) := fE fw_dX8_clear_0_c 4 rfl
theorem dX8_clear_10 : Eq (decode cX8_clear 10) (Except.ok (Instr.invokevirtual 122, 3)) := fE fw_dX8_clear_0_c 5 rfl
theorem dX8_clear_13 : Eq (decode cX8_clear 13) (Except.ok (Instr.ireturn, 1)) := fE fw_dX8_clear_0_c 6 rfl
theorem dX8_clear_14 : Eq (decode cX8_clear 14) (Except.ok (Instr.aload_n 0, 1)) := fE fw_dX8_clear_0_c 7 rfl
theorem dX8_clear_15 : Eq (decode cX8_clear 15) (Except.ok (Instr.getfield 41, 3)) := fE fw_dX8_clear_0_c 8 rfl
theorem dX8_clear_18 : Eq (decode cX8_clear 18) (Except.ok (Instr.iload_n 1, 1)) := fE fw_dX8_clear_0_c 9 rfl
theorem dX8_clear_19 : Eq (decode cX8_clear 19) (Except.ok (Instr.iaload, 1)) := fE fw_dX8_clear_0_c 10 rfl
theorem dX8_clear_20 : Eq (decode cX8_clear 20) (Except.ok (Instr.istore_n 2, 1)) := fE fw_dX8_clear_0_c 11 rfl
theorem dX8_clear_21 : Eq (decode cX8_clear 21) (Except.ok (Instr.iload_n 2, 1)) := fE fw_dX8_clear_0_c 12 rfl
theorem dX8_clear_22 : Eq (decode cX8_clear 22) (Except.ok (Instr.ifCond .ne 5, 3)) := fE fw_dX8_clear_0_c 13 rfl
theorem dX8_clear_25 : Eq (decode cX8_clear 25) (Except.ok (Instr.iconst 0, 1)) := fE fw_dX8_clear_0_c 14 rfl
theorem dX8_clear_26 : Eq (decode cX8_clear 26) (Except.ok (Instr.ireturn, 1)) := fE fw_dX8_clear_0_c 15 rfl
theorem dX8_clear_27 : Eq (decode cX8_clear 27) (Except.ok (Instr.aload_n 0, 1)) := fE fw_dX8_clear_0_c 16 rfl
theorem dX8_clear_28 : Eq (decode cX8_clear 28) (Except.ok (Instr.getfield 41, 3)) := fE fw_dX8_clear_0_c 17 rfl
theorem dX8_clear_31 : Eq (decode cX8_clear 31) (Except.ok (Instr.iload_n 1, 1)) := fE fw_dX8_clear_0_c 18 rfl
theorem dX8_clear_32 : Eq (decode cX8_clear 32) (Except.ok (Instr.iconst 0, 1)) := fE fw_dX8_clear_0_c 19 rfl
def fw_dX8_clear_33 : List (Nat × Instr × Nat) := [(33, .iastore, 1), (34, .aload_n 0, 1), (35, .getfield 66, 3), (38, .iload_n 1, 1), (39, .iconst 0, 1), (40, .bastore, 1), (41, .aload_n 0, 1), (42, .iconst 0, 1), (43, .putfield 164, 3), (46, .iload_n 2, 1), (47, .ireturn, 1)]
theorem fw_dX8_clear_33_c : fchk 33 (cX8_clear.data.toList.drop 33) fw_dX8_clear_33 = true := by decide +kernel
theorem dX8_clear_33 : Eq (decode cX8_clear 33) (Except.ok (Instr.iastore, 1)) := fE fw_dX8_clear_33_c 0 rfl
theorem dX8_clear_34 : Eq (decode cX8_clear 34) (Except.ok (Instr.aload_n 0, 1)) := fE fw_dX8_clear_33_c 1 rfl
theorem dX8_clear_35 : Eq (decode cX8_clear 35) (Except.ok (Instr.getfield 66, 3)) := fE fw_dX8_clear_33_c 2 rfl
theorem dX8_clear_38 : Eq (decode cX8_clear 38) (Except.ok (Instr.iload_n 1, 1)) := fE fw_dX8_clear_33_c 3 rfl
theorem dX8_clear_39 : Eq (decode cX8_clear 39) (Except.ok (Instr.iconst 0, 1)) := fE fw_dX8_clear_33_c 4 rfl
theorem dX8_clear_40 : Eq (decode cX8_clear 40) (Except.ok (Instr.bastore, 1)) := fE fw_dX8_clear_33_c 5 rfl
theorem dX8_clear_41 : Eq (decode cX8_clear 41) (Except.ok (Instr.aload_n 0, 1)) := fE fw_dX8_clear_33_c 6 rfl
theorem dX8_clear_42 : Eq (decode cX8_clear 42) (Except.ok (Instr.iconst 0, 1)) := fE fw_dX8_clear_33_c 7 rfl
theorem dX8_clear_43 : Eq (decode cX8_clear 43) (Except.ok (Instr.putfield 164, 3)) := fE fw_dX8_clear_33_c 8 rfl
theorem dX8_clear_46 : Eq (decode cX8_clear 46) (Except.ok (Instr.iload_n 2, 1)) := fE fw_dX8_clear_33_c 9 rfl
theorem dX8_clear_47 : Eq (decode cX8_clear 47) (Except.ok (Instr.ireturn, 1)) := fE fw_dX8_clear_33_c 10 rfl
set_option maxRecDepth 20000 in
theorem gi_wsX8_isAct_0 : GoodIn wsX8_isAct wsX8_isAct := goodIn_sub (fun _ h => h) (by decide +kernel)
set_option maxRecDepth 20000 in
theorem gi_wsX8_isAct_1 : GoodIn wsX8_isAct wsX80 := goodIn_sub (fun w h => List.mem_cons_of_mem _ (List.mem_append_right _ h)) (by decide +kernel)
def bs_wsX8_isAct : List (List Cond) := [wsX8_isAct, wsX80]
theorem bs_wsX8_isAct_in : ∀ b ∈ bs_wsX8_isAct, GoodIn wsX8_isAct b := List.forall_mem_cons.mpr ⟨gi_wsX8_isAct_0, List.forall_mem_cons.mpr ⟨gi_wsX8_isAct_1, (fun _ h => absurd h List.not_mem_nil)⟩⟩
set_option maxRecDepth 20000 in
theorem ggX8_isAct_X8_isInstruction : GoodIn wsX8_isAct wsX8_isInstruction := goodIn_k (gi_q bs_wsX8_isAct_in _ [(0, 5)] rfl) (gi_q bs_wsX8_isAct_in _ [] rfl)
set_option maxRecDepth 20000 in
theorem gX8_isAct_X8_isInstruction : GoodIn wsX8_isAct (va_wsS RX8 157 yX8_isInstruction wsX8_isInstruction) := goodIn_app (gi_q bs_wsX8_isAct_in _ [(0, 2), (0, 3), (0, 4)] rfl) ggX8_isAct_X8_isInstruction
def fw_dX8_isAct_0 : List (Nat × Instr × Nat) := [(0, .iload_n 1, 1), (1, .invokestatic 157, 3), (4, .ifCond .eq 21, 3), (7, .iload_n 2, 1), (8, .ifCond .lt 17, 3), (11, .iload_n 2, 1), (12, .aload_n 0, 1), (13, .getfield 41, 3), (16, .iload_n 1, 1), (17, .iaload, 1), (18, .if_icmp .ge 7, 3), (21, .iconst 1, 1), (22, .goto 4, 3), (25, .iconst 0, 1), (26, .ireturn, 1)]
theorem fw_dX8_isAct_0_c : fchk 0 (cX8_isAct.data.toList.drop 0) fw_dX8_isAct_0 = true := by decide +kernel
theorem dX8_isAct_0 : Eq (decode cX8_isAct 0) (Except.ok (Instr.iload_n 1, 1)) := fE fw_dX8_isAct_0_c 0 rfl
theorem dX8_isAct_1 : Eq (decode cX8_isAct 1) (Except.ok (Instr.invokestatic 157, 3)) := fE fw_dX8_isAct_0_c 1 rfl
theorem dX8_isAct_4 : Eq (decode cX8_isAct 4) (Except.ok (Instr.ifCond .eq 21, 3)) := fE fw_dX8_isAct_0_c 2 rfl
theorem dX8_isAct_7 : Eq (decode cX8_isAct 7) (Except.ok (Instr.iload_n 2, 1)) := fE fw_dX8_isAct_0_c 3 rfl
theorem dX8_isAct_8 : Eq (decode cX8_isAct 8) (Except.ok (Instr.ifCond .lt 17, 3)) := fE fw_dX8_isAct_0_c 4 rfl
theorem dX8_isAct_11 : Eq (decode cX8_isAct 11) (Except.ok (Instr.iload_n 2, 1)) := fE fw_dX8_isAct_0_c 5 rfl
theorem dX8_isAct_12 : Eq (decode cX8_isAct 12) (Except.ok (Instr.aload_n 0, 1)) := fE fw_dX8_isAct_0_c 6 rfl
theorem dX8_isAct_13 : Eq (decode cX8_isAct 13) (Except.ok (Instr.getfield 41, 3)) := fE fw_dX8_isAct_0_c 7 rfl
theorem dX8_isAct_16 : Eq (decode cX8_isAct 16) (Except.ok (Instr.iload_n 1, 1)) := fE fw_dX8_isAct_0_c 8 rfl
theorem dX8_isAct_17 : Eq (decode cX8_isAct 17) (Except.ok (Instr.iaload, 1)) := fE fw_dX8_isAct_0_c 9 rfl
theorem dX8_isAct_18 : Eq (decode cX8_isAct 18) (Except.ok (Instr.if_icmp .ge 7, 3)) := fE fw_dX8_isAct_0_c 10 rfl
theorem dX8_isAct_21 : Eq (decode cX8_isAct 21) (Except.ok (Instr.iconst 1, 1)) := fE fw_dX8_isAct_0_c 11 rfl
theorem dX8_isAct_22 : Eq (decode cX8_isAct 22) (Except.ok (Instr.goto 4, 3)) := fE fw_dX8_isAct_0_c 12 rfl
theorem dX8_isAct_25 : Eq (decode cX8_isAct 25) (Except.ok (Instr.iconst 0, 1)) := fE fw_dX8_isAct_0_c 13 rfl
theorem dX8_isAct_26 : Eq (decode cX8_isAct 26) (Except.ok (Instr.ireturn, 1)) := fE fw_dX8_isAct_0_c 14 rfl
def fw_dX8_partOf_0 : List (Nat × Instr × Nat) := [(0, .iload_n 0, 1), (1, .iconst 1, 1), (2, .if_icmp .gt 7, 3), (5, .iconst 0, 1), (6, .goto 33, 3), (9, .iload_n 0, 1), (10, .iconst 5, 1), (11, .if_icmp .gt 7, 3), (14, .iconst 1, 1), (15, .goto 24, 3), (18, .iload_n 0, 1), (19, .bipush 6, 2), (21, .if_icmp .ne 7, 3), (24, .iconst 2, 1), (25, .goto 14, 3), (28, .iload_n 0, 1), (29, .bipush 8, 2), (31, .if_icmp .gt 7, 3), (34, .iconst 3, 1), (35, .goto 4, 3)]
theorem fw_dX8_partOf_0_c : fchk 0 (cX8_partOf.data.toList.drop 0) fw_dX8_partOf_0 = true := by decide +kernel
theorem dX8_partOf_0 : Eq (decode cX8_partOf 0) (Except.ok (Instr.iload_n 0, 1)) := fE fw_dX8_partOf_0_c 0 rfl
theorem dX8_partOf_1 : Eq (decode cX8_partOf 1) (Except.ok (Instr.iconst 1, 1)) := fE fw_dX8_partOf_0_c 1 rfl
theorem dX8_partOf_2 : Eq (decode cX8_partOf 2) (Except.ok (Instr.if_icmp .gt 7, 3)) := fE fw_dX8_partOf_0_c 2 rfl
theorem dX8_partOf_5 : Eq (decode cX8_partOf 5) (Except.ok (Instr.iconst 0, 1)) := fE fw_dX8_partOf_0_c 3 rfl
theorem dX8_partOf_6 : Eq (decode cX8_partOf 6) (Except.ok (Instr.goto 33, 3)) := fE fw_dX8_partOf_0_c 4 rfl
theorem dX8_partOf_9 : Eq (decode cX8_partOf 9) (Except.ok (Instr.iload_n 0, 1)) := fE fw_dX8_partOf_0_c 5 rfl
theorem dX8_partOf_10 : Eq (decode cX8_partOf 10) (Except.ok (Instr.iconst 5, 1)) := fE fw_dX8_partOf_0_c 6 rfl
theorem dX8_partOf_11 : Eq (decode cX8_partOf 11) (Except.ok (Instr.if_icmp .gt 7, 3)) := fE fw_dX8_partOf_0_c 7 rfl
theorem dX8_partOf_14 : Eq (decode cX8_partOf 14) (Except.ok (Instr.iconst 1, 1)) := fE fw_dX8_partOf_0_c 8 rfl
theorem dX8_partOf_15 : Eq (decode cX8_partOf 15) (Except.ok (Instr.goto 24, 3)) := fE fw_dX8_partOf_0_c 9 rfl
theorem dX8_partOf_18 : Eq (decode cX8_partOf 18) (Except.ok (Instr.iload_n 0, 1)) := fE fw_dX8_partOf_0_c 10 rfl
theorem dX8_partOf_19 : Eq (decode cX8_partOf 19) (Except.ok (Instr.bipush 6, 2)) := fE fw_dX8_partOf_0_c 11 rfl
theorem dX8_partOf_21 : Eq (decode cX8_partOf 21) (Except.ok (Instr.if_icmp .ne 7, 3)) := fE fw_dX8_partOf_0_c 12 rfl
theorem dX8_partOf_24 : Eq (decode cX8_partOf 24) (Except.ok (Instr.iconst 2, 1)) := fE fw_dX8_partOf_0_c 13 rfl
theorem dX8_partOf_25 : Eq (decode cX8_partOf 25) (Except.ok (Instr.goto 14, 3)) := fE fw_dX8_partOf_0_c 14 rfl
theorem dX8_partOf_28 : Eq (decode cX8_partOf 28) (Except.ok (Instr.iload_n 0, 1)) := fE fw_dX8_partOf_0_c 15 rfl
theorem dX8_partOf_29 : Eq (decode cX8_partOf 29) (Except.ok (Instr.bipush 8, 2)) := fE fw_dX8_partOf_0_c 16 rfl
theorem dX8_partOf_31 : Eq (decode cX8_partOf 31) (Except.ok (Instr.if_icmp .gt 7, 3)) := fE fw_dX8_partOf_0_c 17 rfl
theorem dX8_partOf_34 : Eq (decode cX8_partOf 34) (Except.ok (Instr.iconst 3, 1)) := fE fw_dX8_partOf_0_c 18 rfl
theorem dX8_partOf_35 : Eq (decode cX8_partOf 35) (Except.ok (Instr.goto 4, 3)) := fE fw_dX8_partOf_0_c 19 rfl
def fw_dX8_partOf_38 : List (Nat × Instr × Nat) := [(38, .iconst 4, 1), (39, .ireturn, 1)]
theorem fw_dX8_partOf_38_c : fchk 38 (cX8_partOf.data.toList.drop 38) fw_dX8_partOf_38 = true := by decide +kernel
theorem dX8_partOf_38 : Eq (decode cX8_partOf 38) (Except.ok (Instr.iconst 4, 1)) := fE fw_dX8_partOf_38_c 0 rfl
theorem dX8_partOf_39 : Eq (decode cX8_partOf 39) (Except.ok (Instr.ireturn, 1)) := fE fw_dX8_partOf_38_c 1 rfl
def fw_dX8_canTrap_0 : List (Nat × Instr × Nat) := [(0, .iload_n 0, 1), (1, .bipush 7, 2), (3, .if_icmp .eq 15, 3), (6, .iload_n 0, 1), (7, .bipush 8, 2), (9, .if_icmp .eq 9, 3), (12, .iload_n 0, 1), (13, .bipush 10, 2), (15, .if_icmp .ne 7, 3), (18, .iconst 1, 1), (19, .goto 4, 3), (22, .iconst 0, 1), (23, .ireturn, 1)]
theorem fw_dX8_canTrap_0_c : fchk 0 (cX8_canTrap.data.toList.drop 0) fw_dX8_canTrap_0 = true := by decide +kernel
theorem dX8_canTrap_0 : Eq (decode cX8_canTrap 0) (Except.ok (Instr.iload_n 0, 1)) := fE fw_dX8_canTrap_0_c 0 rfl
theorem dX8_canTrap_1 : Eq (decode cX8_canTrap 1) (Except.ok (Instr.bipush 7, 2)) := fE fw_dX8_canTrap_0_c 1 rfl
theorem dX8_canTrap_3 : Eq (decode cX8_canTrap 3) (Except.ok (Instr.if_icmp .eq 15, 3)) := fE fw_dX8_canTrap_0_c 2 rfl
theorem dX8_canTrap_6 : Eq (decode cX8_canTrap 6) (Except.ok (Instr.iload_n 0, 1)) := fE fw_dX8_canTrap_0_c 3 rfl
theorem dX8_canTrap_7 : Eq (decode cX8_canTrap 7) (Except.ok (Instr.bipush 8, 2)) := fE fw_dX8_canTrap_0_c 4 rfl
theorem dX8_canTrap_9 : Eq (decode cX8_canTrap 9) (Except.ok (Instr.if_icmp .eq 9, 3)) := fE fw_dX8_canTrap_0_c 5 rfl
theorem dX8_canTrap_12 : Eq (decode cX8_canTrap 12) (Except.ok (Instr.iload_n 0, 1)) := fE fw_dX8_canTrap_0_c 6 rfl
theorem dX8_canTrap_13 : Eq (decode cX8_canTrap 13) (Except.ok (Instr.bipush 10, 2)) := fE fw_dX8_canTrap_0_c 7 rfl
theorem dX8_canTrap_15 : Eq (decode cX8_canTrap 15) (Except.ok (Instr.if_icmp .ne 7, 3)) := fE fw_dX8_canTrap_0_c 8 rfl
theorem dX8_canTrap_18 : Eq (decode cX8_canTrap 18) (Except.ok (Instr.iconst 1, 1)) := fE fw_dX8_canTrap_0_c 9 rfl
theorem dX8_canTrap_19 : Eq (decode cX8_canTrap 19) (Except.ok (Instr.goto 4, 3)) := fE fw_dX8_canTrap_0_c 10 rfl
theorem dX8_canTrap_22 : Eq (decode cX8_canTrap 22) (Except.ok (Instr.iconst 0, 1)) := fE fw_dX8_canTrap_0_c 11 rfl
theorem dX8_canTrap_23 : Eq (decode cX8_canTrap 23) (Except.ok (Instr.ireturn, 1)) := fE fw_dX8_canTrap_0_c 12 rfl
set_option maxRecDepth 20000 in
theorem gi_wsX8_look_0 : GoodIn wsX8_look wsX8_look := goodIn_sub (fun _ h => h) (by decide +kernel)
set_option maxRecDepth 20000 in
theorem gi_wsX8_look_1 : GoodIn wsX8_look wsX80 := goodIn_sub (fun w h => List.mem_cons_of_mem _ (List.mem_append_right _ h)) (by decide +kernel)
def bs_wsX8_look : List (List Cond) := [wsX8_look, wsX80]
theorem bs_wsX8_look_in : ∀ b ∈ bs_wsX8_look, GoodIn wsX8_look b := List.forall_mem_cons.mpr ⟨gi_wsX8_look_0, List.forall_mem_cons.mpr ⟨gi_wsX8_look_1, (fun _ h => absurd h List.not_mem_nil)⟩⟩
set_option maxRecDepth 20000 in
theorem ggX8_look_X8_isAct : GoodIn wsX8_look wsX8_isAct := goodIn_k (gi_q bs_wsX8_look_in _ [(0, 9)] rfl) (goodIn_app (gi_q bs_wsX8_look_in _ [(0, 10), (0, 11), (0, 12), (0, 8), (0, 13)] rfl) (gi_wsX8_look_1))
set_option maxRecDepth 20000 in
theorem gX8_look_X8_isAct : GoodIn wsX8_look (wsV RX8 168 RX8 yX8_isAct wsX8_isAct) := goodIn_app (gi_q bs_wsX8_look_in _ [(0, 5), (0, 6), (0, 7), (0, 8)] rfl) ggX8_look_X8_isAct
set_option maxRecDepth 20000 in
theorem ggX8_look_X8_no : GoodIn wsX8_look wsX8_no := goodIn_k (gi_q bs_wsX8_look_in _ [(0, 17)] rfl) (goodIn_app (gi_q bs_wsX8_look_in _ [(0, 18)] rfl) (gi_wsX8_look_1))
set_option maxRecDepth 20000 in
theorem gX8_look_X8_no : GoodIn wsX8_look (wsV RX8 122 RX8 yX8_no wsX8_no) := goodIn_app (gi_q bs_wsX8_look_in _ [(0, 14), (0, 15), (0, 16), (0, 8)] rfl) ggX8_look_X8_no
set_option maxRecDepth 20000 in
theorem ggX8_look_X8_partOf : GoodIn wsX8_look wsX8_partOf := goodIn_k (gi_q bs_wsX8_look_in _ [(0, 21)] rfl) (gi_q bs_wsX8_look_in _ [] rfl)
set_option maxRecDepth 20000 in
theorem gX8_look_X8_partOf : GoodIn wsX8_look (va_wsS RX8 172 yX8_partOf wsX8_partOf) := goodIn_app (gi_q bs_wsX8_look_in _ [(0, 19), (0, 20), (0, 8)] rfl) ggX8_look_X8_partOf
set_option maxRecDepth 20000 in
theorem ggX8_look_X8_canTrap : GoodIn wsX8_look wsX8_canTrap := goodIn_k (gi_q bs_wsX8_look_in _ [(0, 24)] rfl) (gi_q bs_wsX8_look_in _ [] rfl)
set_option maxRecDepth 20000 in
theorem gX8_look_X8_canTrap : GoodIn wsX8_look (va_wsS RX8 175 yX8_canTrap wsX8_canTrap) := goodIn_app (gi_q bs_wsX8_look_in _ [(0, 22), (0, 23), (0, 8)] rfl) ggX8_look_X8_canTrap
def fw_dX8_look_0 : List (Nat × Instr × Nat) := [(0, .aload_n 0, 1), (1, .iload_n 1, 1), (2, .iload_n 2, 1), (3, .invokevirtual 168, 3), (6, .ifCond .ne 10, 3), (9, .aload_n 0, 1), (10, .bipush (-3), 2), (12, .invokevirtual 122, 3), (15, .ireturn, 1), (16, .bipush 10, 2), (18, .iload_n 1, 1), (19, .imul, 1), (20, .iload_n 2, 1), (21, .iadd, 1), (22, .istore 4, 2), (24, .iload_n 3, 1)]
theorem fw_dX8_look_0_c : fchk 0 (cX8_look.data.toList.drop 0) fw_dX8_look_0 = true := by decide +kernel
theorem dX8_look_0 : Eq (decode cX8_look 0) (Except.ok (Instr.aload_n 0, 1)) := fE fw_dX8_look_0_c 0 rfl
theorem dX8_look_1 : Eq (decode cX8_look 1) (Except.ok (Instr.iload_n 1, 1)) := fE fw_dX8_look_0_c 1 rfl
theorem dX8_look_2 : Eq (decode cX8_look 2) (Except.ok (Instr.iload_n 2, 1)) := fE fw_dX8_look_0_c 2 rfl
theorem dX8_look_3 : Eq (decode cX8_look 3) (Except.ok (Instr.invokevirtual 168, 3)) := fE fw_dX8_look_0_c 3 rfl
theorem dX8_look_6 : Eq (decode cX8_look 6) (Except.ok (Instr.ifCond .ne 10, 3)) := fE fw_dX8_look_0_c 4 rfl
theorem dX8_look_9 : Eq (decode cX8_look 9) (Except.ok (Instr.aload_n 0, 1)) := fE fw_dX8_look_0_c 5 rfl
theorem dX8_look_10 : Eq (decode cX8_look 10) (Except.ok (Instr.bipush (-3), 2)) := fE fw_dX8_look_0_c 6 rfl
theorem dX8_look_12 : Eq (decode cX8_look 12) (Except.ok (Instr.invokevirtual 122, 3)) := fE fw_dX8_look_0_c 7 rfl
theorem dX8_look_15 : Eq (decode cX8_look 15) (Except.ok (Instr.ireturn, 1)) := fE fw_dX8_look_0_c 8 rfl
theorem dX8_look_16 : Eq (decode cX8_look 16) (Except.ok (Instr.bipush 10, 2)) := fE fw_dX8_look_0_c 9 rfl
theorem dX8_look_18 : Eq (decode cX8_look 18) (Except.ok (Instr.iload_n 1, 1)) := fE fw_dX8_look_0_c 10 rfl
theorem dX8_look_19 : Eq (decode cX8_look 19) (Except.ok (Instr.imul, 1)) := fE fw_dX8_look_0_c 11 rfl
theorem dX8_look_20 : Eq (decode cX8_look 20) (Except.ok (Instr.iload_n 2, 1)) := fE fw_dX8_look_0_c 12 rfl
theorem dX8_look_21 : Eq (decode cX8_look 21) (Except.ok (Instr.iadd, 1)) := fE fw_dX8_look_0_c 13 rfl
theorem dX8_look_22 : Eq (decode cX8_look 22) (Except.ok (Instr.istore 4, 2)) := fE fw_dX8_look_0_c 14 rfl
theorem dX8_look_24 : Eq (decode cX8_look 24) (Except.ok (Instr.iload_n 3, 1)) := fE fw_dX8_look_0_c 15 rfl
theorem dX8_look_25 : decode cX8_look 25 = .ok (.tableswitch 101 0 5 #[39, 47, 55, 63, 71, 82], 39) := by decide +kernel
def fw_dX8_look_64 : List (Nat × Instr × Nat) := [(64, .aload_n 0, 1), (65, .getfield 29, 3), (68, .iload 4, 2), (70, .iaload, 1), (71, .ireturn, 1), (72, .aload_n 0, 1), (73, .getfield 32, 3), (76, .iload 4, 2), (78, .iaload, 1), (79, .ireturn, 1), (80, .aload_n 0, 1), (81, .getfield 35, 3), (84, .iload 4, 2), (86, .iaload, 1), (87, .ireturn, 1), (88, .aload_n 0, 1), (89, .getfield 38, 3), (92, .iload 4, 2), (94, .iaload, 1), (95, .ireturn, 1)]
theorem fw_dX8_look_64_c : fchk 64 (cX8_look.data.toList.drop 64) fw_dX8_look_64 = true := by decide +kernel
theorem dX8_look_64 : Eq (decode cX8_look 64) (Except.ok (Instr.aload_n 0, 1)) := fE fw_dX8_look_64_c 0 rfl
theorem dX8_look_65 : Eq (decode cX8_look 65) (Except.ok (Instr.getfield 29, 3)) := fE fw_dX8_look_64_c 1 rfl
theorem dX8_look_68 : Eq (decode cX8_look 68) (Except.ok (Instr.iload 4, 2)) := fE fw_dX8_look_64_c 2 rfl
theorem dX8_look_70 : Eq (decode cX8_look 70) (Except.ok (Instr.iaload, 1)) := fE fw_dX8_look_64_c 3 rfl
theorem dX8_look_71 : Eq (decode cX8_look 71) (Except.ok (Instr.ireturn, 1)) := fE fw_dX8_look_64_c 4 rfl
theorem dX8_look_72 : Eq (decode cX8_look 72) (Except.ok (Instr.aload_n 0, 1)) := fE fw_dX8_look_64_c 5 rfl
theorem dX8_look_73 : Eq (decode cX8_look 73) (Except.ok (Instr.getfield 32, 3)) := fE fw_dX8_look_64_c 6 rfl
theorem dX8_look_76 : Eq (decode cX8_look 76) (Except.ok (Instr.iload 4, 2)) := fE fw_dX8_look_64_c 7 rfl
theorem dX8_look_78 : Eq (decode cX8_look 78) (Except.ok (Instr.iaload, 1)) := fE fw_dX8_look_64_c 8 rfl
theorem dX8_look_79 : Eq (decode cX8_look 79) (Except.ok (Instr.ireturn, 1)) := fE fw_dX8_look_64_c 9 rfl
theorem dX8_look_80 : Eq (decode cX8_look 80) (Except.ok (Instr.aload_n 0, 1)) := fE fw_dX8_look_64_c 10 rfl
theorem dX8_look_81 : Eq (decode cX8_look 81) (Except.ok (Instr.getfield 35, 3)) := fE fw_dX8_look_64_c 11 rfl
theorem dX8_look_84 : Eq (decode cX8_look 84) (Except.ok (Instr.iload 4, 2)) := fE fw_dX8_look_64_c 12 rfl
theorem dX8_look_86 : Eq (decode cX8_look 86) (Except.ok (Instr.iaload, 1)) := fE fw_dX8_look_64_c 13 rfl
theorem dX8_look_87 : Eq (decode cX8_look 87) (Except.ok (Instr.ireturn, 1)) := fE fw_dX8_look_64_c 14 rfl
theorem dX8_look_88 : Eq (decode cX8_look 88) (Except.ok (Instr.aload_n 0, 1)) := fE fw_dX8_look_64_c 15 rfl
theorem dX8_look_89 : Eq (decode cX8_look 89) (Except.ok (Instr.getfield 38, 3)) := fE fw_dX8_look_64_c 16 rfl
theorem dX8_look_92 : Eq (decode cX8_look 92) (Except.ok (Instr.iload 4, 2)) := fE fw_dX8_look_64_c 17 rfl
theorem dX8_look_94 : Eq (decode cX8_look 94) (Except.ok (Instr.iaload, 1)) := fE fw_dX8_look_64_c 18 rfl
theorem dX8_look_95 : Eq (decode cX8_look 95) (Except.ok (Instr.ireturn, 1)) := fE fw_dX8_look_64_c 19 rfl
def fw_dX8_look_96 : List (Nat × Instr × Nat) := [(96, .aload_n 0, 1), (97, .getfield 29, 3), (100, .iload 4, 2), (102, .iaload, 1), (103, .invokestatic 172, 3), (106, .ireturn, 1), (107, .aload_n 0, 1), (108, .getfield 29, 3), (111, .iload 4, 2), (113, .iaload, 1), (114, .invokestatic 175, 3), (117, .ifCond .eq 7, 3), (120, .iconst 1, 1), (121, .goto 4, 3), (124, .iconst 0, 1), (125, .ireturn, 1), (126, .aload_n 0, 1), (127, .bipush (-6), 2), (129, .invokevirtual 122, 3), (132, .ireturn, 1)]
theorem fw_dX8_look_96_c : fchk 96 (cX8_look.data.toList.drop 96) fw_dX8_look_96 = true := by decide +kernel
theorem dX8_look_96 : Eq (decode cX8_look 96) (Except.ok (Instr.aload_n 0, 1)) := fE fw_dX8_look_96_c 0 rfl
theorem dX8_look_97 : Eq (decode cX8_look 97) (Except.ok (Instr.getfield 29, 3)) := fE fw_dX8_look_96_c 1 rfl
theorem dX8_look_100 : Eq (decode cX8_look 100) (Except.ok (Instr.iload 4, 2)) := fE fw_dX8_look_96_c 2 rfl
theorem dX8_look_102 : Eq (decode cX8_look 102) (Except.ok (Instr.iaload, 1)) := fE fw_dX8_look_96_c 3 rfl
theorem dX8_look_103 : Eq (decode cX8_look 103) (Except.ok (Instr.invokestatic 172, 3)) := fE fw_dX8_look_96_c 4 rfl
theorem dX8_look_106 : Eq (decode cX8_look 106) (Except.ok (Instr.ireturn, 1)) := fE fw_dX8_look_96_c 5 rfl
theorem dX8_look_107 : Eq (decode cX8_look 107) (Except.ok (Instr.aload_n 0, 1)) := fE fw_dX8_look_96_c 6 rfl
theorem dX8_look_108 : Eq (decode cX8_look 108) (Except.ok (Instr.getfield 29, 3)) := fE fw_dX8_look_96_c 7 rfl
theorem dX8_look_111 : Eq (decode cX8_look 111) (Except.ok (Instr.iload 4, 2)) := fE fw_dX8_look_96_c 8 rfl
theorem dX8_look_113 : Eq (decode cX8_look 113) (Except.ok (Instr.iaload, 1)) := fE fw_dX8_look_96_c 9 rfl
theorem dX8_look_114 : Eq (decode cX8_look 114) (Except.ok (Instr.invokestatic 175, 3)) := fE fw_dX8_look_96_c 10 rfl
theorem dX8_look_117 : Eq (decode cX8_look 117) (Except.ok (Instr.ifCond .eq 7, 3)) := fE fw_dX8_look_96_c 11 rfl
theorem dX8_look_120 : Eq (decode cX8_look 120) (Except.ok (Instr.iconst 1, 1)) := fE fw_dX8_look_96_c 12 rfl
theorem dX8_look_121 : Eq (decode cX8_look 121) (Except.ok (Instr.goto 4, 3)) := fE fw_dX8_look_96_c 13 rfl
theorem dX8_look_124 : Eq (decode cX8_look 124) (Except.ok (Instr.iconst 0, 1)) := fE fw_dX8_look_96_c 14 rfl
theorem dX8_look_125 : Eq (decode cX8_look 125) (Except.ok (Instr.ireturn, 1)) := fE fw_dX8_look_96_c 15 rfl
theorem dX8_look_126 : Eq (decode cX8_look 126) (Except.ok (Instr.aload_n 0, 1)) := fE fw_dX8_look_96_c 16 rfl
theorem dX8_look_127 : Eq (decode cX8_look 127) (Except.ok (Instr.bipush (-6), 2)) := fE fw_dX8_look_96_c 17 rfl
theorem dX8_look_129 : Eq (decode cX8_look 129) (Except.ok (Instr.invokevirtual 122, 3)) := fE fw_dX8_look_96_c 18 rfl
theorem dX8_look_132 : Eq (decode cX8_look 132) (Except.ok (Instr.ireturn, 1)) := fE fw_dX8_look_96_c 19 rfl
set_option maxRecDepth 20000 in
theorem gi_wsX8_buses_0 : GoodIn wsX8_buses wsX8_buses := goodIn_sub (fun _ h => h) (by decide +kernel)
set_option maxRecDepth 20000 in
theorem gi_wsX8_buses_1 : GoodIn wsX8_buses wsX80 := goodIn_sub (fun w h => List.mem_cons_of_mem _ (List.mem_append_right _ h)) (by decide +kernel)
def bs_wsX8_buses : List (List Cond) := [wsX8_buses, wsX80]
theorem bs_wsX8_buses_in : ∀ b ∈ bs_wsX8_buses, GoodIn wsX8_buses b := List.forall_mem_cons.mpr ⟨gi_wsX8_buses_0, List.forall_mem_cons.mpr ⟨gi_wsX8_buses_1, (fun _ h => absurd h List.not_mem_nil)⟩⟩
set_option maxRecDepth 20000 in
theorem ggX8_buses_X8_isIn : GoodIn wsX8_buses wsX8_isIn := goodIn_k (gi_q bs_wsX8_buses_in _ [(0, 8)] rfl) (gi_q bs_wsX8_buses_in _ [] rfl)
set_option maxRecDepth 20000 in
theorem gX8_buses_X8_isIn : GoodIn wsX8_buses (va_wsS RX8 128 yX8_isIn wsX8_isIn) := goodIn_app (gi_q bs_wsX8_buses_in _ [(0, 5), (0, 6), (0, 7)] rfl) ggX8_buses_X8_isIn
set_option maxRecDepth 20000 in
theorem ggX8_buses_X8_no : GoodIn wsX8_buses wsX8_no := goodIn_k (gi_q bs_wsX8_buses_in _ [(0, 12)] rfl) (goodIn_app (gi_q bs_wsX8_buses_in _ [(0, 13)] rfl) (gi_wsX8_buses_1))
set_option maxRecDepth 20000 in
theorem gX8_buses_X8_no : GoodIn wsX8_buses (wsV RX8 122 RX8 yX8_no wsX8_no) := goodIn_app (gi_q bs_wsX8_buses_in _ [(0, 9), (0, 10), (0, 11), (0, 7)] rfl) ggX8_buses_X8_no
def fw_dX8_buses_0 : List (Nat × Instr × Nat) := [(0, .iload_n 1, 1), (1, .i2l, 1), (2, .lconst 1, 1), (3, .ldc2_w 178, 3), (6, .invokestatic 128, 3), (9, .ifCond .ne 10, 3), (12, .aload_n 0, 1), (13, .bipush (-6), 2), (15, .invokevirtual 122, 3), (18, .ireturn, 1), (19, .aload_n 0, 1), (20, .getfield 44, 3), (23, .istore_n 2, 1), (24, .aload_n 0, 1), (25, .iload_n 1, 1), (26, .putfield 44, 3), (29, .iconst 0, 1), (30, .istore_n 3, 1), (31, .iload_n 3, 1), (32, .bipush 12, 2)]
theorem fw_dX8_buses_0_c : fchk 0 (cX8_buses.data.toList.drop 0) fw_dX8_buses_0 = true := by decide +kernel
theorem dX8_buses_0 : Eq (decode cX8_buses 0) (Except.ok (Instr.iload_n 1, 1)) := fE fw_dX8_buses_0_c 0 rfl
theorem dX8_buses_1 : Eq (decode cX8_buses 1) (Except.ok (Instr.i2l, 1)) := fE fw_dX8_buses_0_c 1 rfl
theorem dX8_buses_2 : Eq (decode cX8_buses 2) (Except.ok (Instr.lconst 1, 1)) := fE fw_dX8_buses_0_c 2 rfl
theorem dX8_buses_3 : Eq (decode cX8_buses 3) (Except.ok (Instr.ldc2_w 178, 3)) := fE fw_dX8_buses_0_c 3 rfl
theorem dX8_buses_6 : Eq (decode cX8_buses 6) (Except.ok (Instr.invokestatic 128, 3)) := fE fw_dX8_buses_0_c 4 rfl
theorem dX8_buses_9 : Eq (decode cX8_buses 9) (Except.ok (Instr.ifCond .ne 10, 3)) := fE fw_dX8_buses_0_c 5 rfl
theorem dX8_buses_12 : Eq (decode cX8_buses 12) (Except.ok (Instr.aload_n 0, 1)) := fE fw_dX8_buses_0_c 6 rfl
theorem dX8_buses_13 : Eq (decode cX8_buses 13) (Except.ok (Instr.bipush (-6), 2)) := fE fw_dX8_buses_0_c 7 rfl
theorem dX8_buses_15 : Eq (decode cX8_buses 15) (Except.ok (Instr.invokevirtual 122, 3)) := fE fw_dX8_buses_0_c 8 rfl
theorem dX8_buses_18 : Eq (decode cX8_buses 18) (Except.ok (Instr.ireturn, 1)) := fE fw_dX8_buses_0_c 9 rfl
theorem dX8_buses_19 : Eq (decode cX8_buses 19) (Except.ok (Instr.aload_n 0, 1)) := fE fw_dX8_buses_0_c 10 rfl
theorem dX8_buses_20 : Eq (decode cX8_buses 20) (Except.ok (Instr.getfield 44, 3)) := fE fw_dX8_buses_0_c 11 rfl
theorem dX8_buses_23 : Eq (decode cX8_buses 23) (Except.ok (Instr.istore_n 2, 1)) := fE fw_dX8_buses_0_c 12 rfl
theorem dX8_buses_24 : Eq (decode cX8_buses 24) (Except.ok (Instr.aload_n 0, 1)) := fE fw_dX8_buses_0_c 13 rfl
theorem dX8_buses_25 : Eq (decode cX8_buses 25) (Except.ok (Instr.iload_n 1, 1)) := fE fw_dX8_buses_0_c 14 rfl
theorem dX8_buses_26 : Eq (decode cX8_buses 26) (Except.ok (Instr.putfield 44, 3)) := fE fw_dX8_buses_0_c 15 rfl
theorem dX8_buses_29 : Eq (decode cX8_buses 29) (Except.ok (Instr.iconst 0, 1)) := fE fw_dX8_buses_0_c 16 rfl
theorem dX8_buses_30 : Eq (decode cX8_buses 30) (Except.ok (Instr.istore_n 3, 1)) := fE fw_dX8_buses_0_c 17 rfl
theorem dX8_buses_31 : Eq (decode cX8_buses 31) (Except.ok (Instr.iload_n 3, 1)) := fE fw_dX8_buses_0_c 18 rfl
theorem dX8_buses_32 : Eq (decode cX8_buses 32) (Except.ok (Instr.bipush 12, 2)) := fE fw_dX8_buses_0_c 19 rfl
def fw_dX8_buses_34 : List (Nat × Instr × Nat) := [(34, .if_icmp .ge 21, 3), (37, .iload_n 2, 1), (38, .iload_n 1, 1), (39, .if_icmp .eq 16, 3), (42, .aload_n 0, 1), (43, .getfield 66, 3), (46, .iload_n 3, 1), (47, .iconst 0, 1), (48, .bastore, 1)]
theorem fw_dX8_buses_34_c : fchk 34 (cX8_buses.data.toList.drop 34) fw_dX8_buses_34 = true := by decide +kernel
theorem dX8_buses_34 : Eq (decode cX8_buses 34) (Except.ok (Instr.if_icmp .ge 21, 3)) := fE fw_dX8_buses_34_c 0 rfl
theorem dX8_buses_37 : Eq (decode cX8_buses 37) (Except.ok (Instr.iload_n 2, 1)) := fE fw_dX8_buses_34_c 1 rfl
theorem dX8_buses_38 : Eq (decode cX8_buses 38) (Except.ok (Instr.iload_n 1, 1)) := fE fw_dX8_buses_34_c 2 rfl
theorem dX8_buses_39 : Eq (decode cX8_buses 39) (Except.ok (Instr.if_icmp .eq 16, 3)) := fE fw_dX8_buses_34_c 3 rfl
theorem dX8_buses_42 : Eq (decode cX8_buses 42) (Except.ok (Instr.aload_n 0, 1)) := fE fw_dX8_buses_34_c 4 rfl
theorem dX8_buses_43 : Eq (decode cX8_buses 43) (Except.ok (Instr.getfield 66, 3)) := fE fw_dX8_buses_34_c 5 rfl
theorem dX8_buses_46 : Eq (decode cX8_buses 46) (Except.ok (Instr.iload_n 3, 1)) := fE fw_dX8_buses_34_c 6 rfl
theorem dX8_buses_47 : Eq (decode cX8_buses 47) (Except.ok (Instr.iconst 0, 1)) := fE fw_dX8_buses_34_c 7 rfl
theorem dX8_buses_48 : Eq (decode cX8_buses 48) (Except.ok (Instr.bastore, 1)) := fE fw_dX8_buses_34_c 8 rfl
theorem dX8_buses_49 : decode cX8_buses 49 = .ok (.iinc 3 1, 3) := by decide +kernel
def fw_dX8_buses_52 : List (Nat × Instr × Nat) := [(52, .goto (-21), 3), (55, .aload_n 0, 1), (56, .aload_n 0, 1), (57, .getfield 164, 3), (60, .ifCond .eq 12, 3), (63, .iload_n 2, 1), (64, .iload_n 1, 1), (65, .if_icmp .ne 7, 3), (68, .iconst 1, 1), (69, .goto 4, 3), (72, .iconst 0, 1), (73, .putfield 164, 3), (76, .iload_n 2, 1), (77, .ireturn, 1)]
theorem fw_dX8_buses_52_c : fchk 52 (cX8_buses.data.toList.drop 52) fw_dX8_buses_52 = true := by decide +kernel
theorem dX8_buses_52 : Eq (decode cX8_buses 52) (Except.ok (Instr.goto (-21), 3)) := fE fw_dX8_buses_52_c 0 rfl
theorem dX8_buses_55 : Eq (decode cX8_buses 55) (Except.ok (Instr.aload_n 0, 1)) := fE fw_dX8_buses_52_c 1 rfl
theorem dX8_buses_56 : Eq (decode cX8_buses 56) (Except.ok (Instr.aload_n 0, 1)) := fE fw_dX8_buses_52_c 2 rfl
theorem dX8_buses_57 : Eq (decode cX8_buses 57) (Except.ok (Instr.getfield 164, 3)) := fE fw_dX8_buses_52_c 3 rfl
theorem dX8_buses_60 : Eq (decode cX8_buses 60) (Except.ok (Instr.ifCond .eq 12, 3)) := fE fw_dX8_buses_52_c 4 rfl
theorem dX8_buses_63 : Eq (decode cX8_buses 63) (Except.ok (Instr.iload_n 2, 1)) := fE fw_dX8_buses_52_c 5 rfl
theorem dX8_buses_64 : Eq (decode cX8_buses 64) (Except.ok (Instr.iload_n 1, 1)) := fE fw_dX8_buses_52_c 6 rfl
theorem dX8_buses_65 : Eq (decode cX8_buses 65) (Except.ok (Instr.if_icmp .ne 7, 3)) := fE fw_dX8_buses_52_c 7 rfl
theorem dX8_buses_68 : Eq (decode cX8_buses 68) (Except.ok (Instr.iconst 1, 1)) := fE fw_dX8_buses_52_c 8 rfl
theorem dX8_buses_69 : Eq (decode cX8_buses 69) (Except.ok (Instr.goto 4, 3)) := fE fw_dX8_buses_52_c 9 rfl
theorem dX8_buses_72 : Eq (decode cX8_buses 72) (Except.ok (Instr.iconst 0, 1)) := fE fw_dX8_buses_52_c 10 rfl
theorem dX8_buses_73 : Eq (decode cX8_buses 73) (Except.ok (Instr.putfield 164, 3)) := fE fw_dX8_buses_52_c 11 rfl
theorem dX8_buses_76 : Eq (decode cX8_buses 76) (Except.ok (Instr.iload_n 2, 1)) := fE fw_dX8_buses_52_c 12 rfl
theorem dX8_buses_77 : Eq (decode cX8_buses 77) (Except.ok (Instr.ireturn, 1)) := fE fw_dX8_buses_52_c 13 rfl
def fw_dX8_reads_0 : List (Nat × Instr × Nat) := [(0, .iconst 0, 1), (1, .istore_n 2, 1), (2, .aload_n 0, 1), (3, .getfield 29, 3), (6, .iload_n 1, 1), (7, .iaload, 1), (8, .iconst 1, 1), (9, .if_icmp .lt 25, 3), (12, .aload_n 0, 1), (13, .getfield 29, 3), (16, .iload_n 1, 1), (17, .iaload, 1), (18, .bipush 8, 2), (20, .if_icmp .gt 14, 3), (23, .iload_n 2, 1), (24, .iconst 1, 1), (25, .aload_n 0, 1), (26, .getfield 35, 3), (29, .iload_n 1, 1), (30, .iaload, 1)]
theorem fw_dX8_reads_0_c : fchk 0 (cX8_reads.data.toList.drop 0) fw_dX8_reads_0 = true := by decide +kernel
theorem dX8_reads_0 : Eq (decode cX8_reads 0) (Except.ok (Instr.iconst 0, 1)) := fE fw_dX8_reads_0_c 0 rfl
theorem dX8_reads_1 : Eq (decode cX8_reads 1) (Except.ok (Instr.istore_n 2, 1)) := fE fw_dX8_reads_0_c 1 rfl
theorem dX8_reads_2 : Eq (decode cX8_reads 2) (Except.ok (Instr.aload_n 0, 1)) := fE fw_dX8_reads_0_c 2 rfl
theorem dX8_reads_3 : Eq (decode cX8_reads 3) (Except.ok (Instr.getfield 29, 3)) := fE fw_dX8_reads_0_c 3 rfl
theorem dX8_reads_6 : Eq (decode cX8_reads 6) (Except.ok (Instr.iload_n 1, 1)) := fE fw_dX8_reads_0_c 4 rfl
theorem dX8_reads_7 : Eq (decode cX8_reads 7) (Except.ok (Instr.iaload, 1)) := fE fw_dX8_reads_0_c 5 rfl
theorem dX8_reads_8 : Eq (decode cX8_reads 8) (Except.ok (Instr.iconst 1, 1)) := fE fw_dX8_reads_0_c 6 rfl
theorem dX8_reads_9 : Eq (decode cX8_reads 9) (Except.ok (Instr.if_icmp .lt 25, 3)) := fE fw_dX8_reads_0_c 7 rfl
theorem dX8_reads_12 : Eq (decode cX8_reads 12) (Except.ok (Instr.aload_n 0, 1)) := fE fw_dX8_reads_0_c 8 rfl
theorem dX8_reads_13 : Eq (decode cX8_reads 13) (Except.ok (Instr.getfield 29, 3)) := fE fw_dX8_reads_0_c 9 rfl
theorem dX8_reads_16 : Eq (decode cX8_reads 16) (Except.ok (Instr.iload_n 1, 1)) := fE fw_dX8_reads_0_c 10 rfl
theorem dX8_reads_17 : Eq (decode cX8_reads 17) (Except.ok (Instr.iaload, 1)) := fE fw_dX8_reads_0_c 11 rfl
theorem dX8_reads_18 : Eq (decode cX8_reads 18) (Except.ok (Instr.bipush 8, 2)) := fE fw_dX8_reads_0_c 12 rfl
theorem dX8_reads_20 : Eq (decode cX8_reads 20) (Except.ok (Instr.if_icmp .gt 14, 3)) := fE fw_dX8_reads_0_c 13 rfl
theorem dX8_reads_23 : Eq (decode cX8_reads 23) (Except.ok (Instr.iload_n 2, 1)) := fE fw_dX8_reads_0_c 14 rfl
theorem dX8_reads_24 : Eq (decode cX8_reads 24) (Except.ok (Instr.iconst 1, 1)) := fE fw_dX8_reads_0_c 15 rfl
theorem dX8_reads_25 : Eq (decode cX8_reads 25) (Except.ok (Instr.aload_n 0, 1)) := fE fw_dX8_reads_0_c 16 rfl
theorem dX8_reads_26 : Eq (decode cX8_reads 26) (Except.ok (Instr.getfield 35, 3)) := fE fw_dX8_reads_0_c 17 rfl
theorem dX8_reads_29 : Eq (decode cX8_reads 29) (Except.ok (Instr.iload_n 1, 1)) := fE fw_dX8_reads_0_c 18 rfl
theorem dX8_reads_30 : Eq (decode cX8_reads 30) (Except.ok (Instr.iaload, 1)) := fE fw_dX8_reads_0_c 19 rfl
def fw_dX8_reads_31 : List (Nat × Instr × Nat) := [(31, .ishl, 1), (32, .ior, 1), (33, .istore_n 2, 1), (34, .aload_n 0, 1), (35, .getfield 29, 3), (38, .iload_n 1, 1), (39, .iaload, 1), (40, .iconst 2, 1), (41, .if_icmp .lt 13, 3), (44, .aload_n 0, 1), (45, .getfield 29, 3), (48, .iload_n 1, 1), (49, .iaload, 1), (50, .iconst 5, 1), (51, .if_icmp .le 14, 3), (54, .aload_n 0, 1), (55, .getfield 29, 3), (58, .iload_n 1, 1), (59, .iaload, 1), (60, .bipush 8, 2)]
theorem fw_dX8_reads_31_c : fchk 31 (cX8_reads.data.toList.drop 31) fw_dX8_reads_31 = true := by decide +kernel
theorem dX8_reads_31 : Eq (decode cX8_reads 31) (Except.ok (Instr.ishl, 1)) := fE fw_dX8_reads_31_c 0 rfl
theorem dX8_reads_32 : Eq (decode cX8_reads 32) (Except.ok (Instr.ior, 1)) := fE fw_dX8_reads_31_c 1 rfl
theorem dX8_reads_33 : Eq (decode cX8_reads 33) (Except.ok (Instr.istore_n 2, 1)) := fE fw_dX8_reads_31_c 2 rfl
theorem dX8_reads_34 : Eq (decode cX8_reads 34) (Except.ok (Instr.aload_n 0, 1)) := fE fw_dX8_reads_31_c 3 rfl
theorem dX8_reads_35 : Eq (decode cX8_reads 35) (Except.ok (Instr.getfield 29, 3)) := fE fw_dX8_reads_31_c 4 rfl
theorem dX8_reads_38 : Eq (decode cX8_reads 38) (Except.ok (Instr.iload_n 1, 1)) := fE fw_dX8_reads_31_c 5 rfl
theorem dX8_reads_39 : Eq (decode cX8_reads 39) (Except.ok (Instr.iaload, 1)) := fE fw_dX8_reads_31_c 6 rfl
theorem dX8_reads_40 : Eq (decode cX8_reads 40) (Except.ok (Instr.iconst 2, 1)) := fE fw_dX8_reads_31_c 7 rfl
theorem dX8_reads_41 : Eq (decode cX8_reads 41) (Except.ok (Instr.if_icmp .lt 13, 3)) := fE fw_dX8_reads_31_c 8 rfl
theorem dX8_reads_44 : Eq (decode cX8_reads 44) (Except.ok (Instr.aload_n 0, 1)) := fE fw_dX8_reads_31_c 9 rfl
theorem dX8_reads_45 : Eq (decode cX8_reads 45) (Except.ok (Instr.getfield 29, 3)) := fE fw_dX8_reads_31_c 10 rfl
theorem dX8_reads_48 : Eq (decode cX8_reads 48) (Except.ok (Instr.iload_n 1, 1)) := fE fw_dX8_reads_31_c 11 rfl
theorem dX8_reads_49 : Eq (decode cX8_reads 49) (Except.ok (Instr.iaload, 1)) := fE fw_dX8_reads_31_c 12 rfl
theorem dX8_reads_50 : Eq (decode cX8_reads 50) (Except.ok (Instr.iconst 5, 1)) := fE fw_dX8_reads_31_c 13 rfl
theorem dX8_reads_51 : Eq (decode cX8_reads 51) (Except.ok (Instr.if_icmp .le 14, 3)) := fE fw_dX8_reads_31_c 14 rfl
theorem dX8_reads_54 : Eq (decode cX8_reads 54) (Except.ok (Instr.aload_n 0, 1)) := fE fw_dX8_reads_31_c 15 rfl
theorem dX8_reads_55 : Eq (decode cX8_reads 55) (Except.ok (Instr.getfield 29, 3)) := fE fw_dX8_reads_31_c 16 rfl
theorem dX8_reads_58 : Eq (decode cX8_reads 58) (Except.ok (Instr.iload_n 1, 1)) := fE fw_dX8_reads_31_c 17 rfl
theorem dX8_reads_59 : Eq (decode cX8_reads 59) (Except.ok (Instr.iaload, 1)) := fE fw_dX8_reads_31_c 18 rfl
theorem dX8_reads_60 : Eq (decode cX8_reads 60) (Except.ok (Instr.bipush 8, 2)) := fE fw_dX8_reads_31_c 19 rfl
def fw_dX8_reads_62 : List (Nat × Instr × Nat) := [(62, .if_icmp .ne 14, 3), (65, .iload_n 2, 1), (66, .iconst 1, 1), (67, .aload_n 0, 1), (68, .getfield 38, 3), (71, .iload_n 1, 1), (72, .iaload, 1), (73, .ishl, 1), (74, .ior, 1), (75, .istore_n 2, 1), (76, .aload_n 0, 1), (77, .getfield 29, 3), (80, .iload_n 1, 1), (81, .iaload, 1), (82, .bipush 7, 2), (84, .if_icmp .ne 9, 3), (87, .iload_n 2, 1), (88, .sipush 1024, 3), (91, .ior, 1), (92, .istore_n 2, 1)]
theorem fw_dX8_reads_62_c : fchk 62 (cX8_reads.data.toList.drop 62) fw_dX8_reads_62 = true := by decide +kernel
theorem dX8_reads_62 : Eq (decode cX8_reads 62) (Except.ok (Instr.if_icmp .ne 14, 3)) := fE fw_dX8_reads_62_c 0 rfl
theorem dX8_reads_65 : Eq (decode cX8_reads 65) (Except.ok (Instr.iload_n 2, 1)) := fE fw_dX8_reads_62_c 1 rfl
theorem dX8_reads_66 : Eq (decode cX8_reads 66) (Except.ok (Instr.iconst 1, 1)) := fE fw_dX8_reads_62_c 2 rfl
theorem dX8_reads_67 : Eq (decode cX8_reads 67) (Except.ok (Instr.aload_n 0, 1)) := fE fw_dX8_reads_62_c 3 rfl
theorem dX8_reads_68 : Eq (decode cX8_reads 68) (Except.ok (Instr.getfield 38, 3)) := fE fw_dX8_reads_62_c 4 rfl
theorem dX8_reads_71 : Eq (decode cX8_reads 71) (Except.ok (Instr.iload_n 1, 1)) := fE fw_dX8_reads_62_c 5 rfl
theorem dX8_reads_72 : Eq (decode cX8_reads 72) (Except.ok (Instr.iaload, 1)) := fE fw_dX8_reads_62_c 6 rfl
theorem dX8_reads_73 : Eq (decode cX8_reads 73) (Except.ok (Instr.ishl, 1)) := fE fw_dX8_reads_62_c 7 rfl
theorem dX8_reads_74 : Eq (decode cX8_reads 74) (Except.ok (Instr.ior, 1)) := fE fw_dX8_reads_62_c 8 rfl
theorem dX8_reads_75 : Eq (decode cX8_reads 75) (Except.ok (Instr.istore_n 2, 1)) := fE fw_dX8_reads_62_c 9 rfl
theorem dX8_reads_76 : Eq (decode cX8_reads 76) (Except.ok (Instr.aload_n 0, 1)) := fE fw_dX8_reads_62_c 10 rfl
theorem dX8_reads_77 : Eq (decode cX8_reads 77) (Except.ok (Instr.getfield 29, 3)) := fE fw_dX8_reads_62_c 11 rfl
theorem dX8_reads_80 : Eq (decode cX8_reads 80) (Except.ok (Instr.iload_n 1, 1)) := fE fw_dX8_reads_62_c 12 rfl
theorem dX8_reads_81 : Eq (decode cX8_reads 81) (Except.ok (Instr.iaload, 1)) := fE fw_dX8_reads_62_c 13 rfl
theorem dX8_reads_82 : Eq (decode cX8_reads 82) (Except.ok (Instr.bipush 7, 2)) := fE fw_dX8_reads_62_c 14 rfl
theorem dX8_reads_84 : Eq (decode cX8_reads 84) (Except.ok (Instr.if_icmp .ne 9, 3)) := fE fw_dX8_reads_62_c 15 rfl
theorem dX8_reads_87 : Eq (decode cX8_reads 87) (Except.ok (Instr.iload_n 2, 1)) := fE fw_dX8_reads_62_c 16 rfl
theorem dX8_reads_88 : Eq (decode cX8_reads 88) (Except.ok (Instr.sipush 1024, 3)) := fE fw_dX8_reads_62_c 17 rfl
theorem dX8_reads_91 : Eq (decode cX8_reads 91) (Except.ok (Instr.ior, 1)) := fE fw_dX8_reads_62_c 18 rfl
theorem dX8_reads_92 : Eq (decode cX8_reads 92) (Except.ok (Instr.istore_n 2, 1)) := fE fw_dX8_reads_62_c 19 rfl
def fw_dX8_reads_93 : List (Nat × Instr × Nat) := [(93, .aload_n 0, 1), (94, .getfield 29, 3), (97, .iload_n 1, 1), (98, .iaload, 1), (99, .bipush 9, 2), (101, .if_icmp .lt 17, 3), (104, .iload_n 2, 1), (105, .iconst 1, 1), (106, .bipush 8, 2), (108, .aload_n 0, 1), (109, .getfield 35, 3), (112, .iload_n 1, 1), (113, .iaload, 1), (114, .iadd, 1), (115, .ishl, 1), (116, .ior, 1), (117, .istore_n 2, 1), (118, .iload_n 2, 1), (119, .ireturn, 1)]
theorem fw_dX8_reads_93_c : fchk 93 (cX8_reads.data.toList.drop 93) fw_dX8_reads_93 = true := by decide +kernel
theorem dX8_reads_93 : Eq (decode cX8_reads 93) (Except.ok (Instr.aload_n 0, 1)) := fE fw_dX8_reads_93_c 0 rfl
theorem dX8_reads_94 : Eq (decode cX8_reads 94) (Except.ok (Instr.getfield 29, 3)) := fE fw_dX8_reads_93_c 1 rfl
theorem dX8_reads_97 : Eq (decode cX8_reads 97) (Except.ok (Instr.iload_n 1, 1)) := fE fw_dX8_reads_93_c 2 rfl
theorem dX8_reads_98 : Eq (decode cX8_reads 98) (Except.ok (Instr.iaload, 1)) := fE fw_dX8_reads_93_c 3 rfl
theorem dX8_reads_99 : Eq (decode cX8_reads 99) (Except.ok (Instr.bipush 9, 2)) := fE fw_dX8_reads_93_c 4 rfl
theorem dX8_reads_101 : Eq (decode cX8_reads 101) (Except.ok (Instr.if_icmp .lt 17, 3)) := fE fw_dX8_reads_93_c 5 rfl
theorem dX8_reads_104 : Eq (decode cX8_reads 104) (Except.ok (Instr.iload_n 2, 1)) := fE fw_dX8_reads_93_c 6 rfl
theorem dX8_reads_105 : Eq (decode cX8_reads 105) (Except.ok (Instr.iconst 1, 1)) := fE fw_dX8_reads_93_c 7 rfl
theorem dX8_reads_106 : Eq (decode cX8_reads 106) (Except.ok (Instr.bipush 8, 2)) := fE fw_dX8_reads_93_c 8 rfl
theorem dX8_reads_108 : Eq (decode cX8_reads 108) (Except.ok (Instr.aload_n 0, 1)) := fE fw_dX8_reads_93_c 9 rfl
theorem dX8_reads_109 : Eq (decode cX8_reads 109) (Except.ok (Instr.getfield 35, 3)) := fE fw_dX8_reads_93_c 10 rfl
theorem dX8_reads_112 : Eq (decode cX8_reads 112) (Except.ok (Instr.iload_n 1, 1)) := fE fw_dX8_reads_93_c 11 rfl
theorem dX8_reads_113 : Eq (decode cX8_reads 113) (Except.ok (Instr.iaload, 1)) := fE fw_dX8_reads_93_c 12 rfl
theorem dX8_reads_114 : Eq (decode cX8_reads 114) (Except.ok (Instr.iadd, 1)) := fE fw_dX8_reads_93_c 13 rfl
theorem dX8_reads_115 : Eq (decode cX8_reads 115) (Except.ok (Instr.ishl, 1)) := fE fw_dX8_reads_93_c 14 rfl
theorem dX8_reads_116 : Eq (decode cX8_reads 116) (Except.ok (Instr.ior, 1)) := fE fw_dX8_reads_93_c 15 rfl
theorem dX8_reads_117 : Eq (decode cX8_reads 117) (Except.ok (Instr.istore_n 2, 1)) := fE fw_dX8_reads_93_c 16 rfl
theorem dX8_reads_118 : Eq (decode cX8_reads 118) (Except.ok (Instr.iload_n 2, 1)) := fE fw_dX8_reads_93_c 17 rfl
theorem dX8_reads_119 : Eq (decode cX8_reads 119) (Except.ok (Instr.ireturn, 1)) := fE fw_dX8_reads_93_c 18 rfl
set_option maxRecDepth 20000 in
theorem gi_wsX8_writes_0 : GoodIn wsX8_writes wsX8_writes := goodIn_sub (fun _ h => h) (by decide +kernel)
set_option maxRecDepth 20000 in
theorem gi_wsX8_writes_1 : GoodIn wsX8_writes wsX80 := goodIn_sub (fun w h => List.mem_cons_of_mem _ (List.mem_append_right _ h)) (by decide +kernel)
def bs_wsX8_writes : List (List Cond) := [wsX8_writes, wsX80]
theorem bs_wsX8_writes_in : ∀ b ∈ bs_wsX8_writes, GoodIn wsX8_writes b := List.forall_mem_cons.mpr ⟨gi_wsX8_writes_0, List.forall_mem_cons.mpr ⟨gi_wsX8_writes_1, (fun _ h => absurd h List.not_mem_nil)⟩⟩
set_option maxRecDepth 20000 in
theorem ggX8_writes_X8_hasD : GoodIn wsX8_writes wsX8_hasD := goodIn_k (gi_q bs_wsX8_writes_in _ [(0, 6)] rfl) (gi_q bs_wsX8_writes_in _ [] rfl)
set_option maxRecDepth 20000 in
theorem gX8_writes_X8_hasD : GoodIn wsX8_writes (va_wsS RX8 145 yX8_hasD wsX8_hasD) := goodIn_app (gi_q bs_wsX8_writes_in _ [(0, 3), (0, 4), (0, 5)] rfl) ggX8_writes_X8_hasD
def fw_dX8_writes_0 : List (Nat × Instr × Nat) := [(0, .aload_n 0, 1), (1, .getfield 29, 3), (4, .iload_n 1, 1), (5, .iaload, 1), (6, .invokestatic 145, 3), (9, .ifCond .eq 14, 3), (12, .iconst 1, 1), (13, .aload_n 0, 1), (14, .getfield 32, 3), (17, .iload_n 1, 1), (18, .iaload, 1), (19, .ishl, 1), (20, .goto 4, 3), (23, .iconst 0, 1), (24, .istore_n 2, 1), (25, .aload_n 0, 1), (26, .getfield 29, 3), (29, .iload_n 1, 1), (30, .iaload, 1), (31, .iconst 2, 1)]
theorem fw_dX8_writes_0_c : fchk 0 (cX8_writes.data.toList.drop 0) fw_dX8_writes_0 = true := by decide +kernel
theorem dX8_writes_0 : Eq (decode cX8_writes 0) (Except.ok (Instr.aload_n 0, 1)) := fE fw_dX8_writes_0_c 0 rfl
theorem dX8_writes_1 : Eq (decode cX8_writes 1) (Except.ok (Instr.getfield 29, 3)) := fE fw_dX8_writes_0_c 1 rfl
theorem dX8_writes_4 : Eq (decode cX8_writes 4) (Except.ok (Instr.iload_n 1, 1)) := fE fw_dX8_writes_0_c 2 rfl
theorem dX8_writes_5 : Eq (decode cX8_writes 5) (Except.ok (Instr.iaload, 1)) := fE fw_dX8_writes_0_c 3 rfl
theorem dX8_writes_6 : Eq (decode cX8_writes 6) (Except.ok (Instr.invokestatic 145, 3)) := fE fw_dX8_writes_0_c 4 rfl
theorem dX8_writes_9 : Eq (decode cX8_writes 9) (Except.ok (Instr.ifCond .eq 14, 3)) := fE fw_dX8_writes_0_c 5 rfl
theorem dX8_writes_12 : Eq (decode cX8_writes 12) (Except.ok (Instr.iconst 1, 1)) := fE fw_dX8_writes_0_c 6 rfl
theorem dX8_writes_13 : Eq (decode cX8_writes 13) (Except.ok (Instr.aload_n 0, 1)) := fE fw_dX8_writes_0_c 7 rfl
theorem dX8_writes_14 : Eq (decode cX8_writes 14) (Except.ok (Instr.getfield 32, 3)) := fE fw_dX8_writes_0_c 8 rfl
theorem dX8_writes_17 : Eq (decode cX8_writes 17) (Except.ok (Instr.iload_n 1, 1)) := fE fw_dX8_writes_0_c 9 rfl
theorem dX8_writes_18 : Eq (decode cX8_writes 18) (Except.ok (Instr.iaload, 1)) := fE fw_dX8_writes_0_c 10 rfl
theorem dX8_writes_19 : Eq (decode cX8_writes 19) (Except.ok (Instr.ishl, 1)) := fE fw_dX8_writes_0_c 11 rfl
theorem dX8_writes_20 : Eq (decode cX8_writes 20) (Except.ok (Instr.goto 4, 3)) := fE fw_dX8_writes_0_c 12 rfl
theorem dX8_writes_23 : Eq (decode cX8_writes 23) (Except.ok (Instr.iconst 0, 1)) := fE fw_dX8_writes_0_c 13 rfl
theorem dX8_writes_24 : Eq (decode cX8_writes 24) (Except.ok (Instr.istore_n 2, 1)) := fE fw_dX8_writes_0_c 14 rfl
theorem dX8_writes_25 : Eq (decode cX8_writes 25) (Except.ok (Instr.aload_n 0, 1)) := fE fw_dX8_writes_0_c 15 rfl
theorem dX8_writes_26 : Eq (decode cX8_writes 26) (Except.ok (Instr.getfield 29, 3)) := fE fw_dX8_writes_0_c 16 rfl
theorem dX8_writes_29 : Eq (decode cX8_writes 29) (Except.ok (Instr.iload_n 1, 1)) := fE fw_dX8_writes_0_c 17 rfl
theorem dX8_writes_30 : Eq (decode cX8_writes 30) (Except.ok (Instr.iaload, 1)) := fE fw_dX8_writes_0_c 18 rfl
theorem dX8_writes_31 : Eq (decode cX8_writes 31) (Except.ok (Instr.iconst 2, 1)) := fE fw_dX8_writes_0_c 19 rfl
def fw_dX8_writes_32 : List (Nat × Instr × Nat) := [(32, .if_icmp .lt 19, 3), (35, .aload_n 0, 1), (36, .getfield 29, 3), (39, .iload_n 1, 1), (40, .iaload, 1), (41, .iconst 5, 1), (42, .if_icmp .gt 9, 3), (45, .iload_n 2, 1), (46, .sipush 768, 3), (49, .ior, 1), (50, .istore_n 2, 1), (51, .aload_n 0, 1), (52, .getfield 29, 3), (55, .iload_n 1, 1), (56, .iaload, 1), (57, .bipush 8, 2), (59, .if_icmp .ne 9, 3), (62, .iload_n 2, 1), (63, .sipush 1024, 3), (66, .ior, 1)]
theorem fw_dX8_writes_32_c : fchk 32 (cX8_writes.data.toList.drop 32) fw_dX8_writes_32 = true := by decide +kernel
theorem dX8_writes_32 : Eq (decode cX8_writes 32) (Except.ok (Instr.if_icmp .lt 19, 3)) := fE fw_dX8_writes_32_c 0 rfl
theorem dX8_writes_35 : Eq (decode cX8_writes 35) (Except.ok (Instr.aload_n 0, 1)) := fE fw_dX8_writes_32_c 1 rfl
theorem dX8_writes_36 : Eq (decode cX8_writes 36) (Except.ok (Instr.getfield 29, 3)) := fE fw_dX8_writes_32_c 2 rfl
theorem dX8_writes_39 : Eq (decode cX8_writes 39) (Except.ok (Instr.iload_n 1, 1)) := fE fw_dX8_writes_32_c 3 rfl
theorem dX8_writes_40 : Eq (decode cX8_writes 40) (Except.ok (Instr.iaload, 1)) := fE fw_dX8_writes_32_c 4 rfl
theorem dX8_writes_41 : Eq (decode cX8_writes 41) (Except.ok (Instr.iconst 5, 1)) := fE fw_dX8_writes_32_c 5 rfl
theorem dX8_writes_42 : Eq (decode cX8_writes 42) (Except.ok (Instr.if_icmp .gt 9, 3)) := fE fw_dX8_writes_32_c 6 rfl
theorem dX8_writes_45 : Eq (decode cX8_writes 45) (Except.ok (Instr.iload_n 2, 1)) := fE fw_dX8_writes_32_c 7 rfl
theorem dX8_writes_46 : Eq (decode cX8_writes 46) (Except.ok (Instr.sipush 768, 3)) := fE fw_dX8_writes_32_c 8 rfl
theorem dX8_writes_49 : Eq (decode cX8_writes 49) (Except.ok (Instr.ior, 1)) := fE fw_dX8_writes_32_c 9 rfl
theorem dX8_writes_50 : Eq (decode cX8_writes 50) (Except.ok (Instr.istore_n 2, 1)) := fE fw_dX8_writes_32_c 10 rfl
theorem dX8_writes_51 : Eq (decode cX8_writes 51) (Except.ok (Instr.aload_n 0, 1)) := fE fw_dX8_writes_32_c 11 rfl
theorem dX8_writes_52 : Eq (decode cX8_writes 52) (Except.ok (Instr.getfield 29, 3)) := fE fw_dX8_writes_32_c 12 rfl
theorem dX8_writes_55 : Eq (decode cX8_writes 55) (Except.ok (Instr.iload_n 1, 1)) := fE fw_dX8_writes_32_c 13 rfl
theorem dX8_writes_56 : Eq (decode cX8_writes 56) (Except.ok (Instr.iaload, 1)) := fE fw_dX8_writes_32_c 14 rfl
theorem dX8_writes_57 : Eq (decode cX8_writes 57) (Except.ok (Instr.bipush 8, 2)) := fE fw_dX8_writes_32_c 15 rfl
theorem dX8_writes_59 : Eq (decode cX8_writes 59) (Except.ok (Instr.if_icmp .ne 9, 3)) := fE fw_dX8_writes_32_c 16 rfl
theorem dX8_writes_62 : Eq (decode cX8_writes 62) (Except.ok (Instr.iload_n 2, 1)) := fE fw_dX8_writes_32_c 17 rfl
theorem dX8_writes_63 : Eq (decode cX8_writes 63) (Except.ok (Instr.sipush 1024, 3)) := fE fw_dX8_writes_32_c 18 rfl
theorem dX8_writes_66 : Eq (decode cX8_writes 66) (Except.ok (Instr.ior, 1)) := fE fw_dX8_writes_32_c 19 rfl
def fw_dX8_writes_67 : List (Nat × Instr × Nat) := [(67, .istore_n 2, 1), (68, .iload_n 2, 1), (69, .ireturn, 1)]
theorem fw_dX8_writes_67_c : fchk 67 (cX8_writes.data.toList.drop 67) fw_dX8_writes_67 = true := by decide +kernel
theorem dX8_writes_67 : Eq (decode cX8_writes 67) (Except.ok (Instr.istore_n 2, 1)) := fE fw_dX8_writes_67_c 0 rfl
theorem dX8_writes_68 : Eq (decode cX8_writes 68) (Except.ok (Instr.iload_n 2, 1)) := fE fw_dX8_writes_67_c 1 rfl
theorem dX8_writes_69 : Eq (decode cX8_writes 69) (Except.ok (Instr.ireturn, 1)) := fE fw_dX8_writes_67_c 2 rfl
set_option maxRecDepth 20000 in
theorem gi_wsX8_needed_0 : GoodIn wsX8_needed wsX8_needed := goodIn_sub (fun _ h => h) (by decide +kernel)
set_option maxRecDepth 20000 in
theorem gi_wsX8_needed_1 : GoodIn wsX8_needed wsX80 := goodIn_sub (fun w h => List.mem_cons_of_mem _ (List.mem_append_right _ h)) (by decide +kernel)
def bs_wsX8_needed : List (List Cond) := [wsX8_needed, wsX80]
theorem bs_wsX8_needed_in : ∀ b ∈ bs_wsX8_needed, GoodIn wsX8_needed b := List.forall_mem_cons.mpr ⟨gi_wsX8_needed_0, List.forall_mem_cons.mpr ⟨gi_wsX8_needed_1, (fun _ h => absurd h List.not_mem_nil)⟩⟩
set_option maxRecDepth 20000 in
theorem ggX8_needed_X8_writes : GoodIn wsX8_needed wsX8_writes := goodIn_k (gi_q bs_wsX8_needed_in _ [(0, 6)] rfl) (goodIn_app (gi_q bs_wsX8_needed_in _ [(0, 1), (0, 7), (0, 8), (0, 9), (0, 5), (0, 10)] rfl) (gi_wsX8_needed_1))
set_option maxRecDepth 20000 in
theorem gX8_needed_X8_writes : GoodIn wsX8_needed (wsV RX8 180 RX8 yX8_writes wsX8_writes) := goodIn_app (gi_q bs_wsX8_needed_in _ [(0, 2), (0, 3), (0, 4), (0, 5)] rfl) ggX8_needed_X8_writes
set_option maxRecDepth 20000 in
theorem ggX8_needed_X8_reads : GoodIn wsX8_needed wsX8_reads := goodIn_k (gi_q bs_wsX8_needed_in _ [(0, 14)] rfl) (goodIn_app (gi_q bs_wsX8_needed_in _ [(0, 1), (0, 15), (0, 16)] rfl) (gi_wsX8_needed_1))
set_option maxRecDepth 20000 in
theorem gX8_needed_X8_reads : GoodIn wsX8_needed (wsV RX8 183 RX8 yX8_reads wsX8_reads) := goodIn_app (gi_q bs_wsX8_needed_in _ [(0, 11), (0, 12), (0, 13), (0, 5)] rfl) ggX8_needed_X8_reads
set_option maxRecDepth 20000 in
theorem ggX8_needed_X8_canTrap : GoodIn wsX8_needed wsX8_canTrap := goodIn_k (gi_q bs_wsX8_needed_in _ [(0, 19)] rfl) (gi_q bs_wsX8_needed_in _ [] rfl)
set_option maxRecDepth 20000 in
theorem gX8_needed_X8_canTrap : GoodIn wsX8_needed (va_wsS RX8 175 yX8_canTrap wsX8_canTrap) := goodIn_app (gi_q bs_wsX8_needed_in _ [(0, 17), (0, 18), (0, 5)] rfl) ggX8_needed_X8_canTrap
def fw_dX8_needed_0 : List (Nat × Instr × Nat) := [(0, .aload_n 0, 1), (1, .iload_n 1, 1), (2, .invokevirtual 180, 3), (5, .aload_n 0, 1), (6, .iload_n 2, 1), (7, .invokevirtual 183, 3), (10, .aload_n 0, 1), (11, .iload_n 2, 1), (12, .invokevirtual 180, 3), (15, .ior, 1), (16, .iand, 1), (17, .ifCond .ne 46, 3), (20, .aload_n 0, 1), (21, .getfield 29, 3), (24, .iload_n 1, 1), (25, .iaload, 1), (26, .bipush 9, 2), (28, .if_icmp .eq 35, 3), (31, .aload_n 0, 1), (32, .getfield 29, 3)]
theorem fw_dX8_needed_0_c : fchk 0 (cX8_needed.data.toList.drop 0) fw_dX8_needed_0 = true := by decide +kernel
theorem dX8_needed_0 : Eq (decode cX8_needed 0) (Except.ok (Instr.aload_n 0, 1)) := fE fw_dX8_needed_0_c 0 rfl
theorem dX8_needed_1 : Eq (decode cX8_needed 1) (Except.ok (Instr.iload_n 1, 1)) := fE fw_dX8_needed_0_c 1 rfl
theorem dX8_needed_2 : Eq (decode cX8_needed 2) (Except.ok (Instr.invokevirtual 180, 3)) := fE fw_dX8_needed_0_c 2 rfl
theorem dX8_needed_5 : Eq (decode cX8_needed 5) (Except.ok (Instr.aload_n 0, 1)) := fE fw_dX8_needed_0_c 3 rfl
theorem dX8_needed_6 : Eq (decode cX8_needed 6) (Except.ok (Instr.iload_n 2, 1)) := fE fw_dX8_needed_0_c 4 rfl
theorem dX8_needed_7 : Eq (decode cX8_needed 7) (Except.ok (Instr.invokevirtual 183, 3)) := fE fw_dX8_needed_0_c 5 rfl
theorem dX8_needed_10 : Eq (decode cX8_needed 10) (Except.ok (Instr.aload_n 0, 1)) := fE fw_dX8_needed_0_c 6 rfl
theorem dX8_needed_11 : Eq (decode cX8_needed 11) (Except.ok (Instr.iload_n 2, 1)) := fE fw_dX8_needed_0_c 7 rfl
theorem dX8_needed_12 : Eq (decode cX8_needed 12) (Except.ok (Instr.invokevirtual 180, 3)) := fE fw_dX8_needed_0_c 8 rfl
theorem dX8_needed_15 : Eq (decode cX8_needed 15) (Except.ok (Instr.ior, 1)) := fE fw_dX8_needed_0_c 9 rfl
theorem dX8_needed_16 : Eq (decode cX8_needed 16) (Except.ok (Instr.iand, 1)) := fE fw_dX8_needed_0_c 10 rfl
theorem dX8_needed_17 : Eq (decode cX8_needed 17) (Except.ok (Instr.ifCond .ne 46, 3)) := fE fw_dX8_needed_0_c 11 rfl
theorem dX8_needed_20 : Eq (decode cX8_needed 20) (Except.ok (Instr.aload_n 0, 1)) := fE fw_dX8_needed_0_c 12 rfl
theorem dX8_needed_21 : Eq (decode cX8_needed 21) (Except.ok (Instr.getfield 29, 3)) := fE fw_dX8_needed_0_c 13 rfl
theorem dX8_needed_24 : Eq (decode cX8_needed 24) (Except.ok (Instr.iload_n 1, 1)) := fE fw_dX8_needed_0_c 14 rfl
theorem dX8_needed_25 : Eq (decode cX8_needed 25) (Except.ok (Instr.iaload, 1)) := fE fw_dX8_needed_0_c 15 rfl
theorem dX8_needed_26 : Eq (decode cX8_needed 26) (Except.ok (Instr.bipush 9, 2)) := fE fw_dX8_needed_0_c 16 rfl
theorem dX8_needed_28 : Eq (decode cX8_needed 28) (Except.ok (Instr.if_icmp .eq 35, 3)) := fE fw_dX8_needed_0_c 17 rfl
theorem dX8_needed_31 : Eq (decode cX8_needed 31) (Except.ok (Instr.aload_n 0, 1)) := fE fw_dX8_needed_0_c 18 rfl
theorem dX8_needed_32 : Eq (decode cX8_needed 32) (Except.ok (Instr.getfield 29, 3)) := fE fw_dX8_needed_0_c 19 rfl
def fw_dX8_needed_35 : List (Nat × Instr × Nat) := [(35, .iload_n 1, 1), (36, .iaload, 1), (37, .invokestatic 175, 3), (40, .ifCond .eq 25, 3), (43, .aload_n 0, 1), (44, .iload_n 2, 1), (45, .invokevirtual 180, 3), (48, .ifCond .ne 15, 3), (51, .aload_n 0, 1), (52, .getfield 29, 3), (55, .iload_n 2, 1), (56, .iaload, 1), (57, .invokestatic 175, 3), (60, .ifCond .eq 5, 3), (63, .iconst 2, 1), (64, .ireturn, 1), (65, .aload_n 0, 1), (66, .iload_n 1, 1), (67, .invokevirtual 183, 3), (70, .aload_n 0, 1)]
theorem fw_dX8_needed_35_c : fchk 35 (cX8_needed.data.toList.drop 35) fw_dX8_needed_35 = true := by decide +kernel
theorem dX8_needed_35 : Eq (decode cX8_needed 35) (Except.ok (Instr.iload_n 1, 1)) := fE fw_dX8_needed_35_c 0 rfl
theorem dX8_needed_36 : Eq (decode cX8_needed 36) (Except.ok (Instr.iaload, 1)) := fE fw_dX8_needed_35_c 1 rfl
theorem dX8_needed_37 : Eq (decode cX8_needed 37) (Except.ok (Instr.invokestatic 175, 3)) := fE fw_dX8_needed_35_c 2 rfl
theorem dX8_needed_40 : Eq (decode cX8_needed 40) (Except.ok (Instr.ifCond .eq 25, 3)) := fE fw_dX8_needed_35_c 3 rfl
theorem dX8_needed_43 : Eq (decode cX8_needed 43) (Except.ok (Instr.aload_n 0, 1)) := fE fw_dX8_needed_35_c 4 rfl
theorem dX8_needed_44 : Eq (decode cX8_needed 44) (Except.ok (Instr.iload_n 2, 1)) := fE fw_dX8_needed_35_c 5 rfl
theorem dX8_needed_45 : Eq (decode cX8_needed 45) (Except.ok (Instr.invokevirtual 180, 3)) := fE fw_dX8_needed_35_c 6 rfl
theorem dX8_needed_48 : Eq (decode cX8_needed 48) (Except.ok (Instr.ifCond .ne 15, 3)) := fE fw_dX8_needed_35_c 7 rfl
theorem dX8_needed_51 : Eq (decode cX8_needed 51) (Except.ok (Instr.aload_n 0, 1)) := fE fw_dX8_needed_35_c 8 rfl
theorem dX8_needed_52 : Eq (decode cX8_needed 52) (Except.ok (Instr.getfield 29, 3)) := fE fw_dX8_needed_35_c 9 rfl
theorem dX8_needed_55 : Eq (decode cX8_needed 55) (Except.ok (Instr.iload_n 2, 1)) := fE fw_dX8_needed_35_c 10 rfl
theorem dX8_needed_56 : Eq (decode cX8_needed 56) (Except.ok (Instr.iaload, 1)) := fE fw_dX8_needed_35_c 11 rfl
theorem dX8_needed_57 : Eq (decode cX8_needed 57) (Except.ok (Instr.invokestatic 175, 3)) := fE fw_dX8_needed_35_c 12 rfl
theorem dX8_needed_60 : Eq (decode cX8_needed 60) (Except.ok (Instr.ifCond .eq 5, 3)) := fE fw_dX8_needed_35_c 13 rfl
theorem dX8_needed_63 : Eq (decode cX8_needed 63) (Except.ok (Instr.iconst 2, 1)) := fE fw_dX8_needed_35_c 14 rfl
theorem dX8_needed_64 : Eq (decode cX8_needed 64) (Except.ok (Instr.ireturn, 1)) := fE fw_dX8_needed_35_c 15 rfl
theorem dX8_needed_65 : Eq (decode cX8_needed 65) (Except.ok (Instr.aload_n 0, 1)) := fE fw_dX8_needed_35_c 16 rfl
theorem dX8_needed_66 : Eq (decode cX8_needed 66) (Except.ok (Instr.iload_n 1, 1)) := fE fw_dX8_needed_35_c 17 rfl
theorem dX8_needed_67 : Eq (decode cX8_needed 67) (Except.ok (Instr.invokevirtual 183, 3)) := fE fw_dX8_needed_35_c 18 rfl
theorem dX8_needed_70 : Eq (decode cX8_needed 70) (Except.ok (Instr.aload_n 0, 1)) := fE fw_dX8_needed_35_c 19 rfl
def fw_dX8_needed_71 : List (Nat × Instr × Nat) := [(71, .iload_n 2, 1), (72, .invokevirtual 180, 3), (75, .iand, 1), (76, .ifCond .ne 14, 3), (79, .aload_n 0, 1), (80, .getfield 29, 3), (83, .iload_n 2, 1), (84, .iaload, 1), (85, .bipush 9, 2), (87, .if_icmp .ne 7, 3), (90, .iconst 1, 1), (91, .goto 4, 3), (94, .iconst 0, 1), (95, .ireturn, 1)]
theorem fw_dX8_needed_71_c : fchk 71 (cX8_needed.data.toList.drop 71) fw_dX8_needed_71 = true := by decide +kernel
theorem dX8_needed_71 : Eq (decode cX8_needed 71) (Except.ok (Instr.iload_n 2, 1)) := fE fw_dX8_needed_71_c 0 rfl
theorem dX8_needed_72 : Eq (decode cX8_needed 72) (Except.ok (Instr.invokevirtual 180, 3)) := fE fw_dX8_needed_71_c 1 rfl
theorem dX8_needed_75 : Eq (decode cX8_needed 75) (Except.ok (Instr.iand, 1)) := fE fw_dX8_needed_71_c 2 rfl
theorem dX8_needed_76 : Eq (decode cX8_needed 76) (Except.ok (Instr.ifCond .ne 14, 3)) := fE fw_dX8_needed_71_c 3 rfl
theorem dX8_needed_79 : Eq (decode cX8_needed 79) (Except.ok (Instr.aload_n 0, 1)) := fE fw_dX8_needed_71_c 4 rfl
theorem dX8_needed_80 : Eq (decode cX8_needed 80) (Except.ok (Instr.getfield 29, 3)) := fE fw_dX8_needed_71_c 5 rfl
theorem dX8_needed_83 : Eq (decode cX8_needed 83) (Except.ok (Instr.iload_n 2, 1)) := fE fw_dX8_needed_71_c 6 rfl
theorem dX8_needed_84 : Eq (decode cX8_needed 84) (Except.ok (Instr.iaload, 1)) := fE fw_dX8_needed_71_c 7 rfl
theorem dX8_needed_85 : Eq (decode cX8_needed 85) (Except.ok (Instr.bipush 9, 2)) := fE fw_dX8_needed_71_c 8 rfl
theorem dX8_needed_87 : Eq (decode cX8_needed 87) (Except.ok (Instr.if_icmp .ne 7, 3)) := fE fw_dX8_needed_71_c 9 rfl
theorem dX8_needed_90 : Eq (decode cX8_needed 90) (Except.ok (Instr.iconst 1, 1)) := fE fw_dX8_needed_71_c 10 rfl
theorem dX8_needed_91 : Eq (decode cX8_needed 91) (Except.ok (Instr.goto 4, 3)) := fE fw_dX8_needed_71_c 11 rfl
theorem dX8_needed_94 : Eq (decode cX8_needed 94) (Except.ok (Instr.iconst 0, 1)) := fE fw_dX8_needed_71_c 12 rfl
theorem dX8_needed_95 : Eq (decode cX8_needed 95) (Except.ok (Instr.ireturn, 1)) := fE fw_dX8_needed_71_c 13 rfl
set_option maxRecDepth 20000 in
theorem gi_wsX8_needs_0 : GoodIn wsX8_needs wsX8_needs_r1 := goodIn_sub (fun w h => List.mem_cons_of_mem _ (List.mem_append_left _ (List.mem_append_left _ h))) (by decide +kernel)
set_option maxRecDepth 20000 in
theorem gi_wsX8_needs_1 : GoodIn wsX8_needs wsX8_needs_r2 := goodIn_sub (fun w h => List.mem_cons_of_mem _ (List.mem_append_left _ (List.mem_append_right _ h))) (by decide +kernel)
set_option maxRecDepth 20000 in
theorem gi_wsX8_needs_2 : GoodIn wsX8_needs wsX80 := goodIn_sub (fun w h => List.mem_cons_of_mem _ (List.mem_append_right _ h)) (by decide +kernel)
def bs_wsX8_needs : List (List Cond) := [wsX8_needs_r1, wsX8_needs_r2, wsX80]
theorem bs_wsX8_needs_in : ∀ b ∈ bs_wsX8_needs, GoodIn wsX8_needs b := List.forall_mem_cons.mpr ⟨gi_wsX8_needs_0, List.forall_mem_cons.mpr ⟨gi_wsX8_needs_1, List.forall_mem_cons.mpr ⟨gi_wsX8_needs_2, (fun _ h => absurd h List.not_mem_nil)⟩⟩⟩
set_option maxRecDepth 20000 in
theorem ggX8_needs_X8_isAct : GoodIn wsX8_needs wsX8_isAct := goodIn_k (gi_q bs_wsX8_needs_in _ [(0, 4)] rfl) (goodIn_app (gi_q bs_wsX8_needs_in _ [(0, 5), (0, 6), (0, 7), (0, 3), (0, 8)] rfl) (gi_wsX8_needs_2))
set_option maxRecDepth 20000 in
theorem gX8_needs_X8_isAct : GoodIn wsX8_needs (wsV RX8 168 RX8 yX8_isAct wsX8_isAct) := goodIn_app (gi_q bs_wsX8_needs_in _ [(0, 0), (0, 1), (0, 2), (0, 3)] rfl) ggX8_needs_X8_isAct
set_option maxRecDepth 20000 in
theorem ggX8_needs_X8_no : GoodIn wsX8_needs wsX8_no := goodIn_k (gi_q bs_wsX8_needs_in _ [(0, 12)] rfl) (goodIn_app (gi_q bs_wsX8_needs_in _ [(0, 13)] rfl) (gi_wsX8_needs_2))
set_option maxRecDepth 20000 in
theorem gX8_needs_X8_no : GoodIn wsX8_needs (wsV RX8 122 RX8 yX8_no wsX8_no) := goodIn_app (gi_q bs_wsX8_needs_in _ [(0, 9), (0, 10), (0, 11), (0, 3)] rfl) ggX8_needs_X8_no
set_option maxRecDepth 20000 in
theorem ggX8_needs_X8_needed : GoodIn wsX8_needs wsX8_needed := goodIn_k (gi_q bs_wsX8_needs_in _ [(0, 17)] rfl) (goodIn_app (gi_q bs_wsX8_needs_in _ [(0, 18), (0, 19), (0, 20), (0, 21), (0, 3), (0, 22), (0, 23), (1, 0), (1, 1), (1, 2), (1, 3), (1, 4), (1, 5), (1, 6), (1, 7), (1, 8), (1, 9), (1, 10), (1, 11)] rfl) (gi_wsX8_needs_2))
set_option maxRecDepth 20000 in
theorem gX8_needs_X8_needed : GoodIn wsX8_needs (wsV RX8 186 RX8 yX8_needed wsX8_needed) := goodIn_app (gi_q bs_wsX8_needs_in _ [(0, 14), (0, 15), (0, 16), (0, 3)] rfl) ggX8_needs_X8_needed
def fw_dX8_needs_0 : List (Nat × Instr × Nat) := [(0, .aload_n 0, 1), (1, .iload_n 1, 1), (2, .iload_n 2, 1), (3, .invokevirtual 168, 3), (6, .ifCond .eq 12, 3), (9, .aload_n 0, 1), (10, .iload_n 1, 1), (11, .iload_n 3, 1), (12, .invokevirtual 168, 3), (15, .ifCond .ne 10, 3), (18, .aload_n 0, 1), (19, .bipush (-3), 2), (21, .invokevirtual 122, 3), (24, .ireturn, 1), (25, .iload_n 2, 1), (26, .iload_n 3, 1), (27, .if_icmp .lt 10, 3), (30, .aload_n 0, 1), (31, .bipush (-6), 2), (33, .invokevirtual 122, 3)]
theorem fw_dX8_needs_0_c : fchk 0 (cX8_needs.data.toList.drop 0) fw_dX8_needs_0 = true := by decide +kernel
theorem dX8_needs_0 : Eq (decode cX8_needs 0) (Except.ok (Instr.aload_n 0, 1)) := fE fw_dX8_needs_0_c 0 rfl
theorem dX8_needs_1 : Eq (decode cX8_needs 1) (Except.ok (Instr.iload_n 1, 1)) := fE fw_dX8_needs_0_c 1 rfl
theorem dX8_needs_2 : Eq (decode cX8_needs 2) (Except.ok (Instr.iload_n 2, 1)) := fE fw_dX8_needs_0_c 2 rfl
theorem dX8_needs_3 : Eq (decode cX8_needs 3) (Except.ok (Instr.invokevirtual 168, 3)) := fE fw_dX8_needs_0_c 3 rfl
theorem dX8_needs_6 : Eq (decode cX8_needs 6) (Except.ok (Instr.ifCond .eq 12, 3)) := fE fw_dX8_needs_0_c 4 rfl
theorem dX8_needs_9 : Eq (decode cX8_needs 9) (Except.ok (Instr.aload_n 0, 1)) := fE fw_dX8_needs_0_c 5 rfl
theorem dX8_needs_10 : Eq (decode cX8_needs 10) (Except.ok (Instr.iload_n 1, 1)) := fE fw_dX8_needs_0_c 6 rfl
theorem dX8_needs_11 : Eq (decode cX8_needs 11) (Except.ok (Instr.iload_n 3, 1)) := fE fw_dX8_needs_0_c 7 rfl
theorem dX8_needs_12 : Eq (decode cX8_needs 12) (Except.ok (Instr.invokevirtual 168, 3)) := fE fw_dX8_needs_0_c 8 rfl
theorem dX8_needs_15 : Eq (decode cX8_needs 15) (Except.ok (Instr.ifCond .ne 10, 3)) := fE fw_dX8_needs_0_c 9 rfl
theorem dX8_needs_18 : Eq (decode cX8_needs 18) (Except.ok (Instr.aload_n 0, 1)) := fE fw_dX8_needs_0_c 10 rfl
theorem dX8_needs_19 : Eq (decode cX8_needs 19) (Except.ok (Instr.bipush (-3), 2)) := fE fw_dX8_needs_0_c 11 rfl
theorem dX8_needs_21 : Eq (decode cX8_needs 21) (Except.ok (Instr.invokevirtual 122, 3)) := fE fw_dX8_needs_0_c 12 rfl
theorem dX8_needs_24 : Eq (decode cX8_needs 24) (Except.ok (Instr.ireturn, 1)) := fE fw_dX8_needs_0_c 13 rfl
theorem dX8_needs_25 : Eq (decode cX8_needs 25) (Except.ok (Instr.iload_n 2, 1)) := fE fw_dX8_needs_0_c 14 rfl
theorem dX8_needs_26 : Eq (decode cX8_needs 26) (Except.ok (Instr.iload_n 3, 1)) := fE fw_dX8_needs_0_c 15 rfl
theorem dX8_needs_27 : Eq (decode cX8_needs 27) (Except.ok (Instr.if_icmp .lt 10, 3)) := fE fw_dX8_needs_0_c 16 rfl
theorem dX8_needs_30 : Eq (decode cX8_needs 30) (Except.ok (Instr.aload_n 0, 1)) := fE fw_dX8_needs_0_c 17 rfl
theorem dX8_needs_31 : Eq (decode cX8_needs 31) (Except.ok (Instr.bipush (-6), 2)) := fE fw_dX8_needs_0_c 18 rfl
theorem dX8_needs_33 : Eq (decode cX8_needs 33) (Except.ok (Instr.invokevirtual 122, 3)) := fE fw_dX8_needs_0_c 19 rfl
def fw_dX8_needs_36 : List (Nat × Instr × Nat) := [(36, .ireturn, 1), (37, .aload_n 0, 1), (38, .bipush 10, 2), (40, .iload_n 1, 1), (41, .imul, 1), (42, .iload_n 2, 1), (43, .iadd, 1), (44, .bipush 10, 2), (46, .iload_n 1, 1), (47, .imul, 1), (48, .iload_n 3, 1), (49, .iadd, 1), (50, .invokevirtual 186, 3), (53, .ireturn, 1)]
theorem fw_dX8_needs_36_c : fchk 36 (cX8_needs.data.toList.drop 36) fw_dX8_needs_36 = true := by decide +kernel
theorem dX8_needs_36 : Eq (decode cX8_needs 36) (Except.ok (Instr.ireturn, 1)) := fE fw_dX8_needs_36_c 0 rfl
theorem dX8_needs_37 : Eq (decode cX8_needs 37) (Except.ok (Instr.aload_n 0, 1)) := fE fw_dX8_needs_36_c 1 rfl
theorem dX8_needs_38 : Eq (decode cX8_needs 38) (Except.ok (Instr.bipush 10, 2)) := fE fw_dX8_needs_36_c 2 rfl
theorem dX8_needs_40 : Eq (decode cX8_needs 40) (Except.ok (Instr.iload_n 1, 1)) := fE fw_dX8_needs_36_c 3 rfl
theorem dX8_needs_41 : Eq (decode cX8_needs 41) (Except.ok (Instr.imul, 1)) := fE fw_dX8_needs_36_c 4 rfl
theorem dX8_needs_42 : Eq (decode cX8_needs 42) (Except.ok (Instr.iload_n 2, 1)) := fE fw_dX8_needs_36_c 5 rfl
theorem dX8_needs_43 : Eq (decode cX8_needs 43) (Except.ok (Instr.iadd, 1)) := fE fw_dX8_needs_36_c 6 rfl
theorem dX8_needs_44 : Eq (decode cX8_needs 44) (Except.ok (Instr.bipush 10, 2)) := fE fw_dX8_needs_36_c 7 rfl
theorem dX8_needs_46 : Eq (decode cX8_needs 46) (Except.ok (Instr.iload_n 1, 1)) := fE fw_dX8_needs_36_c 8 rfl
theorem dX8_needs_47 : Eq (decode cX8_needs 47) (Except.ok (Instr.imul, 1)) := fE fw_dX8_needs_36_c 9 rfl
theorem dX8_needs_48 : Eq (decode cX8_needs 48) (Except.ok (Instr.iload_n 3, 1)) := fE fw_dX8_needs_36_c 10 rfl
theorem dX8_needs_49 : Eq (decode cX8_needs 49) (Except.ok (Instr.iadd, 1)) := fE fw_dX8_needs_36_c 11 rfl
theorem dX8_needs_50 : Eq (decode cX8_needs 50) (Except.ok (Instr.invokevirtual 186, 3)) := fE fw_dX8_needs_36_c 12 rfl
theorem dX8_needs_53 : Eq (decode cX8_needs 53) (Except.ok (Instr.ireturn, 1)) := fE fw_dX8_needs_36_c 13 rfl
set_option maxRecDepth 20000 in
theorem gi_wsX8_isWord_0 : GoodIn wsX8_isWord wsX8_isWord := goodIn_sub (fun _ h => h) (by decide +kernel)
set_option maxRecDepth 20000 in
theorem gi_wsX8_isWord_1 : GoodIn wsX8_isWord wsX80 := goodIn_sub (fun w h => List.mem_cons_of_mem _ (List.mem_append_right _ h)) (by decide +kernel)
def bs_wsX8_isWord : List (List Cond) := [wsX8_isWord, wsX80]
theorem bs_wsX8_isWord_in : ∀ b ∈ bs_wsX8_isWord, GoodIn wsX8_isWord b := List.forall_mem_cons.mpr ⟨gi_wsX8_isWord_0, List.forall_mem_cons.mpr ⟨gi_wsX8_isWord_1, (fun _ h => absurd h List.not_mem_nil)⟩⟩
set_option maxRecDepth 20000 in
theorem ggX8_isWord_X8_partOf : GoodIn wsX8_isWord wsX8_partOf := goodIn_k (gi_q bs_wsX8_isWord_in _ [(0, 9)] rfl) (gi_q bs_wsX8_isWord_in _ [] rfl)
set_option maxRecDepth 20000 in
theorem gX8_isWord_X8_partOf : GoodIn wsX8_isWord (va_wsS RX8 172 yX8_partOf wsX8_partOf) := goodIn_app (gi_q bs_wsX8_isWord_in _ [(0, 6), (0, 7), (0, 8)] rfl) ggX8_isWord_X8_partOf
def fw_dX8_isWord_0 : List (Nat × Instr × Nat) := [(0, .iconst 0, 1), (1, .istore 4, 2), (3, .iconst 0, 1), (4, .istore 5, 2), (6, .iconst 0, 1), (7, .istore 6, 2), (9, .iload 6, 2), (11, .aload_n 0, 1), (12, .getfield 41, 3), (15, .iload_n 1, 1), (16, .iaload, 1), (17, .if_icmp .ge 103, 3), (20, .iload_n 3, 1), (21, .iload 6, 2), (23, .ishr, 1), (24, .iconst 1, 1), (25, .iand, 1), (26, .ifCond .ne 6, 3), (29, .goto 85, 3), (32, .aload_n 0, 1)]
theorem fw_dX8_isWord_0_c : fchk 0 (cX8_isWord.data.toList.drop 0) fw_dX8_isWord_0 = true := by decide +kernel
theorem dX8_isWord_0 : Eq (decode cX8_isWord 0) (Except.ok (Instr.iconst 0, 1)) := fE fw_dX8_isWord_0_c 0 rfl
theorem dX8_isWord_1 : Eq (decode cX8_isWord 1) (Except.ok (Instr.istore 4, 2)) := fE fw_dX8_isWord_0_c 1 rfl
theorem dX8_isWord_3 : Eq (decode cX8_isWord 3) (Except.ok (Instr.iconst 0, 1)) := fE fw_dX8_isWord_0_c 2 rfl
theorem dX8_isWord_4 : Eq (decode cX8_isWord 4) (Except.ok (Instr.istore 5, 2)) := fE fw_dX8_isWord_0_c 3 rfl
theorem dX8_isWord_6 : Eq (decode cX8_isWord 6) (Except.ok (Instr.iconst 0, 1)) := fE fw_dX8_isWord_0_c 4 rfl
theorem dX8_isWord_7 : Eq (decode cX8_isWord 7) (Except.ok (Instr.istore 6, 2)) := fE fw_dX8_isWord_0_c 5 rfl
theorem dX8_isWord_9 : Eq (decode cX8_isWord 9) (Except.ok (Instr.iload 6, 2)) := fE fw_dX8_isWord_0_c 6 rfl
theorem dX8_isWord_11 : Eq (decode cX8_isWord 11) (Except.ok (Instr.aload_n 0, 1)) := fE fw_dX8_isWord_0_c 7 rfl
theorem dX8_isWord_12 : Eq (decode cX8_isWord 12) (Except.ok (Instr.getfield 41, 3)) := fE fw_dX8_isWord_0_c 8 rfl
theorem dX8_isWord_15 : Eq (decode cX8_isWord 15) (Except.ok (Instr.iload_n 1, 1)) := fE fw_dX8_isWord_0_c 9 rfl
theorem dX8_isWord_16 : Eq (decode cX8_isWord 16) (Except.ok (Instr.iaload, 1)) := fE fw_dX8_isWord_0_c 10 rfl
theorem dX8_isWord_17 : Eq (decode cX8_isWord 17) (Except.ok (Instr.if_icmp .ge 103, 3)) := fE fw_dX8_isWord_0_c 11 rfl
theorem dX8_isWord_20 : Eq (decode cX8_isWord 20) (Except.ok (Instr.iload_n 3, 1)) := fE fw_dX8_isWord_0_c 12 rfl
theorem dX8_isWord_21 : Eq (decode cX8_isWord 21) (Except.ok (Instr.iload 6, 2)) := fE fw_dX8_isWord_0_c 13 rfl
theorem dX8_isWord_23 : Eq (decode cX8_isWord 23) (Except.ok (Instr.ishr, 1)) := fE fw_dX8_isWord_0_c 14 rfl
theorem dX8_isWord_24 : Eq (decode cX8_isWord 24) (Except.ok (Instr.iconst 1, 1)) := fE fw_dX8_isWord_0_c 15 rfl
theorem dX8_isWord_25 : Eq (decode cX8_isWord 25) (Except.ok (Instr.iand, 1)) := fE fw_dX8_isWord_0_c 16 rfl
theorem dX8_isWord_26 : Eq (decode cX8_isWord 26) (Except.ok (Instr.ifCond .ne 6, 3)) := fE fw_dX8_isWord_0_c 17 rfl
theorem dX8_isWord_29 : Eq (decode cX8_isWord 29) (Except.ok (Instr.goto 85, 3)) := fE fw_dX8_isWord_0_c 18 rfl
theorem dX8_isWord_32 : Eq (decode cX8_isWord 32) (Except.ok (Instr.aload_n 0, 1)) := fE fw_dX8_isWord_0_c 19 rfl
def fw_dX8_isWord_33 : List (Nat × Instr × Nat) := [(33, .getfield 29, 3), (36, .bipush 10, 2), (38, .iload_n 1, 1), (39, .imul, 1), (40, .iload 6, 2), (42, .iadd, 1), (43, .iaload, 1), (44, .invokestatic 172, 3), (47, .istore 7, 2), (49, .iload 7, 2), (51, .ifCond .ne 9, 3)]
theorem fw_dX8_isWord_33_c : fchk 33 (cX8_isWord.data.toList.drop 33) fw_dX8_isWord_33 = true := by decide +kernel
theorem dX8_isWord_33 : Eq (decode cX8_isWord 33) (Except.ok (Instr.getfield 29, 3)) := fE fw_dX8_isWord_33_c 0 rfl
theorem dX8_isWord_36 : Eq (decode cX8_isWord 36) (Except.ok (Instr.bipush 10, 2)) := fE fw_dX8_isWord_33_c 1 rfl
theorem dX8_isWord_38 : Eq (decode cX8_isWord 38) (Except.ok (Instr.iload_n 1, 1)) := fE fw_dX8_isWord_33_c 2 rfl
theorem dX8_isWord_39 : Eq (decode cX8_isWord 39) (Except.ok (Instr.imul, 1)) := fE fw_dX8_isWord_33_c 3 rfl
theorem dX8_isWord_40 : Eq (decode cX8_isWord 40) (Except.ok (Instr.iload 6, 2)) := fE fw_dX8_isWord_33_c 4 rfl
theorem dX8_isWord_42 : Eq (decode cX8_isWord 42) (Except.ok (Instr.iadd, 1)) := fE fw_dX8_isWord_33_c 5 rfl
theorem dX8_isWord_43 : Eq (decode cX8_isWord 43) (Except.ok (Instr.iaload, 1)) := fE fw_dX8_isWord_33_c 6 rfl
theorem dX8_isWord_44 : Eq (decode cX8_isWord 44) (Except.ok (Instr.invokestatic 172, 3)) := fE fw_dX8_isWord_33_c 7 rfl
theorem dX8_isWord_47 : Eq (decode cX8_isWord 47) (Except.ok (Instr.istore 7, 2)) := fE fw_dX8_isWord_33_c 8 rfl
theorem dX8_isWord_49 : Eq (decode cX8_isWord 49) (Except.ok (Instr.iload 7, 2)) := fE fw_dX8_isWord_33_c 9 rfl
theorem dX8_isWord_51 : Eq (decode cX8_isWord 51) (Except.ok (Instr.ifCond .ne 9, 3)) := fE fw_dX8_isWord_33_c 10 rfl
theorem dX8_isWord_54 : decode cX8_isWord 54 = .ok (.iinc 4 1, 3) := by decide +kernel
def fw_dX8_isWord_57 : List (Nat × Instr × Nat) := [(57, .goto 25, 3), (60, .iload 5, 2), (62, .iload 7, 2), (64, .ishr, 1), (65, .iconst 1, 1), (66, .iand, 1), (67, .iconst 1, 1), (68, .if_icmp .ne 5, 3), (71, .iconst 0, 1), (72, .ireturn, 1), (73, .iload 5, 2), (75, .iconst 1, 1), (76, .iload 7, 2), (78, .ishl, 1), (79, .ior, 1), (80, .istore 5, 2), (82, .aload_n 0, 1), (83, .getfield 60, 3), (86, .iload 6, 2), (88, .iaload, 1)]
theorem fw_dX8_isWord_57_c : fchk 57 (cX8_isWord.data.toList.drop 57) fw_dX8_isWord_57 = true := by decide +kernel
theorem dX8_isWord_57 : Eq (decode cX8_isWord 57) (Except.ok (Instr.goto 25, 3)) := fE fw_dX8_isWord_57_c 0 rfl
theorem dX8_isWord_60 : Eq (decode cX8_isWord 60) (Except.ok (Instr.iload 5, 2)) := fE fw_dX8_isWord_57_c 1 rfl
theorem dX8_isWord_62 : Eq (decode cX8_isWord 62) (Except.ok (Instr.iload 7, 2)) := fE fw_dX8_isWord_57_c 2 rfl
theorem dX8_isWord_64 : Eq (decode cX8_isWord 64) (Except.ok (Instr.ishr, 1)) := fE fw_dX8_isWord_57_c 3 rfl
theorem dX8_isWord_65 : Eq (decode cX8_isWord 65) (Except.ok (Instr.iconst 1, 1)) := fE fw_dX8_isWord_57_c 4 rfl
theorem dX8_isWord_66 : Eq (decode cX8_isWord 66) (Except.ok (Instr.iand, 1)) := fE fw_dX8_isWord_57_c 5 rfl
theorem dX8_isWord_67 : Eq (decode cX8_isWord 67) (Except.ok (Instr.iconst 1, 1)) := fE fw_dX8_isWord_57_c 6 rfl
theorem dX8_isWord_68 : Eq (decode cX8_isWord 68) (Except.ok (Instr.if_icmp .ne 5, 3)) := fE fw_dX8_isWord_57_c 7 rfl
theorem dX8_isWord_71 : Eq (decode cX8_isWord 71) (Except.ok (Instr.iconst 0, 1)) := fE fw_dX8_isWord_57_c 8 rfl
theorem dX8_isWord_72 : Eq (decode cX8_isWord 72) (Except.ok (Instr.ireturn, 1)) := fE fw_dX8_isWord_57_c 9 rfl
theorem dX8_isWord_73 : Eq (decode cX8_isWord 73) (Except.ok (Instr.iload 5, 2)) := fE fw_dX8_isWord_57_c 10 rfl
theorem dX8_isWord_75 : Eq (decode cX8_isWord 75) (Except.ok (Instr.iconst 1, 1)) := fE fw_dX8_isWord_57_c 11 rfl
theorem dX8_isWord_76 : Eq (decode cX8_isWord 76) (Except.ok (Instr.iload 7, 2)) := fE fw_dX8_isWord_57_c 12 rfl
theorem dX8_isWord_78 : Eq (decode cX8_isWord 78) (Except.ok (Instr.ishl, 1)) := fE fw_dX8_isWord_57_c 13 rfl
theorem dX8_isWord_79 : Eq (decode cX8_isWord 79) (Except.ok (Instr.ior, 1)) := fE fw_dX8_isWord_57_c 14 rfl
theorem dX8_isWord_80 : Eq (decode cX8_isWord 80) (Except.ok (Instr.istore 5, 2)) := fE fw_dX8_isWord_57_c 15 rfl
theorem dX8_isWord_82 : Eq (decode cX8_isWord 82) (Except.ok (Instr.aload_n 0, 1)) := fE fw_dX8_isWord_57_c 16 rfl
theorem dX8_isWord_83 : Eq (decode cX8_isWord 83) (Except.ok (Instr.getfield 60, 3)) := fE fw_dX8_isWord_57_c 17 rfl
theorem dX8_isWord_86 : Eq (decode cX8_isWord 86) (Except.ok (Instr.iload 6, 2)) := fE fw_dX8_isWord_57_c 18 rfl
theorem dX8_isWord_88 : Eq (decode cX8_isWord 88) (Except.ok (Instr.iaload, 1)) := fE fw_dX8_isWord_57_c 19 rfl
def fw_dX8_isWord_89 : List (Nat × Instr × Nat) := [(89, .iload_n 2, 1), (90, .iconst (-1), 1), (91, .ixor, 1), (92, .iand, 1), (93, .ifCond .ne 19, 3), (96, .aload_n 0, 1), (97, .getfield 63, 3), (100, .iload 6, 2), (102, .iaload, 1), (103, .iload_n 2, 1), (104, .iload_n 3, 1), (105, .ior, 1), (106, .iconst (-1), 1), (107, .ixor, 1), (108, .iand, 1), (109, .ifCond .eq 5, 3), (112, .iconst 0, 1), (113, .ireturn, 1)]
theorem fw_dX8_isWord_89_c : fchk 89 (cX8_isWord.data.toList.drop 89) fw_dX8_isWord_89 = true := by decide +kernel
theorem dX8_isWord_89 : Eq (decode cX8_isWord 89) (Except.ok (Instr.iload_n 2, 1)) := fE fw_dX8_isWord_89_c 0 rfl
theorem dX8_isWord_90 : Eq (decode cX8_isWord 90) (Except.ok (Instr.iconst (-1), 1)) := fE fw_dX8_isWord_89_c 1 rfl
theorem dX8_isWord_91 : Eq (decode cX8_isWord 91) (Except.ok (Instr.ixor, 1)) := fE fw_dX8_isWord_89_c 2 rfl
theorem dX8_isWord_92 : Eq (decode cX8_isWord 92) (Except.ok (Instr.iand, 1)) := fE fw_dX8_isWord_89_c 3 rfl
theorem dX8_isWord_93 : Eq (decode cX8_isWord 93) (Except.ok (Instr.ifCond .ne 19, 3)) := fE fw_dX8_isWord_89_c 4 rfl
theorem dX8_isWord_96 : Eq (decode cX8_isWord 96) (Except.ok (Instr.aload_n 0, 1)) := fE fw_dX8_isWord_89_c 5 rfl
theorem dX8_isWord_97 : Eq (decode cX8_isWord 97) (Except.ok (Instr.getfield 63, 3)) := fE fw_dX8_isWord_89_c 6 rfl
theorem dX8_isWord_100 : Eq (decode cX8_isWord 100) (Except.ok (Instr.iload 6, 2)) := fE fw_dX8_isWord_89_c 7 rfl
theorem dX8_isWord_102 : Eq (decode cX8_isWord 102) (Except.ok (Instr.iaload, 1)) := fE fw_dX8_isWord_89_c 8 rfl
theorem dX8_isWord_103 : Eq (decode cX8_isWord 103) (Except.ok (Instr.iload_n 2, 1)) := fE fw_dX8_isWord_89_c 9 rfl
theorem dX8_isWord_104 : Eq (decode cX8_isWord 104) (Except.ok (Instr.iload_n 3, 1)) := fE fw_dX8_isWord_89_c 10 rfl
theorem dX8_isWord_105 : Eq (decode cX8_isWord 105) (Except.ok (Instr.ior, 1)) := fE fw_dX8_isWord_89_c 11 rfl
theorem dX8_isWord_106 : Eq (decode cX8_isWord 106) (Except.ok (Instr.iconst (-1), 1)) := fE fw_dX8_isWord_89_c 12 rfl
theorem dX8_isWord_107 : Eq (decode cX8_isWord 107) (Except.ok (Instr.ixor, 1)) := fE fw_dX8_isWord_89_c 13 rfl
theorem dX8_isWord_108 : Eq (decode cX8_isWord 108) (Except.ok (Instr.iand, 1)) := fE fw_dX8_isWord_89_c 14 rfl
theorem dX8_isWord_109 : Eq (decode cX8_isWord 109) (Except.ok (Instr.ifCond .eq 5, 3)) := fE fw_dX8_isWord_89_c 15 rfl
theorem dX8_isWord_112 : Eq (decode cX8_isWord 112) (Except.ok (Instr.iconst 0, 1)) := fE fw_dX8_isWord_89_c 16 rfl
theorem dX8_isWord_113 : Eq (decode cX8_isWord 113) (Except.ok (Instr.ireturn, 1)) := fE fw_dX8_isWord_89_c 17 rfl
theorem dX8_isWord_114 : decode cX8_isWord 114 = .ok (.iinc 6 1, 3) := by decide +kernel
def fw_dX8_isWord_117 : List (Nat × Instr × Nat) := [(117, .goto (-108), 3), (120, .iload 4, 2), (122, .aload_n 0, 1), (123, .getfield 44, 3), (126, .if_icmp .gt 7, 3), (129, .iconst 1, 1), (130, .goto 4, 3), (133, .iconst 0, 1), (134, .ireturn, 1)]
theorem fw_dX8_isWord_117_c : fchk 117 (cX8_isWord.data.toList.drop 117) fw_dX8_isWord_117 = true := by decide +kernel
theorem dX8_isWord_117 : Eq (decode cX8_isWord 117) (Except.ok (Instr.goto (-108), 3)) := fE fw_dX8_isWord_117_c 0 rfl
theorem dX8_isWord_120 : Eq (decode cX8_isWord 120) (Except.ok (Instr.iload 4, 2)) := fE fw_dX8_isWord_117_c 1 rfl
theorem dX8_isWord_122 : Eq (decode cX8_isWord 122) (Except.ok (Instr.aload_n 0, 1)) := fE fw_dX8_isWord_117_c 2 rfl
theorem dX8_isWord_123 : Eq (decode cX8_isWord 123) (Except.ok (Instr.getfield 44, 3)) := fE fw_dX8_isWord_117_c 3 rfl
theorem dX8_isWord_126 : Eq (decode cX8_isWord 126) (Except.ok (Instr.if_icmp .gt 7, 3)) := fE fw_dX8_isWord_117_c 4 rfl
theorem dX8_isWord_129 : Eq (decode cX8_isWord 129) (Except.ok (Instr.iconst 1, 1)) := fE fw_dX8_isWord_117_c 5 rfl
theorem dX8_isWord_130 : Eq (decode cX8_isWord 130) (Except.ok (Instr.goto 4, 3)) := fE fw_dX8_isWord_117_c 6 rfl
theorem dX8_isWord_133 : Eq (decode cX8_isWord 133) (Except.ok (Instr.iconst 0, 1)) := fE fw_dX8_isWord_117_c 7 rfl
theorem dX8_isWord_134 : Eq (decode cX8_isWord 134) (Except.ok (Instr.ireturn, 1)) := fE fw_dX8_isWord_117_c 8 rfl
set_option maxRecDepth 20000 in
theorem gi_wsX8_packs_0 : GoodIn wsX8_packs wsX8_packs_r1 := goodIn_sub (fun w h => List.mem_cons_of_mem _ (List.mem_append_left _ (List.mem_append_left _ h))) (by decide +kernel)
set_option maxRecDepth 20000 in
theorem gi_wsX8_packs_1 : GoodIn wsX8_packs wsX8_packs_r2 := goodIn_sub (fun w h => List.mem_cons_of_mem _ (List.mem_append_left _ (List.mem_append_right _ h))) (by decide +kernel)
set_option maxRecDepth 20000 in
theorem gi_wsX8_packs_2 : GoodIn wsX8_packs wsX80 := goodIn_sub (fun w h => List.mem_cons_of_mem _ (List.mem_append_right _ h)) (by decide +kernel)
def bs_wsX8_packs : List (List Cond) := [wsX8_packs_r1, wsX8_packs_r2, wsX80]
theorem bs_wsX8_packs_in : ∀ b ∈ bs_wsX8_packs, GoodIn wsX8_packs b := List.forall_mem_cons.mpr ⟨gi_wsX8_packs_0, List.forall_mem_cons.mpr ⟨gi_wsX8_packs_1, List.forall_mem_cons.mpr ⟨gi_wsX8_packs_2, (fun _ h => absurd h List.not_mem_nil)⟩⟩⟩
set_option maxRecDepth 20000 in
theorem ggX8_packs_X8_needed : GoodIn wsX8_packs wsX8_needed := goodIn_k (gi_q bs_wsX8_packs_in _ [(0, 11)] rfl) (goodIn_app (gi_q bs_wsX8_packs_in _ [(0, 12), (0, 13), (0, 14), (0, 15), (0, 10), (0, 16), (0, 17), (0, 18), (0, 19), (0, 20), (0, 21), (0, 22), (0, 23), (1, 0), (1, 1), (1, 2), (1, 3), (1, 4), (1, 5)] rfl) (gi_wsX8_packs_2))
set_option maxRecDepth 20000 in
theorem gX8_packs_X8_needed : GoodIn wsX8_packs (wsV RX8 186 RX8 yX8_needed wsX8_needed) := goodIn_app (gi_q bs_wsX8_packs_in _ [(0, 7), (0, 8), (0, 9), (0, 10)] rfl) ggX8_packs_X8_needed
set_option maxRecDepth 20000 in
theorem ggX8_packs_X8_isWord : GoodIn wsX8_packs wsX8_isWord := goodIn_k (gi_q bs_wsX8_packs_in _ [(1, 9)] rfl) (goodIn_app (gi_q bs_wsX8_packs_in _ [(0, 1), (0, 12), (0, 2), (0, 3), (1, 10), (1, 11), (1, 12), (0, 10), (1, 13)] rfl) (gi_wsX8_packs_2))
set_option maxRecDepth 20000 in
theorem gX8_packs_X8_isWord : GoodIn wsX8_packs (wsV RX8 190 RX8 yX8_isWord wsX8_isWord) := goodIn_app (gi_q bs_wsX8_packs_in _ [(1, 6), (1, 7), (1, 8), (0, 10)] rfl) ggX8_packs_X8_isWord
def fw_dX8_packs_0 : List (Nat × Instr × Nat) := [(0, .aload_n 0, 1), (1, .getfield 66, 3), (4, .iload_n 1, 1), (5, .baload, 1), (6, .ifCond .eq 4, 3), (9, .return_, 1), (10, .aload_n 0, 1), (11, .getfield 41, 3), (14, .iload_n 1, 1), (15, .iaload, 1), (16, .istore_n 2, 1), (17, .iconst 1, 1), (18, .iload_n 2, 1), (19, .ishl, 1), (20, .iconst 1, 1), (21, .isub, 1), (22, .istore_n 3, 1), (23, .iconst 0, 1), (24, .istore 4, 2), (26, .iload 4, 2)]
theorem fw_dX8_packs_0_c : fchk 0 (cX8_packs.data.toList.drop 0) fw_dX8_packs_0 = true := by decide +kernel
theorem dX8_packs_0 : Eq (decode cX8_packs 0) (Except.ok (Instr.aload_n 0, 1)) := fE fw_dX8_packs_0_c 0 rfl
theorem dX8_packs_1 : Eq (decode cX8_packs 1) (Except.ok (Instr.getfield 66, 3)) := fE fw_dX8_packs_0_c 1 rfl
theorem dX8_packs_4 : Eq (decode cX8_packs 4) (Except.ok (Instr.iload_n 1, 1)) := fE fw_dX8_packs_0_c 2 rfl
theorem dX8_packs_5 : Eq (decode cX8_packs 5) (Except.ok (Instr.baload, 1)) := fE fw_dX8_packs_0_c 3 rfl
theorem dX8_packs_6 : Eq (decode cX8_packs 6) (Except.ok (Instr.ifCond .eq 4, 3)) := fE fw_dX8_packs_0_c 4 rfl
theorem dX8_packs_9 : Eq (decode cX8_packs 9) (Except.ok (Instr.return_, 1)) := fE fw_dX8_packs_0_c 5 rfl
theorem dX8_packs_10 : Eq (decode cX8_packs 10) (Except.ok (Instr.aload_n 0, 1)) := fE fw_dX8_packs_0_c 6 rfl
theorem dX8_packs_11 : Eq (decode cX8_packs 11) (Except.ok (Instr.getfield 41, 3)) := fE fw_dX8_packs_0_c 7 rfl
theorem dX8_packs_14 : Eq (decode cX8_packs 14) (Except.ok (Instr.iload_n 1, 1)) := fE fw_dX8_packs_0_c 8 rfl
theorem dX8_packs_15 : Eq (decode cX8_packs 15) (Except.ok (Instr.iaload, 1)) := fE fw_dX8_packs_0_c 9 rfl
theorem dX8_packs_16 : Eq (decode cX8_packs 16) (Except.ok (Instr.istore_n 2, 1)) := fE fw_dX8_packs_0_c 10 rfl
theorem dX8_packs_17 : Eq (decode cX8_packs 17) (Except.ok (Instr.iconst 1, 1)) := fE fw_dX8_packs_0_c 11 rfl
theorem dX8_packs_18 : Eq (decode cX8_packs 18) (Except.ok (Instr.iload_n 2, 1)) := fE fw_dX8_packs_0_c 12 rfl
theorem dX8_packs_19 : Eq (decode cX8_packs 19) (Except.ok (Instr.ishl, 1)) := fE fw_dX8_packs_0_c 13 rfl
theorem dX8_packs_20 : Eq (decode cX8_packs 20) (Except.ok (Instr.iconst 1, 1)) := fE fw_dX8_packs_0_c 14 rfl
theorem dX8_packs_21 : Eq (decode cX8_packs 21) (Except.ok (Instr.isub, 1)) := fE fw_dX8_packs_0_c 15 rfl
theorem dX8_packs_22 : Eq (decode cX8_packs 22) (Except.ok (Instr.istore_n 3, 1)) := fE fw_dX8_packs_0_c 16 rfl
theorem dX8_packs_23 : Eq (decode cX8_packs 23) (Except.ok (Instr.iconst 0, 1)) := fE fw_dX8_packs_0_c 17 rfl
theorem dX8_packs_24 : Eq (decode cX8_packs 24) (Except.ok (Instr.istore 4, 2)) := fE fw_dX8_packs_0_c 18 rfl
theorem dX8_packs_26 : Eq (decode cX8_packs 26) (Except.ok (Instr.iload 4, 2)) := fE fw_dX8_packs_0_c 19 rfl
def fw_dX8_packs_28 : List (Nat × Instr × Nat) := [(28, .iload_n 2, 1), (29, .if_icmp .ge 101, 3), (32, .aload_n 0, 1), (33, .getfield 60, 3), (36, .iload 4, 2), (38, .iconst 0, 1), (39, .iastore, 1), (40, .aload_n 0, 1), (41, .getfield 63, 3), (44, .iload 4, 2), (46, .iconst 0, 1), (47, .iastore, 1), (48, .iconst 0, 1), (49, .istore 5, 2), (51, .iload 5, 2), (53, .iload 4, 2), (55, .if_icmp .ge 69, 3), (58, .aload_n 0, 1), (59, .bipush 10, 2), (61, .iload_n 1, 1)]
theorem fw_dX8_packs_28_c : fchk 28 (cX8_packs.data.toList.drop 28) fw_dX8_packs_28 = true := by decide +kernel
theorem dX8_packs_28 : Eq (decode cX8_packs 28) (Except.ok (Instr.iload_n 2, 1)) := fE fw_dX8_packs_28_c 0 rfl
theorem dX8_packs_29 : Eq (decode cX8_packs 29) (Except.ok (Instr.if_icmp .ge 101, 3)) := fE fw_dX8_packs_28_c 1 rfl
theorem dX8_packs_32 : Eq (decode cX8_packs 32) (Except.ok (Instr.aload_n 0, 1)) := fE fw_dX8_packs_28_c 2 rfl
theorem dX8_packs_33 : Eq (decode cX8_packs 33) (Except.ok (Instr.getfield 60, 3)) := fE fw_dX8_packs_28_c 3 rfl
theorem dX8_packs_36 : Eq (decode cX8_packs 36) (Except.ok (Instr.iload 4, 2)) := fE fw_dX8_packs_28_c 4 rfl
theorem dX8_packs_38 : Eq (decode cX8_packs 38) (Except.ok (Instr.iconst 0, 1)) := fE fw_dX8_packs_28_c 5 rfl
theorem dX8_packs_39 : Eq (decode cX8_packs 39) (Except.ok (Instr.iastore, 1)) := fE fw_dX8_packs_28_c 6 rfl
theorem dX8_packs_40 : Eq (decode cX8_packs 40) (Except.ok (Instr.aload_n 0, 1)) := fE fw_dX8_packs_28_c 7 rfl
theorem dX8_packs_41 : Eq (decode cX8_packs 41) (Except.ok (Instr.getfield 63, 3)) := fE fw_dX8_packs_28_c 8 rfl
theorem dX8_packs_44 : Eq (decode cX8_packs 44) (Except.ok (Instr.iload 4, 2)) := fE fw_dX8_packs_28_c 9 rfl
theorem dX8_packs_46 : Eq (decode cX8_packs 46) (Except.ok (Instr.iconst 0, 1)) := fE fw_dX8_packs_28_c 10 rfl
theorem dX8_packs_47 : Eq (decode cX8_packs 47) (Except.ok (Instr.iastore, 1)) := fE fw_dX8_packs_28_c 11 rfl
theorem dX8_packs_48 : Eq (decode cX8_packs 48) (Except.ok (Instr.iconst 0, 1)) := fE fw_dX8_packs_28_c 12 rfl
theorem dX8_packs_49 : Eq (decode cX8_packs 49) (Except.ok (Instr.istore 5, 2)) := fE fw_dX8_packs_28_c 13 rfl
theorem dX8_packs_51 : Eq (decode cX8_packs 51) (Except.ok (Instr.iload 5, 2)) := fE fw_dX8_packs_28_c 14 rfl
theorem dX8_packs_53 : Eq (decode cX8_packs 53) (Except.ok (Instr.iload 4, 2)) := fE fw_dX8_packs_28_c 15 rfl
theorem dX8_packs_55 : Eq (decode cX8_packs 55) (Except.ok (Instr.if_icmp .ge 69, 3)) := fE fw_dX8_packs_28_c 16 rfl
theorem dX8_packs_58 : Eq (decode cX8_packs 58) (Except.ok (Instr.aload_n 0, 1)) := fE fw_dX8_packs_28_c 17 rfl
theorem dX8_packs_59 : Eq (decode cX8_packs 59) (Except.ok (Instr.bipush 10, 2)) := fE fw_dX8_packs_28_c 18 rfl
theorem dX8_packs_61 : Eq (decode cX8_packs 61) (Except.ok (Instr.iload_n 1, 1)) := fE fw_dX8_packs_28_c 19 rfl
def fw_dX8_packs_62 : List (Nat × Instr × Nat) := [(62, .imul, 1), (63, .iload 5, 2), (65, .iadd, 1), (66, .bipush 10, 2), (68, .iload_n 1, 1), (69, .imul, 1), (70, .iload 4, 2), (72, .iadd, 1), (73, .invokevirtual 186, 3), (76, .istore 6, 2), (78, .iload 6, 2), (80, .iconst 2, 1), (81, .if_icmp .ne 17, 3), (84, .aload_n 0, 1), (85, .getfield 60, 3), (88, .iload 4, 2), (90, .dup2, 1), (91, .iaload, 1), (92, .iconst 1, 1), (93, .iload 5, 2)]
theorem fw_dX8_packs_62_c : fchk 62 (cX8_packs.data.toList.drop 62) fw_dX8_packs_62 = true := by decide +kernel
theorem dX8_packs_62 : Eq (decode cX8_packs 62) (Except.ok (Instr.imul, 1)) := fE fw_dX8_packs_62_c 0 rfl
theorem dX8_packs_63 : Eq (decode cX8_packs 63) (Except.ok (Instr.iload 5, 2)) := fE fw_dX8_packs_62_c 1 rfl
theorem dX8_packs_65 : Eq (decode cX8_packs 65) (Except.ok (Instr.iadd, 1)) := fE fw_dX8_packs_62_c 2 rfl
theorem dX8_packs_66 : Eq (decode cX8_packs 66) (Except.ok (Instr.bipush 10, 2)) := fE fw_dX8_packs_62_c 3 rfl
theorem dX8_packs_68 : Eq (decode cX8_packs 68) (Except.ok (Instr.iload_n 1, 1)) := fE fw_dX8_packs_62_c 4 rfl
theorem dX8_packs_69 : Eq (decode cX8_packs 69) (Except.ok (Instr.imul, 1)) := fE fw_dX8_packs_62_c 5 rfl
theorem dX8_packs_70 : Eq (decode cX8_packs 70) (Except.ok (Instr.iload 4, 2)) := fE fw_dX8_packs_62_c 6 rfl
theorem dX8_packs_72 : Eq (decode cX8_packs 72) (Except.ok (Instr.iadd, 1)) := fE fw_dX8_packs_62_c 7 rfl
theorem dX8_packs_73 : Eq (decode cX8_packs 73) (Except.ok (Instr.invokevirtual 186, 3)) := fE fw_dX8_packs_62_c 8 rfl
theorem dX8_packs_76 : Eq (decode cX8_packs 76) (Except.ok (Instr.istore 6, 2)) := fE fw_dX8_packs_62_c 9 rfl
theorem dX8_packs_78 : Eq (decode cX8_packs 78) (Except.ok (Instr.iload 6, 2)) := fE fw_dX8_packs_62_c 10 rfl
theorem dX8_packs_80 : Eq (decode cX8_packs 80) (Except.ok (Instr.iconst 2, 1)) := fE fw_dX8_packs_62_c 11 rfl
theorem dX8_packs_81 : Eq (decode cX8_packs 81) (Except.ok (Instr.if_icmp .ne 17, 3)) := fE fw_dX8_packs_62_c 12 rfl
theorem dX8_packs_84 : Eq (decode cX8_packs 84) (Except.ok (Instr.aload_n 0, 1)) := fE fw_dX8_packs_62_c 13 rfl
theorem dX8_packs_85 : Eq (decode cX8_packs 85) (Except.ok (Instr.getfield 60, 3)) := fE fw_dX8_packs_62_c 14 rfl
theorem dX8_packs_88 : Eq (decode cX8_packs 88) (Except.ok (Instr.iload 4, 2)) := fE fw_dX8_packs_62_c 15 rfl
theorem dX8_packs_90 : Eq (decode cX8_packs 90) (Except.ok (Instr.dup2, 1)) := fE fw_dX8_packs_62_c 16 rfl
theorem dX8_packs_91 : Eq (decode cX8_packs 91) (Except.ok (Instr.iaload, 1)) := fE fw_dX8_packs_62_c 17 rfl
theorem dX8_packs_92 : Eq (decode cX8_packs 92) (Except.ok (Instr.iconst 1, 1)) := fE fw_dX8_packs_62_c 18 rfl
theorem dX8_packs_93 : Eq (decode cX8_packs 93) (Except.ok (Instr.iload 5, 2)) := fE fw_dX8_packs_62_c 19 rfl
def fw_dX8_packs_95 : List (Nat × Instr × Nat) := [(95, .ishl, 1), (96, .ior, 1), (97, .iastore, 1), (98, .iload 6, 2), (100, .iconst 1, 1), (101, .if_icmp .ne 17, 3), (104, .aload_n 0, 1), (105, .getfield 63, 3), (108, .iload 4, 2), (110, .dup2, 1), (111, .iaload, 1), (112, .iconst 1, 1), (113, .iload 5, 2), (115, .ishl, 1), (116, .ior, 1), (117, .iastore, 1)]
theorem fw_dX8_packs_95_c : fchk 95 (cX8_packs.data.toList.drop 95) fw_dX8_packs_95 = true := by decide +kernel
theorem dX8_packs_95 : Eq (decode cX8_packs 95) (Except.ok (Instr.ishl, 1)) := fE fw_dX8_packs_95_c 0 rfl
theorem dX8_packs_96 : Eq (decode cX8_packs 96) (Except.ok (Instr.ior, 1)) := fE fw_dX8_packs_95_c 1 rfl
theorem dX8_packs_97 : Eq (decode cX8_packs 97) (Except.ok (Instr.iastore, 1)) := fE fw_dX8_packs_95_c 2 rfl
theorem dX8_packs_98 : Eq (decode cX8_packs 98) (Except.ok (Instr.iload 6, 2)) := fE fw_dX8_packs_95_c 3 rfl
theorem dX8_packs_100 : Eq (decode cX8_packs 100) (Except.ok (Instr.iconst 1, 1)) := fE fw_dX8_packs_95_c 4 rfl
theorem dX8_packs_101 : Eq (decode cX8_packs 101) (Except.ok (Instr.if_icmp .ne 17, 3)) := fE fw_dX8_packs_95_c 5 rfl
theorem dX8_packs_104 : Eq (decode cX8_packs 104) (Except.ok (Instr.aload_n 0, 1)) := fE fw_dX8_packs_95_c 6 rfl
theorem dX8_packs_105 : Eq (decode cX8_packs 105) (Except.ok (Instr.getfield 63, 3)) := fE fw_dX8_packs_95_c 7 rfl
theorem dX8_packs_108 : Eq (decode cX8_packs 108) (Except.ok (Instr.iload 4, 2)) := fE fw_dX8_packs_95_c 8 rfl
theorem dX8_packs_110 : Eq (decode cX8_packs 110) (Except.ok (Instr.dup2, 1)) := fE fw_dX8_packs_95_c 9 rfl
theorem dX8_packs_111 : Eq (decode cX8_packs 111) (Except.ok (Instr.iaload, 1)) := fE fw_dX8_packs_95_c 10 rfl
theorem dX8_packs_112 : Eq (decode cX8_packs 112) (Except.ok (Instr.iconst 1, 1)) := fE fw_dX8_packs_95_c 11 rfl
theorem dX8_packs_113 : Eq (decode cX8_packs 113) (Except.ok (Instr.iload 5, 2)) := fE fw_dX8_packs_95_c 12 rfl
theorem dX8_packs_115 : Eq (decode cX8_packs 115) (Except.ok (Instr.ishl, 1)) := fE fw_dX8_packs_95_c 13 rfl
theorem dX8_packs_116 : Eq (decode cX8_packs 116) (Except.ok (Instr.ior, 1)) := fE fw_dX8_packs_95_c 14 rfl
theorem dX8_packs_117 : Eq (decode cX8_packs 117) (Except.ok (Instr.iastore, 1)) := fE fw_dX8_packs_95_c 15 rfl
theorem dX8_packs_118 : decode cX8_packs 118 = .ok (.iinc 5 1, 3) := by decide +kernel
def fw_dX8_packs_121 : List (Nat × Instr × Nat) := [(121, .goto (-70), 3)]
theorem fw_dX8_packs_121_c : fchk 121 (cX8_packs.data.toList.drop 121) fw_dX8_packs_121 = true := by decide +kernel
theorem dX8_packs_121 : Eq (decode cX8_packs 121) (Except.ok (Instr.goto (-70), 3)) := fE fw_dX8_packs_121_c 0 rfl
theorem dX8_packs_124 : decode cX8_packs 124 = .ok (.iinc 4 1, 3) := by decide +kernel
def fw_dX8_packs_127 : List (Nat × Instr × Nat) := [(127, .goto (-101), 3), (130, .aload_n 0, 1), (131, .getfield 51, 3), (134, .iload_n 3, 1), (135, .iconst 0, 1), (136, .iastore, 1), (137, .iload_n 3, 1), (138, .iconst 1, 1), (139, .isub, 1), (140, .istore 4, 2), (142, .iload 4, 2), (144, .ifCond .lt 101, 3), (147, .aload_n 0, 1), (148, .getfield 51, 3), (151, .iload 4, 2), (153, .sipush 1000, 3), (156, .iastore, 1), (157, .iload_n 3, 1), (158, .iload 4, 2), (160, .iconst (-1), 1)]
theorem fw_dX8_packs_127_c : fchk 127 (cX8_packs.data.toList.drop 127) fw_dX8_packs_127 = true := by decide +kernel
theorem dX8_packs_127 : Eq (decode cX8_packs 127) (Except.ok (Instr.goto (-101), 3)) := fE fw_dX8_packs_127_c 0 rfl
theorem dX8_packs_130 : Eq (decode cX8_packs 130) (Except.ok (Instr.aload_n 0, 1)) := fE fw_dX8_packs_127_c 1 rfl
theorem dX8_packs_131 : Eq (decode cX8_packs 131) (Except.ok (Instr.getfield 51, 3)) := fE fw_dX8_packs_127_c 2 rfl
theorem dX8_packs_134 : Eq (decode cX8_packs 134) (Except.ok (Instr.iload_n 3, 1)) := fE fw_dX8_packs_127_c 3 rfl
theorem dX8_packs_135 : Eq (decode cX8_packs 135) (Except.ok (Instr.iconst 0, 1)) := fE fw_dX8_packs_127_c 4 rfl
theorem dX8_packs_136 : Eq (decode cX8_packs 136) (Except.ok (Instr.iastore, 1)) := fE fw_dX8_packs_127_c 5 rfl
theorem dX8_packs_137 : Eq (decode cX8_packs 137) (Except.ok (Instr.iload_n 3, 1)) := fE fw_dX8_packs_127_c 6 rfl
theorem dX8_packs_138 : Eq (decode cX8_packs 138) (Except.ok (Instr.iconst 1, 1)) := fE fw_dX8_packs_127_c 7 rfl
theorem dX8_packs_139 : Eq (decode cX8_packs 139) (Except.ok (Instr.isub, 1)) := fE fw_dX8_packs_127_c 8 rfl
theorem dX8_packs_140 : Eq (decode cX8_packs 140) (Except.ok (Instr.istore 4, 2)) := fE fw_dX8_packs_127_c 9 rfl
theorem dX8_packs_142 : Eq (decode cX8_packs 142) (Except.ok (Instr.iload 4, 2)) := fE fw_dX8_packs_127_c 10 rfl
theorem dX8_packs_144 : Eq (decode cX8_packs 144) (Except.ok (Instr.ifCond .lt 101, 3)) := fE fw_dX8_packs_127_c 11 rfl
theorem dX8_packs_147 : Eq (decode cX8_packs 147) (Except.ok (Instr.aload_n 0, 1)) := fE fw_dX8_packs_127_c 12 rfl
theorem dX8_packs_148 : Eq (decode cX8_packs 148) (Except.ok (Instr.getfield 51, 3)) := fE fw_dX8_packs_127_c 13 rfl
theorem dX8_packs_151 : Eq (decode cX8_packs 151) (Except.ok (Instr.iload 4, 2)) := fE fw_dX8_packs_127_c 14 rfl
theorem dX8_packs_153 : Eq (decode cX8_packs 153) (Except.ok (Instr.sipush 1000, 3)) := fE fw_dX8_packs_127_c 15 rfl
theorem dX8_packs_156 : Eq (decode cX8_packs 156) (Except.ok (Instr.iastore, 1)) := fE fw_dX8_packs_127_c 16 rfl
theorem dX8_packs_157 : Eq (decode cX8_packs 157) (Except.ok (Instr.iload_n 3, 1)) := fE fw_dX8_packs_127_c 17 rfl
theorem dX8_packs_158 : Eq (decode cX8_packs 158) (Except.ok (Instr.iload 4, 2)) := fE fw_dX8_packs_127_c 18 rfl
theorem dX8_packs_160 : Eq (decode cX8_packs 160) (Except.ok (Instr.iconst (-1), 1)) := fE fw_dX8_packs_127_c 19 rfl
def fw_dX8_packs_161 : List (Nat × Instr × Nat) := [(161, .ixor, 1), (162, .iand, 1), (163, .istore 5, 2), (165, .iload 5, 2), (167, .istore 6, 2), (169, .iload 6, 2), (171, .ifCond .le 68, 3), (174, .aload_n 0, 1), (175, .getfield 51, 3), (178, .iload 4, 2), (180, .iload 6, 2), (182, .ior, 1), (183, .iaload, 1), (184, .iconst 1, 1), (185, .iadd, 1), (186, .aload_n 0, 1), (187, .getfield 51, 3), (190, .iload 4, 2), (192, .iaload, 1), (193, .if_icmp .ge 34, 3)]
theorem fw_dX8_packs_161_c : fchk 161 (cX8_packs.data.toList.drop 161) fw_dX8_packs_161 = true := by decide +kernel
theorem dX8_packs_161 : Eq (decode cX8_packs 161) (Except.ok (Instr.ixor, 1)) := fE fw_dX8_packs_161_c 0 rfl
theorem dX8_packs_162 : Eq (decode cX8_packs 162) (Except.ok (Instr.iand, 1)) := fE fw_dX8_packs_161_c 1 rfl
theorem dX8_packs_163 : Eq (decode cX8_packs 163) (Except.ok (Instr.istore 5, 2)) := fE fw_dX8_packs_161_c 2 rfl
theorem dX8_packs_165 : Eq (decode cX8_packs 165) (Except.ok (Instr.iload 5, 2)) := fE fw_dX8_packs_161_c 3 rfl
theorem dX8_packs_167 : Eq (decode cX8_packs 167) (Except.ok (Instr.istore 6, 2)) := fE fw_dX8_packs_161_c 4 rfl
theorem dX8_packs_169 : Eq (decode cX8_packs 169) (Except.ok (Instr.iload 6, 2)) := fE fw_dX8_packs_161_c 5 rfl
theorem dX8_packs_171 : Eq (decode cX8_packs 171) (Except.ok (Instr.ifCond .le 68, 3)) := fE fw_dX8_packs_161_c 6 rfl
theorem dX8_packs_174 : Eq (decode cX8_packs 174) (Except.ok (Instr.aload_n 0, 1)) := fE fw_dX8_packs_161_c 7 rfl
theorem dX8_packs_175 : Eq (decode cX8_packs 175) (Except.ok (Instr.getfield 51, 3)) := fE fw_dX8_packs_161_c 8 rfl
theorem dX8_packs_178 : Eq (decode cX8_packs 178) (Except.ok (Instr.iload 4, 2)) := fE fw_dX8_packs_161_c 9 rfl
theorem dX8_packs_180 : Eq (decode cX8_packs 180) (Except.ok (Instr.iload 6, 2)) := fE fw_dX8_packs_161_c 10 rfl
theorem dX8_packs_182 : Eq (decode cX8_packs 182) (Except.ok (Instr.ior, 1)) := fE fw_dX8_packs_161_c 11 rfl
theorem dX8_packs_183 : Eq (decode cX8_packs 183) (Except.ok (Instr.iaload, 1)) := fE fw_dX8_packs_161_c 12 rfl
theorem dX8_packs_184 : Eq (decode cX8_packs 184) (Except.ok (Instr.iconst 1, 1)) := fE fw_dX8_packs_161_c 13 rfl
theorem dX8_packs_185 : Eq (decode cX8_packs 185) (Except.ok (Instr.iadd, 1)) := fE fw_dX8_packs_161_c 14 rfl
theorem dX8_packs_186 : Eq (decode cX8_packs 186) (Except.ok (Instr.aload_n 0, 1)) := fE fw_dX8_packs_161_c 15 rfl
theorem dX8_packs_187 : Eq (decode cX8_packs 187) (Except.ok (Instr.getfield 51, 3)) := fE fw_dX8_packs_161_c 16 rfl
theorem dX8_packs_190 : Eq (decode cX8_packs 190) (Except.ok (Instr.iload 4, 2)) := fE fw_dX8_packs_161_c 17 rfl
theorem dX8_packs_192 : Eq (decode cX8_packs 192) (Except.ok (Instr.iaload, 1)) := fE fw_dX8_packs_161_c 18 rfl
theorem dX8_packs_193 : Eq (decode cX8_packs 193) (Except.ok (Instr.if_icmp .ge 34, 3)) := fE fw_dX8_packs_161_c 19 rfl
def fw_dX8_packs_196 : List (Nat × Instr × Nat) := [(196, .aload_n 0, 1), (197, .iload_n 1, 1), (198, .iload 4, 2), (200, .iload 6, 2), (202, .invokevirtual 190, 3), (205, .ifCond .eq 22, 3), (208, .aload_n 0, 1), (209, .getfield 51, 3), (212, .iload 4, 2), (214, .aload_n 0, 1), (215, .getfield 51, 3), (218, .iload 4, 2), (220, .iload 6, 2), (222, .ior, 1), (223, .iaload, 1), (224, .iconst 1, 1), (225, .iadd, 1), (226, .iastore, 1), (227, .iload 6, 2), (229, .iconst 1, 1)]
theorem fw_dX8_packs_196_c : fchk 196 (cX8_packs.data.toList.drop 196) fw_dX8_packs_196 = true := by decide +kernel
theorem dX8_packs_196 : Eq (decode cX8_packs 196) (Except.ok (Instr.aload_n 0, 1)) := fE fw_dX8_packs_196_c 0 rfl
theorem dX8_packs_197 : Eq (decode cX8_packs 197) (Except.ok (Instr.iload_n 1, 1)) := fE fw_dX8_packs_196_c 1 rfl
theorem dX8_packs_198 : Eq (decode cX8_packs 198) (Except.ok (Instr.iload 4, 2)) := fE fw_dX8_packs_196_c 2 rfl
theorem dX8_packs_200 : Eq (decode cX8_packs 200) (Except.ok (Instr.iload 6, 2)) := fE fw_dX8_packs_196_c 3 rfl
theorem dX8_packs_202 : Eq (decode cX8_packs 202) (Except.ok (Instr.invokevirtual 190, 3)) := fE fw_dX8_packs_196_c 4 rfl
theorem dX8_packs_205 : Eq (decode cX8_packs 205) (Except.ok (Instr.ifCond .eq 22, 3)) := fE fw_dX8_packs_196_c 5 rfl
theorem dX8_packs_208 : Eq (decode cX8_packs 208) (Except.ok (Instr.aload_n 0, 1)) := fE fw_dX8_packs_196_c 6 rfl
theorem dX8_packs_209 : Eq (decode cX8_packs 209) (Except.ok (Instr.getfield 51, 3)) := fE fw_dX8_packs_196_c 7 rfl
theorem dX8_packs_212 : Eq (decode cX8_packs 212) (Except.ok (Instr.iload 4, 2)) := fE fw_dX8_packs_196_c 8 rfl
theorem dX8_packs_214 : Eq (decode cX8_packs 214) (Except.ok (Instr.aload_n 0, 1)) := fE fw_dX8_packs_196_c 9 rfl
theorem dX8_packs_215 : Eq (decode cX8_packs 215) (Except.ok (Instr.getfield 51, 3)) := fE fw_dX8_packs_196_c 10 rfl
theorem dX8_packs_218 : Eq (decode cX8_packs 218) (Except.ok (Instr.iload 4, 2)) := fE fw_dX8_packs_196_c 11 rfl
theorem dX8_packs_220 : Eq (decode cX8_packs 220) (Except.ok (Instr.iload 6, 2)) := fE fw_dX8_packs_196_c 12 rfl
theorem dX8_packs_222 : Eq (decode cX8_packs 222) (Except.ok (Instr.ior, 1)) := fE fw_dX8_packs_196_c 13 rfl
theorem dX8_packs_223 : Eq (decode cX8_packs 223) (Except.ok (Instr.iaload, 1)) := fE fw_dX8_packs_196_c 14 rfl
theorem dX8_packs_224 : Eq (decode cX8_packs 224) (Except.ok (Instr.iconst 1, 1)) := fE fw_dX8_packs_196_c 15 rfl
theorem dX8_packs_225 : Eq (decode cX8_packs 225) (Except.ok (Instr.iadd, 1)) := fE fw_dX8_packs_196_c 16 rfl
theorem dX8_packs_226 : Eq (decode cX8_packs 226) (Except.ok (Instr.iastore, 1)) := fE fw_dX8_packs_196_c 17 rfl
theorem dX8_packs_227 : Eq (decode cX8_packs 227) (Except.ok (Instr.iload 6, 2)) := fE fw_dX8_packs_196_c 18 rfl
theorem dX8_packs_229 : Eq (decode cX8_packs 229) (Except.ok (Instr.iconst 1, 1)) := fE fw_dX8_packs_196_c 19 rfl
def fw_dX8_packs_230 : List (Nat × Instr × Nat) := [(230, .isub, 1), (231, .iload 5, 2), (233, .iand, 1), (234, .istore 6, 2), (236, .goto (-67), 3)]
theorem fw_dX8_packs_230_c : fchk 230 (cX8_packs.data.toList.drop 230) fw_dX8_packs_230 = true := by decide +kernel
theorem dX8_packs_230 : Eq (decode cX8_packs 230) (Except.ok (Instr.isub, 1)) := fE fw_dX8_packs_230_c 0 rfl
theorem dX8_packs_231 : Eq (decode cX8_packs 231) (Except.ok (Instr.iload 5, 2)) := fE fw_dX8_packs_230_c 1 rfl
theorem dX8_packs_233 : Eq (decode cX8_packs 233) (Except.ok (Instr.iand, 1)) := fE fw_dX8_packs_230_c 2 rfl
theorem dX8_packs_234 : Eq (decode cX8_packs 234) (Except.ok (Instr.istore 6, 2)) := fE fw_dX8_packs_230_c 3 rfl
theorem dX8_packs_236 : Eq (decode cX8_packs 236) (Except.ok (Instr.goto (-67), 3)) := fE fw_dX8_packs_230_c 4 rfl
theorem dX8_packs_239 : decode cX8_packs 239 = .ok (.iinc 4 (-1), 3) := by decide +kernel
def fw_dX8_packs_242 : List (Nat × Instr × Nat) := [(242, .goto (-100), 3), (245, .iconst 0, 1), (246, .istore 4, 2), (248, .iconst 0, 1), (249, .istore 5, 2), (251, .iload 4, 2), (253, .iload_n 3, 1), (254, .if_icmp .eq 116, 3), (257, .iconst 1, 1), (258, .istore 6, 2), (260, .iload 6, 2), (262, .iload 4, 2), (264, .iand, 1), (265, .ifCond .ne 46, 3), (268, .iload 6, 2), (270, .iload_n 3, 1), (271, .iconst (-1), 1), (272, .ixor, 1), (273, .iand, 1), (274, .ifCond .ne 37, 3)]
theorem fw_dX8_packs_242_c : fchk 242 (cX8_packs.data.toList.drop 242) fw_dX8_packs_242 = true := by decide +kernel
theorem dX8_packs_242 : Eq (decode cX8_packs 242) (Except.ok (Instr.goto (-100), 3)) := fE fw_dX8_packs_242_c 0 rfl
theorem dX8_packs_245 : Eq (decode cX8_packs 245) (Except.ok (Instr.iconst 0, 1)) := fE fw_dX8_packs_242_c 1 rfl
theorem dX8_packs_246 : Eq (decode cX8_packs 246) (Except.ok (Instr.istore 4, 2)) := fE fw_dX8_packs_242_c 2 rfl
theorem dX8_packs_248 : Eq (decode cX8_packs 248) (Except.ok (Instr.iconst 0, 1)) := fE fw_dX8_packs_242_c 3 rfl
theorem dX8_packs_249 : Eq (decode cX8_packs 249) (Except.ok (Instr.istore 5, 2)) := fE fw_dX8_packs_242_c 4 rfl
theorem dX8_packs_251 : Eq (decode cX8_packs 251) (Except.ok (Instr.iload 4, 2)) := fE fw_dX8_packs_242_c 5 rfl
theorem dX8_packs_253 : Eq (decode cX8_packs 253) (Except.ok (Instr.iload_n 3, 1)) := fE fw_dX8_packs_242_c 6 rfl
theorem dX8_packs_254 : Eq (decode cX8_packs 254) (Except.ok (Instr.if_icmp .eq 116, 3)) := fE fw_dX8_packs_242_c 7 rfl
theorem dX8_packs_257 : Eq (decode cX8_packs 257) (Except.ok (Instr.iconst 1, 1)) := fE fw_dX8_packs_242_c 8 rfl
theorem dX8_packs_258 : Eq (decode cX8_packs 258) (Except.ok (Instr.istore 6, 2)) := fE fw_dX8_packs_242_c 9 rfl
theorem dX8_packs_260 : Eq (decode cX8_packs 260) (Except.ok (Instr.iload 6, 2)) := fE fw_dX8_packs_242_c 10 rfl
theorem dX8_packs_262 : Eq (decode cX8_packs 262) (Except.ok (Instr.iload 4, 2)) := fE fw_dX8_packs_242_c 11 rfl
theorem dX8_packs_264 : Eq (decode cX8_packs 264) (Except.ok (Instr.iand, 1)) := fE fw_dX8_packs_242_c 12 rfl
theorem dX8_packs_265 : Eq (decode cX8_packs 265) (Except.ok (Instr.ifCond .ne 46, 3)) := fE fw_dX8_packs_242_c 13 rfl
theorem dX8_packs_268 : Eq (decode cX8_packs 268) (Except.ok (Instr.iload 6, 2)) := fE fw_dX8_packs_242_c 14 rfl
theorem dX8_packs_270 : Eq (decode cX8_packs 270) (Except.ok (Instr.iload_n 3, 1)) := fE fw_dX8_packs_242_c 15 rfl
theorem dX8_packs_271 : Eq (decode cX8_packs 271) (Except.ok (Instr.iconst (-1), 1)) := fE fw_dX8_packs_242_c 16 rfl
theorem dX8_packs_272 : Eq (decode cX8_packs 272) (Except.ok (Instr.ixor, 1)) := fE fw_dX8_packs_242_c 17 rfl
theorem dX8_packs_273 : Eq (decode cX8_packs 273) (Except.ok (Instr.iand, 1)) := fE fw_dX8_packs_242_c 18 rfl
theorem dX8_packs_274 : Eq (decode cX8_packs 274) (Except.ok (Instr.ifCond .ne 37, 3)) := fE fw_dX8_packs_242_c 19 rfl
def fw_dX8_packs_277 : List (Nat × Instr × Nat) := [(277, .aload_n 0, 1), (278, .getfield 51, 3), (281, .iload 4, 2), (283, .iload 6, 2), (285, .ior, 1), (286, .iaload, 1), (287, .iconst 1, 1), (288, .iadd, 1), (289, .aload_n 0, 1), (290, .getfield 51, 3), (293, .iload 4, 2), (295, .iaload, 1), (296, .if_icmp .ne 15, 3), (299, .aload_n 0, 1), (300, .iload_n 1, 1), (301, .iload 4, 2), (303, .iload 6, 2), (305, .invokevirtual 190, 3), (308, .ifCond .ne 9, 3)]
theorem fw_dX8_packs_277_c : fchk 277 (cX8_packs.data.toList.drop 277) fw_dX8_packs_277 = true := by decide +kernel
theorem dX8_packs_277 : Eq (decode cX8_packs 277) (Except.ok (Instr.aload_n 0, 1)) := fE fw_dX8_packs_277_c 0 rfl
theorem dX8_packs_278 : Eq (decode cX8_packs 278) (Except.ok (Instr.getfield 51, 3)) := fE fw_dX8_packs_277_c 1 rfl
theorem dX8_packs_281 : Eq (decode cX8_packs 281) (Except.ok (Instr.iload 4, 2)) := fE fw_dX8_packs_277_c 2 rfl
theorem dX8_packs_283 : Eq (decode cX8_packs 283) (Except.ok (Instr.iload 6, 2)) := fE fw_dX8_packs_277_c 3 rfl
theorem dX8_packs_285 : Eq (decode cX8_packs 285) (Except.ok (Instr.ior, 1)) := fE fw_dX8_packs_277_c 4 rfl
theorem dX8_packs_286 : Eq (decode cX8_packs 286) (Except.ok (Instr.iaload, 1)) := fE fw_dX8_packs_277_c 5 rfl
theorem dX8_packs_287 : Eq (decode cX8_packs 287) (Except.ok (Instr.iconst 1, 1)) := fE fw_dX8_packs_277_c 6 rfl
theorem dX8_packs_288 : Eq (decode cX8_packs 288) (Except.ok (Instr.iadd, 1)) := fE fw_dX8_packs_277_c 7 rfl
theorem dX8_packs_289 : Eq (decode cX8_packs 289) (Except.ok (Instr.aload_n 0, 1)) := fE fw_dX8_packs_277_c 8 rfl
theorem dX8_packs_290 : Eq (decode cX8_packs 290) (Except.ok (Instr.getfield 51, 3)) := fE fw_dX8_packs_277_c 9 rfl
theorem dX8_packs_293 : Eq (decode cX8_packs 293) (Except.ok (Instr.iload 4, 2)) := fE fw_dX8_packs_277_c 10 rfl
theorem dX8_packs_295 : Eq (decode cX8_packs 295) (Except.ok (Instr.iaload, 1)) := fE fw_dX8_packs_277_c 11 rfl
theorem dX8_packs_296 : Eq (decode cX8_packs 296) (Except.ok (Instr.if_icmp .ne 15, 3)) := fE fw_dX8_packs_277_c 12 rfl
theorem dX8_packs_299 : Eq (decode cX8_packs 299) (Except.ok (Instr.aload_n 0, 1)) := fE fw_dX8_packs_277_c 13 rfl
theorem dX8_packs_300 : Eq (decode cX8_packs 300) (Except.ok (Instr.iload_n 1, 1)) := fE fw_dX8_packs_277_c 14 rfl
theorem dX8_packs_301 : Eq (decode cX8_packs 301) (Except.ok (Instr.iload 4, 2)) := fE fw_dX8_packs_277_c 15 rfl
theorem dX8_packs_303 : Eq (decode cX8_packs 303) (Except.ok (Instr.iload 6, 2)) := fE fw_dX8_packs_277_c 16 rfl
theorem dX8_packs_305 : Eq (decode cX8_packs 305) (Except.ok (Instr.invokevirtual 190, 3)) := fE fw_dX8_packs_277_c 17 rfl
theorem dX8_packs_308 : Eq (decode cX8_packs 308) (Except.ok (Instr.ifCond .ne 9, 3)) := fE fw_dX8_packs_277_c 18 rfl
theorem dX8_packs_311 : decode cX8_packs 311 = .ok (.iinc 6 1, 3) := by decide +kernel
def fw_dX8_packs_314 : List (Nat × Instr × Nat) := [(314, .goto (-54), 3), (317, .iconst 0, 1), (318, .istore 7, 2), (320, .iload 7, 2), (322, .iload_n 2, 1), (323, .if_icmp .ge 34, 3), (326, .iload 6, 2), (328, .iload 7, 2), (330, .ishr, 1), (331, .iconst 1, 1), (332, .iand, 1), (333, .iconst 1, 1), (334, .if_icmp .ne 17, 3), (337, .aload_n 0, 1), (338, .getfield 54, 3), (341, .bipush 10, 2), (343, .iload_n 1, 1), (344, .imul, 1), (345, .iload 7, 2), (347, .iadd, 1)]
theorem fw_dX8_packs_314_c : fchk 314 (cX8_packs.data.toList.drop 314) fw_dX8_packs_314 = true := by decide +kernel
theorem dX8_packs_314 : Eq (decode cX8_packs 314) (Except.ok (Instr.goto (-54), 3)) := fE fw_dX8_packs_314_c 0 rfl
theorem dX8_packs_317 : Eq (decode cX8_packs 317) (Except.ok (Instr.iconst 0, 1)) := fE fw_dX8_packs_314_c 1 rfl
theorem dX8_packs_318 : Eq (decode cX8_packs 318) (Except.ok (Instr.istore 7, 2)) := fE fw_dX8_packs_314_c 2 rfl
theorem dX8_packs_320 : Eq (decode cX8_packs 320) (Except.ok (Instr.iload 7, 2)) := fE fw_dX8_packs_314_c 3 rfl
theorem dX8_packs_322 : Eq (decode cX8_packs 322) (Except.ok (Instr.iload_n 2, 1)) := fE fw_dX8_packs_314_c 4 rfl
theorem dX8_packs_323 : Eq (decode cX8_packs 323) (Except.ok (Instr.if_icmp .ge 34, 3)) := fE fw_dX8_packs_314_c 5 rfl
theorem dX8_packs_326 : Eq (decode cX8_packs 326) (Except.ok (Instr.iload 6, 2)) := fE fw_dX8_packs_314_c 6 rfl
theorem dX8_packs_328 : Eq (decode cX8_packs 328) (Except.ok (Instr.iload 7, 2)) := fE fw_dX8_packs_314_c 7 rfl
theorem dX8_packs_330 : Eq (decode cX8_packs 330) (Except.ok (Instr.ishr, 1)) := fE fw_dX8_packs_314_c 8 rfl
theorem dX8_packs_331 : Eq (decode cX8_packs 331) (Except.ok (Instr.iconst 1, 1)) := fE fw_dX8_packs_314_c 9 rfl
theorem dX8_packs_332 : Eq (decode cX8_packs 332) (Except.ok (Instr.iand, 1)) := fE fw_dX8_packs_314_c 10 rfl
theorem dX8_packs_333 : Eq (decode cX8_packs 333) (Except.ok (Instr.iconst 1, 1)) := fE fw_dX8_packs_314_c 11 rfl
theorem dX8_packs_334 : Eq (decode cX8_packs 334) (Except.ok (Instr.if_icmp .ne 17, 3)) := fE fw_dX8_packs_314_c 12 rfl
theorem dX8_packs_337 : Eq (decode cX8_packs 337) (Except.ok (Instr.aload_n 0, 1)) := fE fw_dX8_packs_314_c 13 rfl
theorem dX8_packs_338 : Eq (decode cX8_packs 338) (Except.ok (Instr.getfield 54, 3)) := fE fw_dX8_packs_314_c 14 rfl
theorem dX8_packs_341 : Eq (decode cX8_packs 341) (Except.ok (Instr.bipush 10, 2)) := fE fw_dX8_packs_314_c 15 rfl
theorem dX8_packs_343 : Eq (decode cX8_packs 343) (Except.ok (Instr.iload_n 1, 1)) := fE fw_dX8_packs_314_c 16 rfl
theorem dX8_packs_344 : Eq (decode cX8_packs 344) (Except.ok (Instr.imul, 1)) := fE fw_dX8_packs_314_c 17 rfl
theorem dX8_packs_345 : Eq (decode cX8_packs 345) (Except.ok (Instr.iload 7, 2)) := fE fw_dX8_packs_314_c 18 rfl
theorem dX8_packs_347 : Eq (decode cX8_packs 347) (Except.ok (Instr.iadd, 1)) := fE fw_dX8_packs_314_c 19 rfl
def fw_dX8_packs_348 : List (Nat × Instr × Nat) := [(348, .iload 5, 2), (350, .iastore, 1)]
theorem fw_dX8_packs_348_c : fchk 348 (cX8_packs.data.toList.drop 348) fw_dX8_packs_348 = true := by decide +kernel
theorem dX8_packs_348 : Eq (decode cX8_packs 348) (Except.ok (Instr.iload 5, 2)) := fE fw_dX8_packs_348_c 0 rfl
theorem dX8_packs_350 : Eq (decode cX8_packs 350) (Except.ok (Instr.iastore, 1)) := fE fw_dX8_packs_348_c 1 rfl
theorem dX8_packs_351 : decode cX8_packs 351 = .ok (.iinc 7 1, 3) := by decide +kernel
def fw_dX8_packs_354 : List (Nat × Instr × Nat) := [(354, .goto (-34), 3), (357, .iload 4, 2), (359, .iload 6, 2), (361, .ior, 1), (362, .istore 4, 2)]
theorem fw_dX8_packs_354_c : fchk 354 (cX8_packs.data.toList.drop 354) fw_dX8_packs_354 = true := by decide +kernel
theorem dX8_packs_354 : Eq (decode cX8_packs 354) (Except.ok (Instr.goto (-34), 3)) := fE fw_dX8_packs_354_c 0 rfl
theorem dX8_packs_357 : Eq (decode cX8_packs 357) (Except.ok (Instr.iload 4, 2)) := fE fw_dX8_packs_354_c 1 rfl
theorem dX8_packs_359 : Eq (decode cX8_packs 359) (Except.ok (Instr.iload 6, 2)) := fE fw_dX8_packs_354_c 2 rfl
theorem dX8_packs_361 : Eq (decode cX8_packs 361) (Except.ok (Instr.ior, 1)) := fE fw_dX8_packs_354_c 3 rfl
theorem dX8_packs_362 : Eq (decode cX8_packs 362) (Except.ok (Instr.istore 4, 2)) := fE fw_dX8_packs_354_c 4 rfl
theorem dX8_packs_364 : decode cX8_packs 364 = .ok (.iinc 5 1, 3) := by decide +kernel
def fw_dX8_packs_367 : List (Nat × Instr × Nat) := [(367, .goto (-116), 3), (370, .aload_n 0, 1), (371, .getfield 57, 3), (374, .iload_n 1, 1), (375, .iload 5, 2), (377, .iastore, 1), (378, .aload_n 0, 1), (379, .getfield 66, 3), (382, .iload_n 1, 1), (383, .iconst 1, 1), (384, .bastore, 1), (385, .return_, 1)]
theorem fw_dX8_packs_367_c : fchk 367 (cX8_packs.data.toList.drop 367) fw_dX8_packs_367 = true := by decide +kernel
theorem dX8_packs_367 : Eq (decode cX8_packs 367) (Except.ok (Instr.goto (-116), 3)) := fE fw_dX8_packs_367_c 0 rfl
theorem dX8_packs_370 : Eq (decode cX8_packs 370) (Except.ok (Instr.aload_n 0, 1)) := fE fw_dX8_packs_367_c 1 rfl
theorem dX8_packs_371 : Eq (decode cX8_packs 371) (Except.ok (Instr.getfield 57, 3)) := fE fw_dX8_packs_367_c 2 rfl
theorem dX8_packs_374 : Eq (decode cX8_packs 374) (Except.ok (Instr.iload_n 1, 1)) := fE fw_dX8_packs_367_c 3 rfl
theorem dX8_packs_375 : Eq (decode cX8_packs 375) (Except.ok (Instr.iload 5, 2)) := fE fw_dX8_packs_367_c 4 rfl
theorem dX8_packs_377 : Eq (decode cX8_packs 377) (Except.ok (Instr.iastore, 1)) := fE fw_dX8_packs_367_c 5 rfl
theorem dX8_packs_378 : Eq (decode cX8_packs 378) (Except.ok (Instr.aload_n 0, 1)) := fE fw_dX8_packs_367_c 6 rfl
theorem dX8_packs_379 : Eq (decode cX8_packs 379) (Except.ok (Instr.getfield 66, 3)) := fE fw_dX8_packs_367_c 7 rfl
theorem dX8_packs_382 : Eq (decode cX8_packs 382) (Except.ok (Instr.iload_n 1, 1)) := fE fw_dX8_packs_367_c 8 rfl
theorem dX8_packs_383 : Eq (decode cX8_packs 383) (Except.ok (Instr.iconst 1, 1)) := fE fw_dX8_packs_367_c 9 rfl
theorem dX8_packs_384 : Eq (decode cX8_packs 384) (Except.ok (Instr.bastore, 1)) := fE fw_dX8_packs_367_c 10 rfl
theorem dX8_packs_385 : Eq (decode cX8_packs 385) (Except.ok (Instr.return_, 1)) := fE fw_dX8_packs_367_c 11 rfl
set_option maxRecDepth 20000 in
theorem gi_wsX8_pack_0 : GoodIn wsX8_pack wsX8_pack_r1 := goodIn_sub (fun w h => List.mem_cons_of_mem _ (List.mem_append_left _ (List.mem_append_left _ h))) (by decide +kernel)
set_option maxRecDepth 20000 in
theorem gi_wsX8_pack_1 : GoodIn wsX8_pack wsX8_pack_r2 := goodIn_sub (fun w h => List.mem_cons_of_mem _ (List.mem_append_left _ (List.mem_append_right _ (List.mem_append_left _ h)))) (by decide +kernel)
set_option maxRecDepth 20000 in
theorem gi_wsX8_pack_2 : GoodIn wsX8_pack wsX8_pack_r3 := goodIn_sub (fun w h => List.mem_cons_of_mem _ (List.mem_append_left _ (List.mem_append_right _ (List.mem_append_right _ h)))) (by decide +kernel)
set_option maxRecDepth 20000 in
theorem gi_wsX8_pack_3 : GoodIn wsX8_pack wsX80 := goodIn_sub (fun w h => List.mem_cons_of_mem _ (List.mem_append_right _ h)) (by decide +kernel)
def bs_wsX8_pack : List (List Cond) := [wsX8_pack_r1, wsX8_pack_r2, wsX8_pack_r3, wsX80]
theorem bs_wsX8_pack_in : ∀ b ∈ bs_wsX8_pack, GoodIn wsX8_pack b := List.forall_mem_cons.mpr ⟨gi_wsX8_pack_0, List.forall_mem_cons.mpr ⟨gi_wsX8_pack_1, List.forall_mem_cons.mpr ⟨gi_wsX8_pack_2, List.forall_mem_cons.mpr ⟨gi_wsX8_pack_3, (fun _ h => absurd h List.not_mem_nil)⟩⟩⟩⟩
set_option maxRecDepth 20000 in
theorem ggX8_pack_X8_isInstruction : GoodIn wsX8_pack wsX8_isInstruction := goodIn_k (gi_q bs_wsX8_pack_in _ [(0, 4)] rfl) (gi_q bs_wsX8_pack_in _ [] rfl)
set_option maxRecDepth 20000 in
theorem gX8_pack_X8_isInstruction : GoodIn wsX8_pack (va_wsS RX8 157 yX8_isInstruction wsX8_isInstruction) := goodIn_app (gi_q bs_wsX8_pack_in _ [(0, 1), (0, 2), (0, 3)] rfl) ggX8_pack_X8_isInstruction
set_option maxRecDepth 20000 in
theorem ggX8_pack_X8_no : GoodIn wsX8_pack wsX8_no := goodIn_k (gi_q bs_wsX8_pack_in _ [(0, 8)] rfl) (goodIn_app (gi_q bs_wsX8_pack_in _ [(0, 9)] rfl) (gi_wsX8_pack_3))
set_option maxRecDepth 20000 in
theorem gX8_pack_X8_no : GoodIn wsX8_pack (wsV RX8 122 RX8 yX8_no wsX8_no) := goodIn_app (gi_q bs_wsX8_pack_in _ [(0, 5), (0, 6), (0, 7), (0, 3)] rfl) ggX8_pack_X8_no
set_option maxRecDepth 20000 in
theorem ggX8_pack_X8_packs : GoodIn wsX8_pack wsX8_packs := goodIn_k (gi_q bs_wsX8_pack_in _ [(0, 13)] rfl) (goodIn_app (goodIn_app (gi_q bs_wsX8_pack_in _ [(0, 14), (0, 15), (0, 16), (0, 17), (0, 18), (0, 19), (0, 0), (0, 20), (0, 21), (0, 22), (0, 3), (0, 23), (1, 0), (1, 1), (1, 2), (1, 3), (1, 4), (1, 5), (1, 6), (1, 7), (1, 8), (1, 9), (1, 10), (1, 11)] rfl) (gi_q bs_wsX8_pack_in _ [(1, 12), (1, 13), (1, 14), (1, 15), (1, 16), (1, 17), (1, 18), (1, 19), (1, 20), (1, 21), (1, 22), (1, 23), (2, 0), (2, 1)] rfl)) (gi_wsX8_pack_3))
set_option maxRecDepth 20000 in
theorem gX8_pack_X8_packs : GoodIn wsX8_pack (wsV RX8 194 RX8 yX8_packs wsX8_packs) := goodIn_app (gi_q bs_wsX8_pack_in _ [(0, 10), (0, 11), (0, 12), (0, 3)] rfl) ggX8_pack_X8_packs
def fw_dX8_pack_0 : List (Nat × Instr × Nat) := [(0, .iload_n 1, 1), (1, .invokestatic 157, 3), (4, .ifCond .ne 10, 3), (7, .aload_n 0, 1), (8, .bipush (-3), 2), (10, .invokevirtual 122, 3), (13, .ireturn, 1), (14, .aload_n 0, 1), (15, .iload_n 1, 1), (16, .invokevirtual 194, 3), (19, .aload_n 0, 1), (20, .getfield 57, 3), (23, .iload_n 1, 1), (24, .iaload, 1), (25, .ireturn, 1)]
theorem fw_dX8_pack_0_c : fchk 0 (cX8_pack.data.toList.drop 0) fw_dX8_pack_0 = true := by decide +kernel
theorem dX8_pack_0 : Eq (decode cX8_pack 0) (Except.ok (Instr.iload_n 1, 1)) := fE fw_dX8_pack_0_c 0 rfl
theorem dX8_pack_1 : Eq (decode cX8_pack 1) (Except.ok (Instr.invokestatic 157, 3)) := fE fw_dX8_pack_0_c 1 rfl
theorem dX8_pack_4 : Eq (decode cX8_pack 4) (Except.ok (Instr.ifCond .ne 10, 3)) := fE fw_dX8_pack_0_c 2 rfl
theorem dX8_pack_7 : Eq (decode cX8_pack 7) (Except.ok (Instr.aload_n 0, 1)) := fE fw_dX8_pack_0_c 3 rfl
theorem dX8_pack_8 : Eq (decode cX8_pack 8) (Except.ok (Instr.bipush (-3), 2)) := fE fw_dX8_pack_0_c 4 rfl
theorem dX8_pack_10 : Eq (decode cX8_pack 10) (Except.ok (Instr.invokevirtual 122, 3)) := fE fw_dX8_pack_0_c 5 rfl
theorem dX8_pack_13 : Eq (decode cX8_pack 13) (Except.ok (Instr.ireturn, 1)) := fE fw_dX8_pack_0_c 6 rfl
theorem dX8_pack_14 : Eq (decode cX8_pack 14) (Except.ok (Instr.aload_n 0, 1)) := fE fw_dX8_pack_0_c 7 rfl
theorem dX8_pack_15 : Eq (decode cX8_pack 15) (Except.ok (Instr.iload_n 1, 1)) := fE fw_dX8_pack_0_c 8 rfl
theorem dX8_pack_16 : Eq (decode cX8_pack 16) (Except.ok (Instr.invokevirtual 194, 3)) := fE fw_dX8_pack_0_c 9 rfl
theorem dX8_pack_19 : Eq (decode cX8_pack 19) (Except.ok (Instr.aload_n 0, 1)) := fE fw_dX8_pack_0_c 10 rfl
theorem dX8_pack_20 : Eq (decode cX8_pack 20) (Except.ok (Instr.getfield 57, 3)) := fE fw_dX8_pack_0_c 11 rfl
theorem dX8_pack_23 : Eq (decode cX8_pack 23) (Except.ok (Instr.iload_n 1, 1)) := fE fw_dX8_pack_0_c 12 rfl
theorem dX8_pack_24 : Eq (decode cX8_pack 24) (Except.ok (Instr.iaload, 1)) := fE fw_dX8_pack_0_c 13 rfl
theorem dX8_pack_25 : Eq (decode cX8_pack 25) (Except.ok (Instr.ireturn, 1)) := fE fw_dX8_pack_0_c 14 rfl
set_option maxRecDepth 20000 in
theorem gi_wsX8_word_0 : GoodIn wsX8_word wsX8_word := goodIn_sub (fun _ h => h) (by decide +kernel)
set_option maxRecDepth 20000 in
theorem gi_wsX8_word_1 : GoodIn wsX8_word wsX80 := goodIn_sub (fun w h => List.mem_cons_of_mem _ (List.mem_append_right _ h)) (by decide +kernel)
def bs_wsX8_word : List (List Cond) := [wsX8_word, wsX80]
theorem bs_wsX8_word_in : ∀ b ∈ bs_wsX8_word, GoodIn wsX8_word b := List.forall_mem_cons.mpr ⟨gi_wsX8_word_0, List.forall_mem_cons.mpr ⟨gi_wsX8_word_1, (fun _ h => absurd h List.not_mem_nil)⟩⟩
set_option maxRecDepth 20000 in
theorem ggX8_word_X8_isAct : GoodIn wsX8_word wsX8_isAct := goodIn_k (gi_q bs_wsX8_word_in _ [(0, 7)] rfl) (goodIn_app (gi_q bs_wsX8_word_in _ [(0, 8), (0, 9), (0, 10), (0, 6), (0, 11)] rfl) (gi_wsX8_word_1))
set_option maxRecDepth 20000 in
theorem gX8_word_X8_isAct : GoodIn wsX8_word (wsV RX8 168 RX8 yX8_isAct wsX8_isAct) := goodIn_app (gi_q bs_wsX8_word_in _ [(0, 3), (0, 4), (0, 5), (0, 6)] rfl) ggX8_word_X8_isAct
set_option maxRecDepth 20000 in
theorem ggX8_word_X8_no : GoodIn wsX8_word wsX8_no := goodIn_k (gi_q bs_wsX8_word_in _ [(0, 15)] rfl) (goodIn_app (gi_q bs_wsX8_word_in _ [(0, 16)] rfl) (gi_wsX8_word_1))
set_option maxRecDepth 20000 in
theorem gX8_word_X8_no : GoodIn wsX8_word (wsV RX8 122 RX8 yX8_no wsX8_no) := goodIn_app (gi_q bs_wsX8_word_in _ [(0, 12), (0, 13), (0, 14), (0, 6)] rfl) ggX8_word_X8_no
def fw_dX8_word_0 : List (Nat × Instr × Nat) := [(0, .aload_n 0, 1), (1, .iload_n 1, 1), (2, .iload_n 2, 1), (3, .invokevirtual 168, 3), (6, .ifCond .ne 10, 3), (9, .aload_n 0, 1), (10, .bipush (-3), 2), (12, .invokevirtual 122, 3), (15, .ireturn, 1), (16, .aload_n 0, 1), (17, .getfield 66, 3), (20, .iload_n 1, 1), (21, .baload, 1), (22, .ifCond .eq 17, 3), (25, .aload_n 0, 1), (26, .getfield 54, 3), (29, .bipush 10, 2), (31, .iload_n 1, 1), (32, .imul, 1), (33, .iload_n 2, 1)]
theorem fw_dX8_word_0_c : fchk 0 (cX8_word.data.toList.drop 0) fw_dX8_word_0 = true := by decide +kernel
theorem dX8_word_0 : Eq (decode cX8_word 0) (Except.ok (Instr.aload_n 0, 1)) := fE fw_dX8_word_0_c 0 rfl
theorem dX8_word_1 : Eq (decode cX8_word 1) (Except.ok (Instr.iload_n 1, 1)) := fE fw_dX8_word_0_c 1 rfl
theorem dX8_word_2 : Eq (decode cX8_word 2) (Except.ok (Instr.iload_n 2, 1)) := fE fw_dX8_word_0_c 2 rfl
theorem dX8_word_3 : Eq (decode cX8_word 3) (Except.ok (Instr.invokevirtual 168, 3)) := fE fw_dX8_word_0_c 3 rfl
theorem dX8_word_6 : Eq (decode cX8_word 6) (Except.ok (Instr.ifCond .ne 10, 3)) := fE fw_dX8_word_0_c 4 rfl
theorem dX8_word_9 : Eq (decode cX8_word 9) (Except.ok (Instr.aload_n 0, 1)) := fE fw_dX8_word_0_c 5 rfl
theorem dX8_word_10 : Eq (decode cX8_word 10) (Except.ok (Instr.bipush (-3), 2)) := fE fw_dX8_word_0_c 6 rfl
theorem dX8_word_12 : Eq (decode cX8_word 12) (Except.ok (Instr.invokevirtual 122, 3)) := fE fw_dX8_word_0_c 7 rfl
theorem dX8_word_15 : Eq (decode cX8_word 15) (Except.ok (Instr.ireturn, 1)) := fE fw_dX8_word_0_c 8 rfl
theorem dX8_word_16 : Eq (decode cX8_word 16) (Except.ok (Instr.aload_n 0, 1)) := fE fw_dX8_word_0_c 9 rfl
theorem dX8_word_17 : Eq (decode cX8_word 17) (Except.ok (Instr.getfield 66, 3)) := fE fw_dX8_word_0_c 10 rfl
theorem dX8_word_20 : Eq (decode cX8_word 20) (Except.ok (Instr.iload_n 1, 1)) := fE fw_dX8_word_0_c 11 rfl
theorem dX8_word_21 : Eq (decode cX8_word 21) (Except.ok (Instr.baload, 1)) := fE fw_dX8_word_0_c 12 rfl
theorem dX8_word_22 : Eq (decode cX8_word 22) (Except.ok (Instr.ifCond .eq 17, 3)) := fE fw_dX8_word_0_c 13 rfl
theorem dX8_word_25 : Eq (decode cX8_word 25) (Except.ok (Instr.aload_n 0, 1)) := fE fw_dX8_word_0_c 14 rfl
theorem dX8_word_26 : Eq (decode cX8_word 26) (Except.ok (Instr.getfield 54, 3)) := fE fw_dX8_word_0_c 15 rfl
theorem dX8_word_29 : Eq (decode cX8_word 29) (Except.ok (Instr.bipush 10, 2)) := fE fw_dX8_word_0_c 16 rfl
theorem dX8_word_31 : Eq (decode cX8_word 31) (Except.ok (Instr.iload_n 1, 1)) := fE fw_dX8_word_0_c 17 rfl
theorem dX8_word_32 : Eq (decode cX8_word 32) (Except.ok (Instr.imul, 1)) := fE fw_dX8_word_0_c 18 rfl
theorem dX8_word_33 : Eq (decode cX8_word 33) (Except.ok (Instr.iload_n 2, 1)) := fE fw_dX8_word_0_c 19 rfl
def fw_dX8_word_34 : List (Nat × Instr × Nat) := [(34, .iadd, 1), (35, .iaload, 1), (36, .goto 9, 3), (39, .aload_n 0, 1), (40, .bipush (-2), 2), (42, .invokevirtual 122, 3), (45, .ireturn, 1)]
theorem fw_dX8_word_34_c : fchk 34 (cX8_word.data.toList.drop 34) fw_dX8_word_34 = true := by decide +kernel
theorem dX8_word_34 : Eq (decode cX8_word 34) (Except.ok (Instr.iadd, 1)) := fE fw_dX8_word_34_c 0 rfl
theorem dX8_word_35 : Eq (decode cX8_word 35) (Except.ok (Instr.iaload, 1)) := fE fw_dX8_word_34_c 1 rfl
theorem dX8_word_36 : Eq (decode cX8_word 36) (Except.ok (Instr.goto 9, 3)) := fE fw_dX8_word_34_c 2 rfl
theorem dX8_word_39 : Eq (decode cX8_word 39) (Except.ok (Instr.aload_n 0, 1)) := fE fw_dX8_word_34_c 3 rfl
theorem dX8_word_40 : Eq (decode cX8_word 40) (Except.ok (Instr.bipush (-2), 2)) := fE fw_dX8_word_34_c 4 rfl
theorem dX8_word_42 : Eq (decode cX8_word 42) (Except.ok (Instr.invokevirtual 122, 3)) := fE fw_dX8_word_34_c 5 rfl
theorem dX8_word_45 : Eq (decode cX8_word 45) (Except.ok (Instr.ireturn, 1)) := fE fw_dX8_word_34_c 6 rfl
set_option maxRecDepth 20000 in
theorem gi_wsX8_why_0 : GoodIn wsX8_why wsX8_why_r1 := goodIn_sub (fun w h => List.mem_cons_of_mem _ (List.mem_append_left _ (List.mem_append_left _ h))) (by decide +kernel)
set_option maxRecDepth 20000 in
theorem gi_wsX8_why_1 : GoodIn wsX8_why wsX8_why_r2 := goodIn_sub (fun w h => List.mem_cons_of_mem _ (List.mem_append_left _ (List.mem_append_right _ h))) (by decide +kernel)
set_option maxRecDepth 20000 in
theorem gi_wsX8_why_2 : GoodIn wsX8_why wsX80 := goodIn_sub (fun w h => List.mem_cons_of_mem _ (List.mem_append_right _ h)) (by decide +kernel)
def bs_wsX8_why : List (List Cond) := [wsX8_why_r1, wsX8_why_r2, wsX80]
theorem bs_wsX8_why_in : ∀ b ∈ bs_wsX8_why, GoodIn wsX8_why b := List.forall_mem_cons.mpr ⟨gi_wsX8_why_0, List.forall_mem_cons.mpr ⟨gi_wsX8_why_1, List.forall_mem_cons.mpr ⟨gi_wsX8_why_2, (fun _ h => absurd h List.not_mem_nil)⟩⟩⟩
set_option maxRecDepth 20000 in
theorem ggX8_why_X8_isAct : GoodIn wsX8_why wsX8_isAct := goodIn_k (gi_q bs_wsX8_why_in _ [(0, 6)] rfl) (goodIn_app (gi_q bs_wsX8_why_in _ [(0, 7), (0, 8), (0, 9), (0, 5), (0, 10)] rfl) (gi_wsX8_why_2))
set_option maxRecDepth 20000 in
theorem gX8_why_X8_isAct : GoodIn wsX8_why (wsV RX8 168 RX8 yX8_isAct wsX8_isAct) := goodIn_app (gi_q bs_wsX8_why_in _ [(0, 2), (0, 3), (0, 4), (0, 5)] rfl) ggX8_why_X8_isAct
set_option maxRecDepth 20000 in
theorem ggX8_why_X8_no : GoodIn wsX8_why wsX8_no := goodIn_k (gi_q bs_wsX8_why_in _ [(0, 14)] rfl) (goodIn_app (gi_q bs_wsX8_why_in _ [(0, 15)] rfl) (gi_wsX8_why_2))
set_option maxRecDepth 20000 in
theorem gX8_why_X8_no : GoodIn wsX8_why (wsV RX8 122 RX8 yX8_no wsX8_no) := goodIn_app (gi_q bs_wsX8_why_in _ [(0, 11), (0, 12), (0, 13), (0, 5)] rfl) ggX8_why_X8_no
set_option maxRecDepth 20000 in
theorem ggX8_why_X8_needed : GoodIn wsX8_why wsX8_needed := goodIn_k (gi_q bs_wsX8_why_in _ [(0, 19)] rfl) (goodIn_app (gi_q bs_wsX8_why_in _ [(0, 20), (0, 21), (0, 22), (0, 23), (0, 5), (1, 0), (1, 1), (1, 2), (1, 3), (1, 4), (1, 5), (1, 6), (1, 7), (1, 8), (1, 9), (1, 10), (1, 11), (1, 12), (1, 13)] rfl) (gi_wsX8_why_2))
set_option maxRecDepth 20000 in
theorem gX8_why_X8_needed : GoodIn wsX8_why (wsV RX8 186 RX8 yX8_needed wsX8_needed) := goodIn_app (gi_q bs_wsX8_why_in _ [(0, 16), (0, 17), (0, 18), (0, 5)] rfl) ggX8_why_X8_needed
def fw_dX8_why_0 : List (Nat × Instr × Nat) := [(0, .aload_n 0, 1), (1, .iload_n 1, 1), (2, .iload_n 2, 1), (3, .invokevirtual 168, 3), (6, .ifCond .ne 10, 3), (9, .aload_n 0, 1), (10, .bipush (-3), 2), (12, .invokevirtual 122, 3), (15, .ireturn, 1), (16, .aload_n 0, 1), (17, .getfield 66, 3), (20, .iload_n 1, 1), (21, .baload, 1), (22, .ifCond .ne 10, 3), (25, .aload_n 0, 1), (26, .bipush (-2), 2), (28, .invokevirtual 122, 3), (31, .ireturn, 1), (32, .bipush 10, 2), (34, .iload_n 1, 1)]
theorem fw_dX8_why_0_c : fchk 0 (cX8_why.data.toList.drop 0) fw_dX8_why_0 = true := by decide +kernel
theorem dX8_why_0 : Eq (decode cX8_why 0) (Except.ok (Instr.aload_n 0, 1)) := fE fw_dX8_why_0_c 0 rfl
theorem dX8_why_1 : Eq (decode cX8_why 1) (Except.ok (Instr.iload_n 1, 1)) := fE fw_dX8_why_0_c 1 rfl
theorem dX8_why_2 : Eq (decode cX8_why 2) (Except.ok (Instr.iload_n 2, 1)) := fE fw_dX8_why_0_c 2 rfl
theorem dX8_why_3 : Eq (decode cX8_why 3) (Except.ok (Instr.invokevirtual 168, 3)) := fE fw_dX8_why_0_c 3 rfl
theorem dX8_why_6 : Eq (decode cX8_why 6) (Except.ok (Instr.ifCond .ne 10, 3)) := fE fw_dX8_why_0_c 4 rfl
theorem dX8_why_9 : Eq (decode cX8_why 9) (Except.ok (Instr.aload_n 0, 1)) := fE fw_dX8_why_0_c 5 rfl
theorem dX8_why_10 : Eq (decode cX8_why 10) (Except.ok (Instr.bipush (-3), 2)) := fE fw_dX8_why_0_c 6 rfl
theorem dX8_why_12 : Eq (decode cX8_why 12) (Except.ok (Instr.invokevirtual 122, 3)) := fE fw_dX8_why_0_c 7 rfl
theorem dX8_why_15 : Eq (decode cX8_why 15) (Except.ok (Instr.ireturn, 1)) := fE fw_dX8_why_0_c 8 rfl
theorem dX8_why_16 : Eq (decode cX8_why 16) (Except.ok (Instr.aload_n 0, 1)) := fE fw_dX8_why_0_c 9 rfl
theorem dX8_why_17 : Eq (decode cX8_why 17) (Except.ok (Instr.getfield 66, 3)) := fE fw_dX8_why_0_c 10 rfl
theorem dX8_why_20 : Eq (decode cX8_why 20) (Except.ok (Instr.iload_n 1, 1)) := fE fw_dX8_why_0_c 11 rfl
theorem dX8_why_21 : Eq (decode cX8_why 21) (Except.ok (Instr.baload, 1)) := fE fw_dX8_why_0_c 12 rfl
theorem dX8_why_22 : Eq (decode cX8_why 22) (Except.ok (Instr.ifCond .ne 10, 3)) := fE fw_dX8_why_0_c 13 rfl
theorem dX8_why_25 : Eq (decode cX8_why 25) (Except.ok (Instr.aload_n 0, 1)) := fE fw_dX8_why_0_c 14 rfl
theorem dX8_why_26 : Eq (decode cX8_why 26) (Except.ok (Instr.bipush (-2), 2)) := fE fw_dX8_why_0_c 15 rfl
theorem dX8_why_28 : Eq (decode cX8_why 28) (Except.ok (Instr.invokevirtual 122, 3)) := fE fw_dX8_why_0_c 16 rfl
theorem dX8_why_31 : Eq (decode cX8_why 31) (Except.ok (Instr.ireturn, 1)) := fE fw_dX8_why_0_c 17 rfl
theorem dX8_why_32 : Eq (decode cX8_why 32) (Except.ok (Instr.bipush 10, 2)) := fE fw_dX8_why_0_c 18 rfl
theorem dX8_why_34 : Eq (decode cX8_why 34) (Except.ok (Instr.iload_n 1, 1)) := fE fw_dX8_why_0_c 19 rfl
def fw_dX8_why_35 : List (Nat × Instr × Nat) := [(35, .imul, 1), (36, .istore_n 3, 1), (37, .iconst 0, 1), (38, .istore 4, 2), (40, .iload 4, 2), (42, .iload_n 2, 1), (43, .if_icmp .ge 79, 3), (46, .aload_n 0, 1), (47, .iload_n 3, 1), (48, .iload 4, 2), (50, .iadd, 1), (51, .iload_n 3, 1), (52, .iload_n 2, 1), (53, .iadd, 1), (54, .invokevirtual 186, 3), (57, .istore 5, 2), (59, .iload 5, 2), (61, .iconst 2, 1), (62, .if_icmp .ne 25, 3), (65, .aload_n 0, 1)]
theorem fw_dX8_why_35_c : fchk 35 (cX8_why.data.toList.drop 35) fw_dX8_why_35 = true := by decide +kernel
theorem dX8_why_35 : Eq (decode cX8_why 35) (Except.ok (Instr.imul, 1)) := fE fw_dX8_why_35_c 0 rfl
theorem dX8_why_36 : Eq (decode cX8_why 36) (Except.ok (Instr.istore_n 3, 1)) := fE fw_dX8_why_35_c 1 rfl
theorem dX8_why_37 : Eq (decode cX8_why 37) (Except.ok (Instr.iconst 0, 1)) := fE fw_dX8_why_35_c 2 rfl
theorem dX8_why_38 : Eq (decode cX8_why 38) (Except.ok (Instr.istore 4, 2)) := fE fw_dX8_why_35_c 3 rfl
theorem dX8_why_40 : Eq (decode cX8_why 40) (Except.ok (Instr.iload 4, 2)) := fE fw_dX8_why_35_c 4 rfl
theorem dX8_why_42 : Eq (decode cX8_why 42) (Except.ok (Instr.iload_n 2, 1)) := fE fw_dX8_why_35_c 5 rfl
theorem dX8_why_43 : Eq (decode cX8_why 43) (Except.ok (Instr.if_icmp .ge 79, 3)) := fE fw_dX8_why_35_c 6 rfl
theorem dX8_why_46 : Eq (decode cX8_why 46) (Except.ok (Instr.aload_n 0, 1)) := fE fw_dX8_why_35_c 7 rfl
theorem dX8_why_47 : Eq (decode cX8_why 47) (Except.ok (Instr.iload_n 3, 1)) := fE fw_dX8_why_35_c 8 rfl
theorem dX8_why_48 : Eq (decode cX8_why 48) (Except.ok (Instr.iload 4, 2)) := fE fw_dX8_why_35_c 9 rfl
theorem dX8_why_50 : Eq (decode cX8_why 50) (Except.ok (Instr.iadd, 1)) := fE fw_dX8_why_35_c 10 rfl
theorem dX8_why_51 : Eq (decode cX8_why 51) (Except.ok (Instr.iload_n 3, 1)) := fE fw_dX8_why_35_c 11 rfl
theorem dX8_why_52 : Eq (decode cX8_why 52) (Except.ok (Instr.iload_n 2, 1)) := fE fw_dX8_why_35_c 12 rfl
theorem dX8_why_53 : Eq (decode cX8_why 53) (Except.ok (Instr.iadd, 1)) := fE fw_dX8_why_35_c 13 rfl
theorem dX8_why_54 : Eq (decode cX8_why 54) (Except.ok (Instr.invokevirtual 186, 3)) := fE fw_dX8_why_35_c 14 rfl
theorem dX8_why_57 : Eq (decode cX8_why 57) (Except.ok (Instr.istore 5, 2)) := fE fw_dX8_why_35_c 15 rfl
theorem dX8_why_59 : Eq (decode cX8_why 59) (Except.ok (Instr.iload 5, 2)) := fE fw_dX8_why_35_c 16 rfl
theorem dX8_why_61 : Eq (decode cX8_why 61) (Except.ok (Instr.iconst 2, 1)) := fE fw_dX8_why_35_c 17 rfl
theorem dX8_why_62 : Eq (decode cX8_why 62) (Except.ok (Instr.if_icmp .ne 25, 3)) := fE fw_dX8_why_35_c 18 rfl
theorem dX8_why_65 : Eq (decode cX8_why 65) (Except.ok (Instr.aload_n 0, 1)) := fE fw_dX8_why_35_c 19 rfl
def fw_dX8_why_66 : List (Nat × Instr × Nat) := [(66, .getfield 54, 3), (69, .iload_n 3, 1), (70, .iload 4, 2), (72, .iadd, 1), (73, .iaload, 1), (74, .aload_n 0, 1), (75, .getfield 54, 3), (78, .iload_n 3, 1), (79, .iload_n 2, 1), (80, .iadd, 1), (81, .iaload, 1), (82, .iconst 1, 1), (83, .isub, 1), (84, .if_icmp .eq 29, 3), (87, .iload 5, 2), (89, .iconst 1, 1), (90, .if_icmp .ne 26, 3), (93, .aload_n 0, 1), (94, .getfield 54, 3), (97, .iload_n 3, 1)]
theorem fw_dX8_why_66_c : fchk 66 (cX8_why.data.toList.drop 66) fw_dX8_why_66 = true := by decide +kernel
theorem dX8_why_66 : Eq (decode cX8_why 66) (Except.ok (Instr.getfield 54, 3)) := fE fw_dX8_why_66_c 0 rfl
theorem dX8_why_69 : Eq (decode cX8_why 69) (Except.ok (Instr.iload_n 3, 1)) := fE fw_dX8_why_66_c 1 rfl
theorem dX8_why_70 : Eq (decode cX8_why 70) (Except.ok (Instr.iload 4, 2)) := fE fw_dX8_why_66_c 2 rfl
theorem dX8_why_72 : Eq (decode cX8_why 72) (Except.ok (Instr.iadd, 1)) := fE fw_dX8_why_66_c 3 rfl
theorem dX8_why_73 : Eq (decode cX8_why 73) (Except.ok (Instr.iaload, 1)) := fE fw_dX8_why_66_c 4 rfl
theorem dX8_why_74 : Eq (decode cX8_why 74) (Except.ok (Instr.aload_n 0, 1)) := fE fw_dX8_why_66_c 5 rfl
theorem dX8_why_75 : Eq (decode cX8_why 75) (Except.ok (Instr.getfield 54, 3)) := fE fw_dX8_why_66_c 6 rfl
theorem dX8_why_78 : Eq (decode cX8_why 78) (Except.ok (Instr.iload_n 3, 1)) := fE fw_dX8_why_66_c 7 rfl
theorem dX8_why_79 : Eq (decode cX8_why 79) (Except.ok (Instr.iload_n 2, 1)) := fE fw_dX8_why_66_c 8 rfl
theorem dX8_why_80 : Eq (decode cX8_why 80) (Except.ok (Instr.iadd, 1)) := fE fw_dX8_why_66_c 9 rfl
theorem dX8_why_81 : Eq (decode cX8_why 81) (Except.ok (Instr.iaload, 1)) := fE fw_dX8_why_66_c 10 rfl
theorem dX8_why_82 : Eq (decode cX8_why 82) (Except.ok (Instr.iconst 1, 1)) := fE fw_dX8_why_66_c 11 rfl
theorem dX8_why_83 : Eq (decode cX8_why 83) (Except.ok (Instr.isub, 1)) := fE fw_dX8_why_66_c 12 rfl
theorem dX8_why_84 : Eq (decode cX8_why 84) (Except.ok (Instr.if_icmp .eq 29, 3)) := fE fw_dX8_why_66_c 13 rfl
theorem dX8_why_87 : Eq (decode cX8_why 87) (Except.ok (Instr.iload 5, 2)) := fE fw_dX8_why_66_c 14 rfl
theorem dX8_why_89 : Eq (decode cX8_why 89) (Except.ok (Instr.iconst 1, 1)) := fE fw_dX8_why_66_c 15 rfl
theorem dX8_why_90 : Eq (decode cX8_why 90) (Except.ok (Instr.if_icmp .ne 26, 3)) := fE fw_dX8_why_66_c 16 rfl
theorem dX8_why_93 : Eq (decode cX8_why 93) (Except.ok (Instr.aload_n 0, 1)) := fE fw_dX8_why_66_c 17 rfl
theorem dX8_why_94 : Eq (decode cX8_why 94) (Except.ok (Instr.getfield 54, 3)) := fE fw_dX8_why_66_c 18 rfl
theorem dX8_why_97 : Eq (decode cX8_why 97) (Except.ok (Instr.iload_n 3, 1)) := fE fw_dX8_why_66_c 19 rfl
def fw_dX8_why_98 : List (Nat × Instr × Nat) := [(98, .iload 4, 2), (100, .iadd, 1), (101, .iaload, 1), (102, .aload_n 0, 1), (103, .getfield 54, 3), (106, .iload_n 3, 1), (107, .iload_n 2, 1), (108, .iadd, 1), (109, .iaload, 1), (110, .if_icmp .ne 6, 3), (113, .iload 4, 2), (115, .ireturn, 1)]
theorem fw_dX8_why_98_c : fchk 98 (cX8_why.data.toList.drop 98) fw_dX8_why_98 = true := by decide +kernel
theorem dX8_why_98 : Eq (decode cX8_why 98) (Except.ok (Instr.iload 4, 2)) := fE fw_dX8_why_98_c 0 rfl
theorem dX8_why_100 : Eq (decode cX8_why 100) (Except.ok (Instr.iadd, 1)) := fE fw_dX8_why_98_c 1 rfl
theorem dX8_why_101 : Eq (decode cX8_why 101) (Except.ok (Instr.iaload, 1)) := fE fw_dX8_why_98_c 2 rfl
theorem dX8_why_102 : Eq (decode cX8_why 102) (Except.ok (Instr.aload_n 0, 1)) := fE fw_dX8_why_98_c 3 rfl
theorem dX8_why_103 : Eq (decode cX8_why 103) (Except.ok (Instr.getfield 54, 3)) := fE fw_dX8_why_98_c 4 rfl
theorem dX8_why_106 : Eq (decode cX8_why 106) (Except.ok (Instr.iload_n 3, 1)) := fE fw_dX8_why_98_c 5 rfl
theorem dX8_why_107 : Eq (decode cX8_why 107) (Except.ok (Instr.iload_n 2, 1)) := fE fw_dX8_why_98_c 6 rfl
theorem dX8_why_108 : Eq (decode cX8_why 108) (Except.ok (Instr.iadd, 1)) := fE fw_dX8_why_98_c 7 rfl
theorem dX8_why_109 : Eq (decode cX8_why 109) (Except.ok (Instr.iaload, 1)) := fE fw_dX8_why_98_c 8 rfl
theorem dX8_why_110 : Eq (decode cX8_why 110) (Except.ok (Instr.if_icmp .ne 6, 3)) := fE fw_dX8_why_98_c 9 rfl
theorem dX8_why_113 : Eq (decode cX8_why 113) (Except.ok (Instr.iload 4, 2)) := fE fw_dX8_why_98_c 10 rfl
theorem dX8_why_115 : Eq (decode cX8_why 115) (Except.ok (Instr.ireturn, 1)) := fE fw_dX8_why_98_c 11 rfl
theorem dX8_why_116 : decode cX8_why 116 = .ok (.iinc 4 1, 3) := by decide +kernel
def fw_dX8_why_119 : List (Nat × Instr × Nat) := [(119, .goto (-79), 3), (122, .iconst (-1), 1), (123, .ireturn, 1)]
theorem fw_dX8_why_119_c : fchk 119 (cX8_why.data.toList.drop 119) fw_dX8_why_119 = true := by decide +kernel
theorem dX8_why_119 : Eq (decode cX8_why 119) (Except.ok (Instr.goto (-79), 3)) := fE fw_dX8_why_119_c 0 rfl
theorem dX8_why_122 : Eq (decode cX8_why 122) (Except.ok (Instr.iconst (-1), 1)) := fE fw_dX8_why_119_c 1 rfl
theorem dX8_why_123 : Eq (decode cX8_why 123) (Except.ok (Instr.ireturn, 1)) := fE fw_dX8_why_119_c 2 rfl
def fw_dX8_actOf_0 : List (Nat × Instr × Nat) := [(0, .iload_n 3, 1), (1, .istore 4, 2), (3, .iconst 0, 1), (4, .istore 5, 2), (6, .iload 5, 2), (8, .aload_n 0, 1), (9, .getfield 41, 3), (12, .iload_n 1, 1), (13, .iaload, 1), (14, .if_icmp .ge 44, 3), (17, .aload_n 0, 1), (18, .getfield 54, 3), (21, .bipush 10, 2), (23, .iload_n 1, 1), (24, .imul, 1), (25, .iload 5, 2), (27, .iadd, 1), (28, .iaload, 1), (29, .iload_n 2, 1), (30, .if_icmp .eq 6, 3)]
theorem fw_dX8_actOf_0_c : fchk 0 (cX8_actOf.data.toList.drop 0) fw_dX8_actOf_0 = true := by decide +kernel
theorem dX8_actOf_0 : Eq (decode cX8_actOf 0) (Except.ok (Instr.iload_n 3, 1)) := fE fw_dX8_actOf_0_c 0 rfl
theorem dX8_actOf_1 : Eq (decode cX8_actOf 1) (Except.ok (Instr.istore 4, 2)) := fE fw_dX8_actOf_0_c 1 rfl
theorem dX8_actOf_3 : Eq (decode cX8_actOf 3) (Except.ok (Instr.iconst 0, 1)) := fE fw_dX8_actOf_0_c 2 rfl
theorem dX8_actOf_4 : Eq (decode cX8_actOf 4) (Except.ok (Instr.istore 5, 2)) := fE fw_dX8_actOf_0_c 3 rfl
theorem dX8_actOf_6 : Eq (decode cX8_actOf 6) (Except.ok (Instr.iload 5, 2)) := fE fw_dX8_actOf_0_c 4 rfl
theorem dX8_actOf_8 : Eq (decode cX8_actOf 8) (Except.ok (Instr.aload_n 0, 1)) := fE fw_dX8_actOf_0_c 5 rfl
theorem dX8_actOf_9 : Eq (decode cX8_actOf 9) (Except.ok (Instr.getfield 41, 3)) := fE fw_dX8_actOf_0_c 6 rfl
theorem dX8_actOf_12 : Eq (decode cX8_actOf 12) (Except.ok (Instr.iload_n 1, 1)) := fE fw_dX8_actOf_0_c 7 rfl
theorem dX8_actOf_13 : Eq (decode cX8_actOf 13) (Except.ok (Instr.iaload, 1)) := fE fw_dX8_actOf_0_c 8 rfl
theorem dX8_actOf_14 : Eq (decode cX8_actOf 14) (Except.ok (Instr.if_icmp .ge 44, 3)) := fE fw_dX8_actOf_0_c 9 rfl
theorem dX8_actOf_17 : Eq (decode cX8_actOf 17) (Except.ok (Instr.aload_n 0, 1)) := fE fw_dX8_actOf_0_c 10 rfl
theorem dX8_actOf_18 : Eq (decode cX8_actOf 18) (Except.ok (Instr.getfield 54, 3)) := fE fw_dX8_actOf_0_c 11 rfl
theorem dX8_actOf_21 : Eq (decode cX8_actOf 21) (Except.ok (Instr.bipush 10, 2)) := fE fw_dX8_actOf_0_c 12 rfl
theorem dX8_actOf_23 : Eq (decode cX8_actOf 23) (Except.ok (Instr.iload_n 1, 1)) := fE fw_dX8_actOf_0_c 13 rfl
theorem dX8_actOf_24 : Eq (decode cX8_actOf 24) (Except.ok (Instr.imul, 1)) := fE fw_dX8_actOf_0_c 14 rfl
theorem dX8_actOf_25 : Eq (decode cX8_actOf 25) (Except.ok (Instr.iload 5, 2)) := fE fw_dX8_actOf_0_c 15 rfl
theorem dX8_actOf_27 : Eq (decode cX8_actOf 27) (Except.ok (Instr.iadd, 1)) := fE fw_dX8_actOf_0_c 16 rfl
theorem dX8_actOf_28 : Eq (decode cX8_actOf 28) (Except.ok (Instr.iaload, 1)) := fE fw_dX8_actOf_0_c 17 rfl
theorem dX8_actOf_29 : Eq (decode cX8_actOf 29) (Except.ok (Instr.iload_n 2, 1)) := fE fw_dX8_actOf_0_c 18 rfl
theorem dX8_actOf_30 : Eq (decode cX8_actOf 30) (Except.ok (Instr.if_icmp .eq 6, 3)) := fE fw_dX8_actOf_0_c 19 rfl
def fw_dX8_actOf_33 : List (Nat × Instr × Nat) := [(33, .goto 19, 3), (36, .iload 4, 2), (38, .ifCond .ne 11, 3), (41, .bipush 10, 2), (43, .iload_n 1, 1), (44, .imul, 1), (45, .iload 5, 2), (47, .iadd, 1), (48, .ireturn, 1)]
theorem fw_dX8_actOf_33_c : fchk 33 (cX8_actOf.data.toList.drop 33) fw_dX8_actOf_33 = true := by decide +kernel
theorem dX8_actOf_33 : Eq (decode cX8_actOf 33) (Except.ok (Instr.goto 19, 3)) := fE fw_dX8_actOf_33_c 0 rfl
theorem dX8_actOf_36 : Eq (decode cX8_actOf 36) (Except.ok (Instr.iload 4, 2)) := fE fw_dX8_actOf_33_c 1 rfl
theorem dX8_actOf_38 : Eq (decode cX8_actOf 38) (Except.ok (Instr.ifCond .ne 11, 3)) := fE fw_dX8_actOf_33_c 2 rfl
theorem dX8_actOf_41 : Eq (decode cX8_actOf 41) (Except.ok (Instr.bipush 10, 2)) := fE fw_dX8_actOf_33_c 3 rfl
theorem dX8_actOf_43 : Eq (decode cX8_actOf 43) (Except.ok (Instr.iload_n 1, 1)) := fE fw_dX8_actOf_33_c 4 rfl
theorem dX8_actOf_44 : Eq (decode cX8_actOf 44) (Except.ok (Instr.imul, 1)) := fE fw_dX8_actOf_33_c 5 rfl
theorem dX8_actOf_45 : Eq (decode cX8_actOf 45) (Except.ok (Instr.iload 5, 2)) := fE fw_dX8_actOf_33_c 6 rfl
theorem dX8_actOf_47 : Eq (decode cX8_actOf 47) (Except.ok (Instr.iadd, 1)) := fE fw_dX8_actOf_33_c 7 rfl
theorem dX8_actOf_48 : Eq (decode cX8_actOf 48) (Except.ok (Instr.ireturn, 1)) := fE fw_dX8_actOf_33_c 8 rfl
theorem dX8_actOf_49 : decode cX8_actOf 49 = .ok (.iinc 4 (-1), 3) := by decide +kernel
theorem dX8_actOf_52 : decode cX8_actOf 52 = .ok (.iinc 5 1, 3) := by decide +kernel
def fw_dX8_actOf_55 : List (Nat × Instr × Nat) := [(55, .goto (-49), 3), (58, .iconst (-1), 1), (59, .ireturn, 1)]
theorem fw_dX8_actOf_55_c : fchk 55 (cX8_actOf.data.toList.drop 55) fw_dX8_actOf_55 = true := by decide +kernel
theorem dX8_actOf_55 : Eq (decode cX8_actOf 55) (Except.ok (Instr.goto (-49), 3)) := fE fw_dX8_actOf_55_c 0 rfl
theorem dX8_actOf_58 : Eq (decode cX8_actOf 58) (Except.ok (Instr.iconst (-1), 1)) := fE fw_dX8_actOf_55_c 1 rfl
theorem dX8_actOf_59 : Eq (decode cX8_actOf 59) (Except.ok (Instr.ireturn, 1)) := fE fw_dX8_actOf_55_c 2 rfl
def fw_dX8_areSame_0 : List (Nat × Instr × Nat) := [(0, .aload_n 0, 1), (1, .getfield 29, 3), (4, .iload_n 1, 1), (5, .iaload, 1), (6, .aload_n 0, 1), (7, .getfield 29, 3), (10, .iload_n 2, 1), (11, .iaload, 1), (12, .if_icmp .ne 52, 3), (15, .aload_n 0, 1), (16, .getfield 32, 3), (19, .iload_n 1, 1), (20, .iaload, 1), (21, .aload_n 0, 1), (22, .getfield 32, 3), (25, .iload_n 2, 1), (26, .iaload, 1), (27, .if_icmp .ne 37, 3), (30, .aload_n 0, 1), (31, .getfield 35, 3)]
theorem fw_dX8_areSame_0_c : fchk 0 (cX8_areSame.data.toList.drop 0) fw_dX8_areSame_0 = true := by decide +kernel
theorem dX8_areSame_0 : Eq (decode cX8_areSame 0) (Except.ok (Instr.aload_n 0, 1)) := fE fw_dX8_areSame_0_c 0 rfl
theorem dX8_areSame_1 : Eq (decode cX8_areSame 1) (Except.ok (Instr.getfield 29, 3)) := fE fw_dX8_areSame_0_c 1 rfl
theorem dX8_areSame_4 : Eq (decode cX8_areSame 4) (Except.ok (Instr.iload_n 1, 1)) := fE fw_dX8_areSame_0_c 2 rfl
theorem dX8_areSame_5 : Eq (decode cX8_areSame 5) (Except.ok (Instr.iaload, 1)) := fE fw_dX8_areSame_0_c 3 rfl
theorem dX8_areSame_6 : Eq (decode cX8_areSame 6) (Except.ok (Instr.aload_n 0, 1)) := fE fw_dX8_areSame_0_c 4 rfl
theorem dX8_areSame_7 : Eq (decode cX8_areSame 7) (Except.ok (Instr.getfield 29, 3)) := fE fw_dX8_areSame_0_c 5 rfl
theorem dX8_areSame_10 : Eq (decode cX8_areSame 10) (Except.ok (Instr.iload_n 2, 1)) := fE fw_dX8_areSame_0_c 6 rfl
theorem dX8_areSame_11 : Eq (decode cX8_areSame 11) (Except.ok (Instr.iaload, 1)) := fE fw_dX8_areSame_0_c 7 rfl
theorem dX8_areSame_12 : Eq (decode cX8_areSame 12) (Except.ok (Instr.if_icmp .ne 52, 3)) := fE fw_dX8_areSame_0_c 8 rfl
theorem dX8_areSame_15 : Eq (decode cX8_areSame 15) (Except.ok (Instr.aload_n 0, 1)) := fE fw_dX8_areSame_0_c 9 rfl
theorem dX8_areSame_16 : Eq (decode cX8_areSame 16) (Except.ok (Instr.getfield 32, 3)) := fE fw_dX8_areSame_0_c 10 rfl
theorem dX8_areSame_19 : Eq (decode cX8_areSame 19) (Except.ok (Instr.iload_n 1, 1)) := fE fw_dX8_areSame_0_c 11 rfl
theorem dX8_areSame_20 : Eq (decode cX8_areSame 20) (Except.ok (Instr.iaload, 1)) := fE fw_dX8_areSame_0_c 12 rfl
theorem dX8_areSame_21 : Eq (decode cX8_areSame 21) (Except.ok (Instr.aload_n 0, 1)) := fE fw_dX8_areSame_0_c 13 rfl
theorem dX8_areSame_22 : Eq (decode cX8_areSame 22) (Except.ok (Instr.getfield 32, 3)) := fE fw_dX8_areSame_0_c 14 rfl
theorem dX8_areSame_25 : Eq (decode cX8_areSame 25) (Except.ok (Instr.iload_n 2, 1)) := fE fw_dX8_areSame_0_c 15 rfl
theorem dX8_areSame_26 : Eq (decode cX8_areSame 26) (Except.ok (Instr.iaload, 1)) := fE fw_dX8_areSame_0_c 16 rfl
theorem dX8_areSame_27 : Eq (decode cX8_areSame 27) (Except.ok (Instr.if_icmp .ne 37, 3)) := fE fw_dX8_areSame_0_c 17 rfl
theorem dX8_areSame_30 : Eq (decode cX8_areSame 30) (Except.ok (Instr.aload_n 0, 1)) := fE fw_dX8_areSame_0_c 18 rfl
theorem dX8_areSame_31 : Eq (decode cX8_areSame 31) (Except.ok (Instr.getfield 35, 3)) := fE fw_dX8_areSame_0_c 19 rfl
def fw_dX8_areSame_34 : List (Nat × Instr × Nat) := [(34, .iload_n 1, 1), (35, .iaload, 1), (36, .aload_n 0, 1), (37, .getfield 35, 3), (40, .iload_n 2, 1), (41, .iaload, 1), (42, .if_icmp .ne 22, 3), (45, .aload_n 0, 1), (46, .getfield 38, 3), (49, .iload_n 1, 1), (50, .iaload, 1), (51, .aload_n 0, 1), (52, .getfield 38, 3), (55, .iload_n 2, 1), (56, .iaload, 1), (57, .if_icmp .ne 7, 3), (60, .iconst 1, 1), (61, .goto 4, 3), (64, .iconst 0, 1), (65, .ireturn, 1)]
theorem fw_dX8_areSame_34_c : fchk 34 (cX8_areSame.data.toList.drop 34) fw_dX8_areSame_34 = true := by decide +kernel
theorem dX8_areSame_34 : Eq (decode cX8_areSame 34) (Except.ok (Instr.iload_n 1, 1)) := fE fw_dX8_areSame_34_c 0 rfl
theorem dX8_areSame_35 : Eq (decode cX8_areSame 35) (Except.ok (Instr.iaload, 1)) := fE fw_dX8_areSame_34_c 1 rfl
theorem dX8_areSame_36 : Eq (decode cX8_areSame 36) (Except.ok (Instr.aload_n 0, 1)) := fE fw_dX8_areSame_34_c 2 rfl
theorem dX8_areSame_37 : Eq (decode cX8_areSame 37) (Except.ok (Instr.getfield 35, 3)) := fE fw_dX8_areSame_34_c 3 rfl
theorem dX8_areSame_40 : Eq (decode cX8_areSame 40) (Except.ok (Instr.iload_n 2, 1)) := fE fw_dX8_areSame_34_c 4 rfl
theorem dX8_areSame_41 : Eq (decode cX8_areSame 41) (Except.ok (Instr.iaload, 1)) := fE fw_dX8_areSame_34_c 5 rfl
theorem dX8_areSame_42 : Eq (decode cX8_areSame 42) (Except.ok (Instr.if_icmp .ne 22, 3)) := fE fw_dX8_areSame_34_c 6 rfl
theorem dX8_areSame_45 : Eq (decode cX8_areSame 45) (Except.ok (Instr.aload_n 0, 1)) := fE fw_dX8_areSame_34_c 7 rfl
theorem dX8_areSame_46 : Eq (decode cX8_areSame 46) (Except.ok (Instr.getfield 38, 3)) := fE fw_dX8_areSame_34_c 8 rfl
theorem dX8_areSame_49 : Eq (decode cX8_areSame 49) (Except.ok (Instr.iload_n 1, 1)) := fE fw_dX8_areSame_34_c 9 rfl
theorem dX8_areSame_50 : Eq (decode cX8_areSame 50) (Except.ok (Instr.iaload, 1)) := fE fw_dX8_areSame_34_c 10 rfl
theorem dX8_areSame_51 : Eq (decode cX8_areSame 51) (Except.ok (Instr.aload_n 0, 1)) := fE fw_dX8_areSame_34_c 11 rfl
theorem dX8_areSame_52 : Eq (decode cX8_areSame 52) (Except.ok (Instr.getfield 38, 3)) := fE fw_dX8_areSame_34_c 12 rfl
theorem dX8_areSame_55 : Eq (decode cX8_areSame 55) (Except.ok (Instr.iload_n 2, 1)) := fE fw_dX8_areSame_34_c 13 rfl
theorem dX8_areSame_56 : Eq (decode cX8_areSame 56) (Except.ok (Instr.iaload, 1)) := fE fw_dX8_areSame_34_c 14 rfl
theorem dX8_areSame_57 : Eq (decode cX8_areSame 57) (Except.ok (Instr.if_icmp .ne 7, 3)) := fE fw_dX8_areSame_34_c 15 rfl
theorem dX8_areSame_60 : Eq (decode cX8_areSame 60) (Except.ok (Instr.iconst 1, 1)) := fE fw_dX8_areSame_34_c 16 rfl
theorem dX8_areSame_61 : Eq (decode cX8_areSame 61) (Except.ok (Instr.goto 4, 3)) := fE fw_dX8_areSame_34_c 17 rfl
theorem dX8_areSame_64 : Eq (decode cX8_areSame 64) (Except.ok (Instr.iconst 0, 1)) := fE fw_dX8_areSame_34_c 18 rfl
theorem dX8_areSame_65 : Eq (decode cX8_areSame 65) (Except.ok (Instr.ireturn, 1)) := fE fw_dX8_areSame_34_c 19 rfl
set_option maxRecDepth 20000 in
theorem gi_wsX8_isLike_0 : GoodIn wsX8_isLike wsX8_isLike := goodIn_sub (fun _ h => h) (by decide +kernel)
set_option maxRecDepth 20000 in
theorem gi_wsX8_isLike_1 : GoodIn wsX8_isLike wsX80 := goodIn_sub (fun w h => List.mem_cons_of_mem _ (List.mem_append_right _ h)) (by decide +kernel)
def bs_wsX8_isLike : List (List Cond) := [wsX8_isLike, wsX80]
theorem bs_wsX8_isLike_in : ∀ b ∈ bs_wsX8_isLike, GoodIn wsX8_isLike b := List.forall_mem_cons.mpr ⟨gi_wsX8_isLike_0, List.forall_mem_cons.mpr ⟨gi_wsX8_isLike_1, (fun _ h => absurd h List.not_mem_nil)⟩⟩
set_option maxRecDepth 20000 in
theorem ggX8_isLike_X8_actOf : GoodIn wsX8_isLike wsX8_actOf := goodIn_k (gi_q bs_wsX8_isLike_in _ [(0, 7)] rfl) (goodIn_app (gi_q bs_wsX8_isLike_in _ [(0, 8), (0, 9)] rfl) (gi_wsX8_isLike_1))
set_option maxRecDepth 20000 in
theorem gX8_isLike_X8_actOf : GoodIn wsX8_isLike (wsV RX8 198 RX8 yX8_actOf wsX8_actOf) := goodIn_app (gi_q bs_wsX8_isLike_in _ [(0, 3), (0, 4), (0, 5), (0, 6)] rfl) ggX8_isLike_X8_actOf
set_option maxRecDepth 20000 in
theorem ggX8_isLike_X8_areSame : GoodIn wsX8_isLike wsX8_areSame := goodIn_k (gi_q bs_wsX8_isLike_in _ [(0, 13)] rfl) (goodIn_app (gi_q bs_wsX8_isLike_in _ [(0, 14), (0, 15), (0, 16), (0, 17)] rfl) (gi_wsX8_isLike_1))
set_option maxRecDepth 20000 in
theorem gX8_isLike_X8_areSame : GoodIn wsX8_isLike (wsV RX8 202 RX8 yX8_areSame wsX8_areSame) := goodIn_app (gi_q bs_wsX8_isLike_in _ [(0, 10), (0, 11), (0, 12), (0, 6)] rfl) ggX8_isLike_X8_areSame
def fw_dX8_isLike_0 : List (Nat × Instr × Nat) := [(0, .iconst 0, 1), (1, .istore 4, 2), (3, .iload 4, 2), (5, .bipush 10, 2), (7, .if_icmp .gt 74, 3), (10, .aload_n 0, 1), (11, .iload_n 1, 1), (12, .iload_n 2, 1), (13, .iload 4, 2), (15, .invokevirtual 198, 3), (18, .istore 5, 2), (20, .aload_n 0, 1), (21, .aload_n 0, 1), (22, .getfield 70, 3), (25, .iload_n 3, 1), (26, .iaload, 1), (27, .aload_n 0, 1), (28, .getfield 73, 3), (31, .iload_n 3, 1), (32, .iaload, 1)]
theorem fw_dX8_isLike_0_c : fchk 0 (cX8_isLike.data.toList.drop 0) fw_dX8_isLike_0 = true := by decide +kernel
theorem dX8_isLike_0 : Eq (decode cX8_isLike 0) (Except.ok (Instr.iconst 0, 1)) := fE fw_dX8_isLike_0_c 0 rfl
theorem dX8_isLike_1 : Eq (decode cX8_isLike 1) (Except.ok (Instr.istore 4, 2)) := fE fw_dX8_isLike_0_c 1 rfl
theorem dX8_isLike_3 : Eq (decode cX8_isLike 3) (Except.ok (Instr.iload 4, 2)) := fE fw_dX8_isLike_0_c 2 rfl
theorem dX8_isLike_5 : Eq (decode cX8_isLike 5) (Except.ok (Instr.bipush 10, 2)) := fE fw_dX8_isLike_0_c 3 rfl
theorem dX8_isLike_7 : Eq (decode cX8_isLike 7) (Except.ok (Instr.if_icmp .gt 74, 3)) := fE fw_dX8_isLike_0_c 4 rfl
theorem dX8_isLike_10 : Eq (decode cX8_isLike 10) (Except.ok (Instr.aload_n 0, 1)) := fE fw_dX8_isLike_0_c 5 rfl
theorem dX8_isLike_11 : Eq (decode cX8_isLike 11) (Except.ok (Instr.iload_n 1, 1)) := fE fw_dX8_isLike_0_c 6 rfl
theorem dX8_isLike_12 : Eq (decode cX8_isLike 12) (Except.ok (Instr.iload_n 2, 1)) := fE fw_dX8_isLike_0_c 7 rfl
theorem dX8_isLike_13 : Eq (decode cX8_isLike 13) (Except.ok (Instr.iload 4, 2)) := fE fw_dX8_isLike_0_c 8 rfl
theorem dX8_isLike_15 : Eq (decode cX8_isLike 15) (Except.ok (Instr.invokevirtual 198, 3)) := fE fw_dX8_isLike_0_c 9 rfl
theorem dX8_isLike_18 : Eq (decode cX8_isLike 18) (Except.ok (Instr.istore 5, 2)) := fE fw_dX8_isLike_0_c 10 rfl
theorem dX8_isLike_20 : Eq (decode cX8_isLike 20) (Except.ok (Instr.aload_n 0, 1)) := fE fw_dX8_isLike_0_c 11 rfl
theorem dX8_isLike_21 : Eq (decode cX8_isLike 21) (Except.ok (Instr.aload_n 0, 1)) := fE fw_dX8_isLike_0_c 12 rfl
theorem dX8_isLike_22 : Eq (decode cX8_isLike 22) (Except.ok (Instr.getfield 70, 3)) := fE fw_dX8_isLike_0_c 13 rfl
theorem dX8_isLike_25 : Eq (decode cX8_isLike 25) (Except.ok (Instr.iload_n 3, 1)) := fE fw_dX8_isLike_0_c 14 rfl
theorem dX8_isLike_26 : Eq (decode cX8_isLike 26) (Except.ok (Instr.iaload, 1)) := fE fw_dX8_isLike_0_c 15 rfl
theorem dX8_isLike_27 : Eq (decode cX8_isLike 27) (Except.ok (Instr.aload_n 0, 1)) := fE fw_dX8_isLike_0_c 16 rfl
theorem dX8_isLike_28 : Eq (decode cX8_isLike 28) (Except.ok (Instr.getfield 73, 3)) := fE fw_dX8_isLike_0_c 17 rfl
theorem dX8_isLike_31 : Eq (decode cX8_isLike 31) (Except.ok (Instr.iload_n 3, 1)) := fE fw_dX8_isLike_0_c 18 rfl
theorem dX8_isLike_32 : Eq (decode cX8_isLike 32) (Except.ok (Instr.iaload, 1)) := fE fw_dX8_isLike_0_c 19 rfl
def fw_dX8_isLike_33 : List (Nat × Instr × Nat) := [(33, .iload 4, 2), (35, .invokevirtual 198, 3), (38, .istore 6, 2), (40, .iload 5, 2), (42, .ifCond .ge 10, 3), (45, .iload 6, 2), (47, .ifCond .ge 5, 3), (50, .iconst 1, 1), (51, .ireturn, 1), (52, .iload 5, 2), (54, .ifCond .lt 19, 3), (57, .iload 6, 2), (59, .ifCond .lt 14, 3), (62, .aload_n 0, 1), (63, .iload 5, 2), (65, .iload 6, 2), (67, .invokevirtual 202, 3), (70, .ifCond .ne 5, 3), (73, .iconst 0, 1), (74, .ireturn, 1)]
theorem fw_dX8_isLike_33_c : fchk 33 (cX8_isLike.data.toList.drop 33) fw_dX8_isLike_33 = true := by decide +kernel
theorem dX8_isLike_33 : Eq (decode cX8_isLike 33) (Except.ok (Instr.iload 4, 2)) := fE fw_dX8_isLike_33_c 0 rfl
theorem dX8_isLike_35 : Eq (decode cX8_isLike 35) (Except.ok (Instr.invokevirtual 198, 3)) := fE fw_dX8_isLike_33_c 1 rfl
theorem dX8_isLike_38 : Eq (decode cX8_isLike 38) (Except.ok (Instr.istore 6, 2)) := fE fw_dX8_isLike_33_c 2 rfl
theorem dX8_isLike_40 : Eq (decode cX8_isLike 40) (Except.ok (Instr.iload 5, 2)) := fE fw_dX8_isLike_33_c 3 rfl
theorem dX8_isLike_42 : Eq (decode cX8_isLike 42) (Except.ok (Instr.ifCond .ge 10, 3)) := fE fw_dX8_isLike_33_c 4 rfl
theorem dX8_isLike_45 : Eq (decode cX8_isLike 45) (Except.ok (Instr.iload 6, 2)) := fE fw_dX8_isLike_33_c 5 rfl
theorem dX8_isLike_47 : Eq (decode cX8_isLike 47) (Except.ok (Instr.ifCond .ge 5, 3)) := fE fw_dX8_isLike_33_c 6 rfl
theorem dX8_isLike_50 : Eq (decode cX8_isLike 50) (Except.ok (Instr.iconst 1, 1)) := fE fw_dX8_isLike_33_c 7 rfl
theorem dX8_isLike_51 : Eq (decode cX8_isLike 51) (Except.ok (Instr.ireturn, 1)) := fE fw_dX8_isLike_33_c 8 rfl
theorem dX8_isLike_52 : Eq (decode cX8_isLike 52) (Except.ok (Instr.iload 5, 2)) := fE fw_dX8_isLike_33_c 9 rfl
theorem dX8_isLike_54 : Eq (decode cX8_isLike 54) (Except.ok (Instr.ifCond .lt 19, 3)) := fE fw_dX8_isLike_33_c 10 rfl
theorem dX8_isLike_57 : Eq (decode cX8_isLike 57) (Except.ok (Instr.iload 6, 2)) := fE fw_dX8_isLike_33_c 11 rfl
theorem dX8_isLike_59 : Eq (decode cX8_isLike 59) (Except.ok (Instr.ifCond .lt 14, 3)) := fE fw_dX8_isLike_33_c 12 rfl
theorem dX8_isLike_62 : Eq (decode cX8_isLike 62) (Except.ok (Instr.aload_n 0, 1)) := fE fw_dX8_isLike_33_c 13 rfl
theorem dX8_isLike_63 : Eq (decode cX8_isLike 63) (Except.ok (Instr.iload 5, 2)) := fE fw_dX8_isLike_33_c 14 rfl
theorem dX8_isLike_65 : Eq (decode cX8_isLike 65) (Except.ok (Instr.iload 6, 2)) := fE fw_dX8_isLike_33_c 15 rfl
theorem dX8_isLike_67 : Eq (decode cX8_isLike 67) (Except.ok (Instr.invokevirtual 202, 3)) := fE fw_dX8_isLike_33_c 16 rfl
theorem dX8_isLike_70 : Eq (decode cX8_isLike 70) (Except.ok (Instr.ifCond .ne 5, 3)) := fE fw_dX8_isLike_33_c 17 rfl
theorem dX8_isLike_73 : Eq (decode cX8_isLike 73) (Except.ok (Instr.iconst 0, 1)) := fE fw_dX8_isLike_33_c 18 rfl
theorem dX8_isLike_74 : Eq (decode cX8_isLike 74) (Except.ok (Instr.ireturn, 1)) := fE fw_dX8_isLike_33_c 19 rfl
theorem dX8_isLike_75 : decode cX8_isLike 75 = .ok (.iinc 4 1, 3) := by decide +kernel
def fw_dX8_isLike_78 : List (Nat × Instr × Nat) := [(78, .goto (-75), 3), (81, .iconst 1, 1), (82, .ireturn, 1)]
theorem fw_dX8_isLike_78_c : fchk 78 (cX8_isLike.data.toList.drop 78) fw_dX8_isLike_78 = true := by decide +kernel
theorem dX8_isLike_78 : Eq (decode cX8_isLike 78) (Except.ok (Instr.goto (-75), 3)) := fE fw_dX8_isLike_78_c 0 rfl
theorem dX8_isLike_81 : Eq (decode cX8_isLike 81) (Except.ok (Instr.iconst 1, 1)) := fE fw_dX8_isLike_78_c 1 rfl
theorem dX8_isLike_82 : Eq (decode cX8_isLike 82) (Except.ok (Instr.ireturn, 1)) := fE fw_dX8_isLike_78_c 2 rfl
set_option maxRecDepth 20000 in
theorem gi_wsX8_lays_0 : GoodIn wsX8_lays wsX8_lays := goodIn_sub (fun _ h => h) (by decide +kernel)
set_option maxRecDepth 20000 in
theorem gi_wsX8_lays_1 : GoodIn wsX8_lays wsX80 := goodIn_sub (fun w h => List.mem_cons_of_mem _ (List.mem_append_right _ h)) (by decide +kernel)
def bs_wsX8_lays : List (List Cond) := [wsX8_lays, wsX80]
theorem bs_wsX8_lays_in : ∀ b ∈ bs_wsX8_lays, GoodIn wsX8_lays b := List.forall_mem_cons.mpr ⟨gi_wsX8_lays_0, List.forall_mem_cons.mpr ⟨gi_wsX8_lays_1, (fun _ h => absurd h List.not_mem_nil)⟩⟩
set_option maxRecDepth 20000 in
theorem ggX8_lays_X8_isLike : GoodIn wsX8_lays wsX8_isLike := goodIn_k (gi_q bs_wsX8_lays_in _ [(0, 10)] rfl) (goodIn_app (gi_q bs_wsX8_lays_in _ [(0, 4), (0, 5), (0, 11), (0, 12), (0, 13), (0, 9), (0, 14), (0, 15), (0, 16), (0, 17), (0, 18), (0, 19), (0, 20), (0, 21), (0, 22), (0, 23), (0, 24)] rfl) (gi_wsX8_lays_1))
set_option maxRecDepth 20000 in
theorem gX8_lays_X8_isLike : GoodIn wsX8_lays (wsV RX8 208 RX8 yX8_isLike wsX8_isLike) := goodIn_app (gi_q bs_wsX8_lays_in _ [(0, 6), (0, 7), (0, 8), (0, 9)] rfl) ggX8_lays_X8_isLike
def fw_dX8_lays_0 : List (Nat × Instr × Nat) := [(0, .iconst 0, 1), (1, .istore 4, 2), (3, .iload 4, 2), (5, .aload_n 0, 1), (6, .getfield 205, 3), (9, .if_icmp .ge 48, 3), (12, .aload_n 0, 1), (13, .getfield 76, 3), (16, .iload 4, 2), (18, .iaload, 1), (19, .iload_n 3, 1), (20, .if_icmp .ne 31, 3), (23, .aload_n 0, 1), (24, .iload_n 1, 1), (25, .iload_n 2, 1), (26, .iload 4, 2), (28, .invokevirtual 208, 3), (31, .ifCond .ne 6, 3), (34, .goto 17, 3), (37, .aload_n 0, 1)]
theorem fw_dX8_lays_0_c : fchk 0 (cX8_lays.data.toList.drop 0) fw_dX8_lays_0 = true := by decide +kernel
theorem dX8_lays_0 : Eq (decode cX8_lays 0) (Except.ok (Instr.iconst 0, 1)) := fE fw_dX8_lays_0_c 0 rfl
theorem dX8_lays_1 : Eq (decode cX8_lays 1) (Except.ok (Instr.istore 4, 2)) := fE fw_dX8_lays_0_c 1 rfl
theorem dX8_lays_3 : Eq (decode cX8_lays 3) (Except.ok (Instr.iload 4, 2)) := fE fw_dX8_lays_0_c 2 rfl
theorem dX8_lays_5 : Eq (decode cX8_lays 5) (Except.ok (Instr.aload_n 0, 1)) := fE fw_dX8_lays_0_c 3 rfl
theorem dX8_lays_6 : Eq (decode cX8_lays 6) (Except.ok (Instr.getfield 205, 3)) := fE fw_dX8_lays_0_c 4 rfl
theorem dX8_lays_9 : Eq (decode cX8_lays 9) (Except.ok (Instr.if_icmp .ge 48, 3)) := fE fw_dX8_lays_0_c 5 rfl
theorem dX8_lays_12 : Eq (decode cX8_lays 12) (Except.ok (Instr.aload_n 0, 1)) := fE fw_dX8_lays_0_c 6 rfl
theorem dX8_lays_13 : Eq (decode cX8_lays 13) (Except.ok (Instr.getfield 76, 3)) := fE fw_dX8_lays_0_c 7 rfl
theorem dX8_lays_16 : Eq (decode cX8_lays 16) (Except.ok (Instr.iload 4, 2)) := fE fw_dX8_lays_0_c 8 rfl
theorem dX8_lays_18 : Eq (decode cX8_lays 18) (Except.ok (Instr.iaload, 1)) := fE fw_dX8_lays_0_c 9 rfl
theorem dX8_lays_19 : Eq (decode cX8_lays 19) (Except.ok (Instr.iload_n 3, 1)) := fE fw_dX8_lays_0_c 10 rfl
theorem dX8_lays_20 : Eq (decode cX8_lays 20) (Except.ok (Instr.if_icmp .ne 31, 3)) := fE fw_dX8_lays_0_c 11 rfl
theorem dX8_lays_23 : Eq (decode cX8_lays 23) (Except.ok (Instr.aload_n 0, 1)) := fE fw_dX8_lays_0_c 12 rfl
theorem dX8_lays_24 : Eq (decode cX8_lays 24) (Except.ok (Instr.iload_n 1, 1)) := fE fw_dX8_lays_0_c 13 rfl
theorem dX8_lays_25 : Eq (decode cX8_lays 25) (Except.ok (Instr.iload_n 2, 1)) := fE fw_dX8_lays_0_c 14 rfl
theorem dX8_lays_26 : Eq (decode cX8_lays 26) (Except.ok (Instr.iload 4, 2)) := fE fw_dX8_lays_0_c 15 rfl
theorem dX8_lays_28 : Eq (decode cX8_lays 28) (Except.ok (Instr.invokevirtual 208, 3)) := fE fw_dX8_lays_0_c 16 rfl
theorem dX8_lays_31 : Eq (decode cX8_lays 31) (Except.ok (Instr.ifCond .ne 6, 3)) := fE fw_dX8_lays_0_c 17 rfl
theorem dX8_lays_34 : Eq (decode cX8_lays 34) (Except.ok (Instr.goto 17, 3)) := fE fw_dX8_lays_0_c 18 rfl
theorem dX8_lays_37 : Eq (decode cX8_lays 37) (Except.ok (Instr.aload_n 0, 1)) := fE fw_dX8_lays_0_c 19 rfl
def fw_dX8_lays_38 : List (Nat × Instr × Nat) := [(38, .getfield 79, 3), (41, .iload 4, 2), (43, .dup2, 1), (44, .iaload, 1), (45, .iconst 1, 1), (46, .iadd, 1), (47, .iastore, 1), (48, .iload 4, 2), (50, .ireturn, 1)]
theorem fw_dX8_lays_38_c : fchk 38 (cX8_lays.data.toList.drop 38) fw_dX8_lays_38 = true := by decide +kernel
theorem dX8_lays_38 : Eq (decode cX8_lays 38) (Except.ok (Instr.getfield 79, 3)) := fE fw_dX8_lays_38_c 0 rfl
theorem dX8_lays_41 : Eq (decode cX8_lays 41) (Except.ok (Instr.iload 4, 2)) := fE fw_dX8_lays_38_c 1 rfl
theorem dX8_lays_43 : Eq (decode cX8_lays 43) (Except.ok (Instr.dup2, 1)) := fE fw_dX8_lays_38_c 2 rfl
theorem dX8_lays_44 : Eq (decode cX8_lays 44) (Except.ok (Instr.iaload, 1)) := fE fw_dX8_lays_38_c 3 rfl
theorem dX8_lays_45 : Eq (decode cX8_lays 45) (Except.ok (Instr.iconst 1, 1)) := fE fw_dX8_lays_38_c 4 rfl
theorem dX8_lays_46 : Eq (decode cX8_lays 46) (Except.ok (Instr.iadd, 1)) := fE fw_dX8_lays_38_c 5 rfl
theorem dX8_lays_47 : Eq (decode cX8_lays 47) (Except.ok (Instr.iastore, 1)) := fE fw_dX8_lays_38_c 6 rfl
theorem dX8_lays_48 : Eq (decode cX8_lays 48) (Except.ok (Instr.iload 4, 2)) := fE fw_dX8_lays_38_c 7 rfl
theorem dX8_lays_50 : Eq (decode cX8_lays 50) (Except.ok (Instr.ireturn, 1)) := fE fw_dX8_lays_38_c 8 rfl
theorem dX8_lays_51 : decode cX8_lays 51 = .ok (.iinc 4 1, 3) := by decide +kernel
def fw_dX8_lays_54 : List (Nat × Instr × Nat) := [(54, .goto (-51), 3), (57, .aload_n 0, 1), (58, .getfield 205, 3), (61, .istore 4, 2), (63, .aload_n 0, 1), (64, .dup, 1), (65, .getfield 205, 3), (68, .iconst 1, 1), (69, .iadd, 1), (70, .putfield 205, 3), (73, .aload_n 0, 1), (74, .getfield 70, 3), (77, .iload 4, 2), (79, .iload_n 1, 1), (80, .iastore, 1), (81, .aload_n 0, 1), (82, .getfield 73, 3), (85, .iload 4, 2), (87, .iload_n 2, 1), (88, .iastore, 1)]
theorem fw_dX8_lays_54_c : fchk 54 (cX8_lays.data.toList.drop 54) fw_dX8_lays_54 = true := by decide +kernel
theorem dX8_lays_54 : Eq (decode cX8_lays 54) (Except.ok (Instr.goto (-51), 3)) := fE fw_dX8_lays_54_c 0 rfl
theorem dX8_lays_57 : Eq (decode cX8_lays 57) (Except.ok (Instr.aload_n 0, 1)) := fE fw_dX8_lays_54_c 1 rfl
theorem dX8_lays_58 : Eq (decode cX8_lays 58) (Except.ok (Instr.getfield 205, 3)) := fE fw_dX8_lays_54_c 2 rfl
theorem dX8_lays_61 : Eq (decode cX8_lays 61) (Except.ok (Instr.istore 4, 2)) := fE fw_dX8_lays_54_c 3 rfl
theorem dX8_lays_63 : Eq (decode cX8_lays 63) (Except.ok (Instr.aload_n 0, 1)) := fE fw_dX8_lays_54_c 4 rfl
theorem dX8_lays_64 : Eq (decode cX8_lays 64) (Except.ok (Instr.dup, 1)) := fE fw_dX8_lays_54_c 5 rfl
theorem dX8_lays_65 : Eq (decode cX8_lays 65) (Except.ok (Instr.getfield 205, 3)) := fE fw_dX8_lays_54_c 6 rfl
theorem dX8_lays_68 : Eq (decode cX8_lays 68) (Except.ok (Instr.iconst 1, 1)) := fE fw_dX8_lays_54_c 7 rfl
theorem dX8_lays_69 : Eq (decode cX8_lays 69) (Except.ok (Instr.iadd, 1)) := fE fw_dX8_lays_54_c 8 rfl
theorem dX8_lays_70 : Eq (decode cX8_lays 70) (Except.ok (Instr.putfield 205, 3)) := fE fw_dX8_lays_54_c 9 rfl
theorem dX8_lays_73 : Eq (decode cX8_lays 73) (Except.ok (Instr.aload_n 0, 1)) := fE fw_dX8_lays_54_c 10 rfl
theorem dX8_lays_74 : Eq (decode cX8_lays 74) (Except.ok (Instr.getfield 70, 3)) := fE fw_dX8_lays_54_c 11 rfl
theorem dX8_lays_77 : Eq (decode cX8_lays 77) (Except.ok (Instr.iload 4, 2)) := fE fw_dX8_lays_54_c 12 rfl
theorem dX8_lays_79 : Eq (decode cX8_lays 79) (Except.ok (Instr.iload_n 1, 1)) := fE fw_dX8_lays_54_c 13 rfl
theorem dX8_lays_80 : Eq (decode cX8_lays 80) (Except.ok (Instr.iastore, 1)) := fE fw_dX8_lays_54_c 14 rfl
theorem dX8_lays_81 : Eq (decode cX8_lays 81) (Except.ok (Instr.aload_n 0, 1)) := fE fw_dX8_lays_54_c 15 rfl
theorem dX8_lays_82 : Eq (decode cX8_lays 82) (Except.ok (Instr.getfield 73, 3)) := fE fw_dX8_lays_54_c 16 rfl
theorem dX8_lays_85 : Eq (decode cX8_lays 85) (Except.ok (Instr.iload 4, 2)) := fE fw_dX8_lays_54_c 17 rfl
theorem dX8_lays_87 : Eq (decode cX8_lays 87) (Except.ok (Instr.iload_n 2, 1)) := fE fw_dX8_lays_54_c 18 rfl
theorem dX8_lays_88 : Eq (decode cX8_lays 88) (Except.ok (Instr.iastore, 1)) := fE fw_dX8_lays_54_c 19 rfl
def fw_dX8_lays_89 : List (Nat × Instr × Nat) := [(89, .aload_n 0, 1), (90, .getfield 76, 3), (93, .iload 4, 2), (95, .iload_n 3, 1), (96, .iastore, 1), (97, .aload_n 0, 1), (98, .getfield 79, 3), (101, .iload 4, 2), (103, .iconst 1, 1), (104, .iastore, 1), (105, .iload 4, 2), (107, .ireturn, 1)]
theorem fw_dX8_lays_89_c : fchk 89 (cX8_lays.data.toList.drop 89) fw_dX8_lays_89 = true := by decide +kernel
theorem dX8_lays_89 : Eq (decode cX8_lays 89) (Except.ok (Instr.aload_n 0, 1)) := fE fw_dX8_lays_89_c 0 rfl
theorem dX8_lays_90 : Eq (decode cX8_lays 90) (Except.ok (Instr.getfield 76, 3)) := fE fw_dX8_lays_89_c 1 rfl
theorem dX8_lays_93 : Eq (decode cX8_lays 93) (Except.ok (Instr.iload 4, 2)) := fE fw_dX8_lays_89_c 2 rfl
theorem dX8_lays_95 : Eq (decode cX8_lays 95) (Except.ok (Instr.iload_n 3, 1)) := fE fw_dX8_lays_89_c 3 rfl
theorem dX8_lays_96 : Eq (decode cX8_lays 96) (Except.ok (Instr.iastore, 1)) := fE fw_dX8_lays_89_c 4 rfl
theorem dX8_lays_97 : Eq (decode cX8_lays 97) (Except.ok (Instr.aload_n 0, 1)) := fE fw_dX8_lays_89_c 5 rfl
theorem dX8_lays_98 : Eq (decode cX8_lays 98) (Except.ok (Instr.getfield 79, 3)) := fE fw_dX8_lays_89_c 6 rfl
theorem dX8_lays_101 : Eq (decode cX8_lays 101) (Except.ok (Instr.iload 4, 2)) := fE fw_dX8_lays_89_c 7 rfl
theorem dX8_lays_103 : Eq (decode cX8_lays 103) (Except.ok (Instr.iconst 1, 1)) := fE fw_dX8_lays_89_c 8 rfl
theorem dX8_lays_104 : Eq (decode cX8_lays 104) (Except.ok (Instr.iastore, 1)) := fE fw_dX8_lays_89_c 9 rfl
theorem dX8_lays_105 : Eq (decode cX8_lays 105) (Except.ok (Instr.iload 4, 2)) := fE fw_dX8_lays_89_c 10 rfl
theorem dX8_lays_107 : Eq (decode cX8_lays 107) (Except.ok (Instr.ireturn, 1)) := fE fw_dX8_lays_89_c 11 rfl
set_option maxRecDepth 20000 in
theorem gi_wsX8_store_0 : GoodIn wsX8_store wsX8_store_r1 := goodIn_sub (fun w h => List.mem_cons_of_mem _ (List.mem_append_left _ (List.mem_append_left _ h))) (by decide +kernel)
set_option maxRecDepth 20000 in
theorem gi_wsX8_store_1 : GoodIn wsX8_store wsX8_store_r2 := goodIn_sub (fun w h => List.mem_cons_of_mem _ (List.mem_append_left _ (List.mem_append_right _ (List.mem_append_left _ h)))) (by decide +kernel)
set_option maxRecDepth 20000 in
theorem gi_wsX8_store_2 : GoodIn wsX8_store wsX8_store_r3 := goodIn_sub (fun w h => List.mem_cons_of_mem _ (List.mem_append_left _ (List.mem_append_right _ (List.mem_append_right _ (List.mem_append_left _ h))))) (by decide +kernel)
set_option maxRecDepth 20000 in
theorem gi_wsX8_store_3 : GoodIn wsX8_store wsX8_store_r4 := goodIn_sub (fun w h => List.mem_cons_of_mem _ (List.mem_append_left _ (List.mem_append_right _ (List.mem_append_right _ (List.mem_append_right _ h))))) (by decide +kernel)
set_option maxRecDepth 20000 in
theorem gi_wsX8_store_4 : GoodIn wsX8_store wsX80 := goodIn_sub (fun w h => List.mem_cons_of_mem _ (List.mem_append_right _ h)) (by decide +kernel)
def bs_wsX8_store : List (List Cond) := [wsX8_store_r1, wsX8_store_r2, wsX8_store_r3, wsX8_store_r4, wsX80]
theorem bs_wsX8_store_in : ∀ b ∈ bs_wsX8_store, GoodIn wsX8_store b := List.forall_mem_cons.mpr ⟨gi_wsX8_store_0, List.forall_mem_cons.mpr ⟨gi_wsX8_store_1, List.forall_mem_cons.mpr ⟨gi_wsX8_store_2, List.forall_mem_cons.mpr ⟨gi_wsX8_store_3, List.forall_mem_cons.mpr ⟨gi_wsX8_store_4, (fun _ h => absurd h List.not_mem_nil)⟩⟩⟩⟩⟩
set_option maxRecDepth 20000 in
theorem ggX8_store_X8_packs : GoodIn wsX8_store wsX8_packs := goodIn_k (gi_q bs_wsX8_store_in _ [(0, 8)] rfl) (goodIn_app (goodIn_app (gi_q bs_wsX8_store_in _ [(0, 9), (0, 10), (0, 11), (0, 12), (0, 13), (0, 14), (0, 1), (0, 15), (0, 16), (0, 17), (0, 7), (0, 18), (0, 19), (0, 20), (0, 21), (0, 22), (0, 23), (1, 0), (1, 1), (1, 2), (1, 3), (1, 4), (1, 5), (1, 6)] rfl) (gi_q bs_wsX8_store_in _ [(1, 7), (1, 8), (1, 9), (1, 10), (1, 11), (1, 12), (1, 13), (1, 14), (1, 15), (1, 16), (1, 17), (1, 18), (1, 19), (1, 20)] rfl)) (gi_wsX8_store_4))
set_option maxRecDepth 20000 in
theorem gX8_store_X8_packs : GoodIn wsX8_store (wsV RX8 194 RX8 yX8_packs wsX8_packs) := goodIn_app (gi_q bs_wsX8_store_in _ [(0, 4), (0, 5), (0, 6), (0, 7)] rfl) ggX8_store_X8_packs
set_option maxRecDepth 20000 in
theorem ggX8_store_X8_lays : GoodIn wsX8_store wsX8_lays := goodIn_k (gi_q bs_wsX8_store_in _ [(2, 0)] rfl) (goodIn_app (gi_q bs_wsX8_store_in _ [(0, 0), (2, 1), (2, 2), (2, 3), (2, 4), (2, 5), (2, 6), (2, 7), (0, 7), (2, 8), (2, 9), (2, 10), (2, 11), (2, 12), (0, 10), (0, 14), (2, 13), (2, 14), (2, 15), (2, 16), (0, 19), (1, 0), (1, 8), (1, 9)] rfl) (gi_wsX8_store_4))
