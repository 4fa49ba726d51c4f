set_option maxRecDepth 20000 in
theorem ggX7_init_X2_init : GoodIn wsX7_init wsX2_init := goodIn_r _ [39, 40, 2, 3, 28, 41, 31, 42, 43, 44, 45, 46, 47, 48, 123, 124, 125, 126, 127] rfl (by decide +kernel)
set_option maxRecDepth 20000 in
theorem gX7_init_X2_init : GoodIn wsX7_init (wsX2_init) := ggX7_init_X2_init
set_option maxRecDepth 20000 in
theorem ggX7_init_X5_init : GoodIn wsX7_init wsX5_init := goodIn_r _ [50, 51, 2, 3, 28, 52, 53, 54, 55, 56, 57, 58, 144, 145, 146, 147, 148, 149, 150] rfl (by decide +kernel)
set_option maxRecDepth 20000 in
theorem gX7_init_X5_init_n18 : GoodIn wsX7_init (wsX5_init) := ggX7_init_X5_init
set_option maxRecDepth 20000 in
theorem ggX7_init_X3_init : GoodIn wsX7_init wsX3_init := goodIn_r _ [61, 62, 2, 3, 63, 64, 28, 65, 66, 67, 68, 69, 70, 71, 72, 73, 74, 75, 76, 77, 78, 79, 80, 81, 82, 83, 84, 85, 86, 151, 152, 153, 154, 155, 156, 157, 189, 190, 191, 192, 193, 194, 195, 196, 197, 198] rfl (by decide +kernel)
set_option maxRecDepth 20000 in
theorem gX7_init_X3_init : GoodIn wsX7_init (wsX3_init) := ggX7_init_X3_init
set_option maxRecDepth 20000 in
theorem ggX7_init_X4_init : GoodIn wsX7_init wsX4_init := goodIn_r _ [89, 90, 2, 3, 28, 91, 92, 93, 94, 95, 96, 97, 158, 159, 160, 161, 162, 163, 164, 165, 166] rfl (by decide +kernel)
set_option maxRecDepth 20000 in
theorem gX7_init_X4_init : GoodIn wsX7_init (wsX4_init) := ggX7_init_X4_init
set_option maxRecDepth 20000 in
theorem ggX7_init_X1_init : GoodIn wsX7_init wsX1_init := goodIn_r _ [100, 101, 2, 3, 28, 102, 103, 104, 105, 106, 107, 108, 109, 110, 167, 168, 169, 170, 171, 172, 173, 174, 175, 176, 177, 178] rfl (by decide +kernel)
set_option maxRecDepth 20000 in
theorem gX7_init_X1_init : GoodIn wsX7_init (wsX1_init) := ggX7_init_X1_init
set_option maxRecDepth 20000 in
theorem ggX7_init_X0_init : GoodIn wsX7_init wsX0_init := goodIn_r _ [113, 114, 2, 3, 115, 28, 116, 31, 117, 118, 119, 120, 121, 179, 180, 181, 182, 183, 184, 185, 186, 187, 188] rfl (by decide +kernel)
set_option maxRecDepth 20000 in
theorem gX7_init_X0_init : GoodIn wsX7_init (wsX0_init) := ggX7_init_X0_init
set_option maxRecDepth 20000 in
theorem ggX7_init_J7_fill_53178 : GoodIn wsX7_init wsJ7_fill_53178 := goodIn_r _ [48] rfl (by decide +kernel)
set_option maxRecDepth 20000 in
theorem gX7_init_J7_fill_53178 : GoodIn wsX7_init (va_wsS RX7 77 yJ7_fill_53178 wsJ7_fill_53178) := goodIn_app (goodIn_of _ (by decide +kernel)) ggX7_init_J7_fill_53178
def fw_dX7_init_0 : List (Nat × Instr × Nat) := [(0, .aload_n 0, 1), (1, .invokespecial 3, 3), (4, .aload_n 0, 1), (5, .new 9, 3), (8, .dup, 1), (9, .invokespecial 11, 3), (12, .putfield 12, 3), (15, .aload_n 0, 1), (16, .new 16, 3), (19, .dup, 1), (20, .invokespecial 18, 3), (23, .putfield 19, 3), (26, .aload_n 0, 1), (27, .new 23, 3), (30, .dup, 1), (31, .aload_n 0, 1), (32, .getfield 19, 3), (35, .invokespecial 25, 3), (38, .putfield 28, 3), (41, .aload_n 0, 1), (42, .new 32, 3), (45, .dup, 1), (46, .aload_n 0, 1), (47, .getfield 19, 3), (50, .aload_n 0, 1), (51, .getfield 28, 3), (54, .invokespecial 34, 3), (57, .putfield 37, 3), (60, .aload_n 0, 1), (61, .new 41, 3), (64, .dup, 1), (65, .aload_n 0, 1), (66, .getfield 19, 3), (69, .aload_n 0, 1), (70, .getfield 37, 3), (73, .invokespecial 43, 3), (76, .putfield 46, 3), (79, .aload_n 0, 1), (80, .new 50, 3), (83, .dup, 1)]
theorem fw_dX7_init_0_c : fchk 0 (cX7_init.data.toList.drop 0) fw_dX7_init_0 = true := by decide +kernel
theorem dX7_init_0 : decode cX7_init 0 = .ok (.aload_n 0, 1) := fchk_d fw_dX7_init_0_c (0, .aload_n 0, 1) (List.mem_of_getElem? (i := 0) rfl)
theorem dX7_init_1 : decode cX7_init 1 = .ok (.invokespecial 3, 3) := fchk_d fw_dX7_init_0_c (1, .invokespecial 3, 3) (List.mem_of_getElem? (i := 1) rfl)
theorem dX7_init_4 : decode cX7_init 4 = .ok (.aload_n 0, 1) := fchk_d fw_dX7_init_0_c (4, .aload_n 0, 1) (List.mem_of_getElem? (i := 2) rfl)
theorem dX7_init_5 : decode cX7_init 5 = .ok (.new 9, 3) := fchk_d fw_dX7_init_0_c (5, .new 9, 3) (List.mem_of_getElem? (i := 3) rfl)
theorem dX7_init_8 : decode cX7_init 8 = .ok (.dup, 1) := fchk_d fw_dX7_init_0_c (8, .dup, 1) (List.mem_of_getElem? (i := 4) rfl)
theorem dX7_init_9 : decode cX7_init 9 = .ok (.invokespecial 11, 3) := fchk_d fw_dX7_init_0_c (9, .invokespecial 11, 3) (List.mem_of_getElem? (i := 5) rfl)
theorem dX7_init_12 : decode cX7_init 12 = .ok (.putfield 12, 3) := fchk_d fw_dX7_init_0_c (12, .putfield 12, 3) (List.mem_of_getElem? (i := 6) rfl)
theorem dX7_init_15 : decode cX7_init 15 = .ok (.aload_n 0, 1) := fchk_d fw_dX7_init_0_c (15, .aload_n 0, 1) (List.mem_of_getElem? (i := 7) rfl)
theorem dX7_init_16 : decode cX7_init 16 = .ok (.new 16, 3) := fchk_d fw_dX7_init_0_c (16, .new 16, 3) (List.mem_of_getElem? (i := 8) rfl)
theorem dX7_init_19 : decode cX7_init 19 = .ok (.dup, 1) := fchk_d fw_dX7_init_0_c (19, .dup, 1) (List.mem_of_getElem? (i := 9) rfl)
theorem dX7_init_20 : decode cX7_init 20 = .ok (.invokespecial 18, 3) := fchk_d fw_dX7_init_0_c (20, .invokespecial 18, 3) (List.mem_of_getElem? (i := 10) rfl)
theorem dX7_init_23 : decode cX7_init 23 = .ok (.putfield 19, 3) := fchk_d fw_dX7_init_0_c (23, .putfield 19, 3) (List.mem_of_getElem? (i := 11) rfl)
theorem dX7_init_26 : decode cX7_init 26 = .ok (.aload_n 0, 1) := fchk_d fw_dX7_init_0_c (26, .aload_n 0, 1) (List.mem_of_getElem? (i := 12) rfl)
theorem dX7_init_27 : decode cX7_init 27 = .ok (.new 23, 3) := fchk_d fw_dX7_init_0_c (27, .new 23, 3) (List.mem_of_getElem? (i := 13) rfl)
theorem dX7_init_30 : decode cX7_init 30 = .ok (.dup, 1) := fchk_d fw_dX7_init_0_c (30, .dup, 1) (List.mem_of_getElem? (i := 14) rfl)
theorem dX7_init_31 : decode cX7_init 31 = .ok (.aload_n 0, 1) := fchk_d fw_dX7_init_0_c (31, .aload_n 0, 1) (List.mem_of_getElem? (i := 15) rfl)
theorem dX7_init_32 : decode cX7_init 32 = .ok (.getfield 19, 3) := fchk_d fw_dX7_init_0_c (32, .getfield 19, 3) (List.mem_of_getElem? (i := 16) rfl)
theorem dX7_init_35 : decode cX7_init 35 = .ok (.invokespecial 25, 3) := fchk_d fw_dX7_init_0_c (35, .invokespecial 25, 3) (List.mem_of_getElem? (i := 17) rfl)
theorem dX7_init_38 : decode cX7_init 38 = .ok (.putfield 28, 3) := fchk_d fw_dX7_init_0_c (38, .putfield 28, 3) (List.mem_of_getElem? (i := 18) rfl)
theorem dX7_init_41 : decode cX7_init 41 = .ok (.aload_n 0, 1) := fchk_d fw_dX7_init_0_c (41, .aload_n 0, 1) (List.mem_of_getElem? (i := 19) rfl)
theorem dX7_init_42 : decode cX7_init 42 = .ok (.new 32, 3) := fchk_d fw_dX7_init_0_c (42, .new 32, 3) (List.mem_of_getElem? (i := 20) rfl)
theorem dX7_init_45 : decode cX7_init 45 = .ok (.dup, 1) := fchk_d fw_dX7_init_0_c (45, .dup, 1) (List.mem_of_getElem? (i := 21) rfl)
theorem dX7_init_46 : decode cX7_init 46 = .ok (.aload_n 0, 1) := fchk_d fw_dX7_init_0_c (46, .aload_n 0, 1) (List.mem_of_getElem? (i := 22) rfl)
theorem dX7_init_47 : decode cX7_init 47 = .ok (.getfield 19, 3) := fchk_d fw_dX7_init_0_c (47, .getfield 19, 3) (List.mem_of_getElem? (i := 23) rfl)
theorem dX7_init_50 : decode cX7_init 50 = .ok (.aload_n 0, 1) := fchk_d fw_dX7_init_0_c (50, .aload_n 0, 1) (List.mem_of_getElem? (i := 24) rfl)
theorem dX7_init_51 : decode cX7_init 51 = .ok (.getfield 28, 3) := fchk_d fw_dX7_init_0_c (51, .getfield 28, 3) (List.mem_of_getElem? (i := 25) rfl)
theorem dX7_init_54 : decode cX7_init 54 = .ok (.invokespecial 34, 3) := fchk_d fw_dX7_init_0_c (54, .invokespecial 34, 3) (List.mem_of_getElem? (i := 26) rfl)
theorem dX7_init_57 : decode cX7_init 57 = .ok (.putfield 37, 3) := fchk_d fw_dX7_init_0_c (57, .putfield 37, 3) (List.mem_of_getElem? (i := 27) rfl)
theorem dX7_init_60 : decode cX7_init 60 = .ok (.aload_n 0, 1) := fchk_d fw_dX7_init_0_c (60, .aload_n 0, 1) (List.mem_of_getElem? (i := 28) rfl)
theorem dX7_init_61 : decode cX7_init 61 = .ok (.new 41, 3) := fchk_d fw_dX7_init_0_c (61, .new 41, 3) (List.mem_of_getElem? (i := 29) rfl)
theorem dX7_init_64 : decode cX7_init 64 = .ok (.dup, 1) := fchk_d fw_dX7_init_0_c (64, .dup, 1) (List.mem_of_getElem? (i := 30) rfl)
theorem dX7_init_65 : decode cX7_init 65 = .ok (.aload_n 0, 1) := fchk_d fw_dX7_init_0_c (65, .aload_n 0, 1) (List.mem_of_getElem? (i := 31) rfl)
theorem dX7_init_66 : decode cX7_init 66 = .ok (.getfield 19, 3) := fchk_d fw_dX7_init_0_c (66, .getfield 19, 3) (List.mem_of_getElem? (i := 32) rfl)
theorem dX7_init_69 : decode cX7_init 69 = .ok (.aload_n 0, 1) := fchk_d fw_dX7_init_0_c (69, .aload_n 0, 1) (List.mem_of_getElem? (i := 33) rfl)
theorem dX7_init_70 : decode cX7_init 70 = .ok (.getfield 37, 3) := fchk_d fw_dX7_init_0_c (70, .getfield 37, 3) (List.mem_of_getElem? (i := 34) rfl)
theorem dX7_init_73 : decode cX7_init 73 = .ok (.invokespecial 43, 3) := fchk_d fw_dX7_init_0_c (73, .invokespecial 43, 3) (List.mem_of_getElem? (i := 35) rfl)
theorem dX7_init_76 : decode cX7_init 76 = .ok (.putfield 46, 3) := fchk_d fw_dX7_init_0_c (76, .putfield 46, 3) (List.mem_of_getElem? (i := 36) rfl)
theorem dX7_init_79 : decode cX7_init 79 = .ok (.aload_n 0, 1) := fchk_d fw_dX7_init_0_c (79, .aload_n 0, 1) (List.mem_of_getElem? (i := 37) rfl)
theorem dX7_init_80 : decode cX7_init 80 = .ok (.new 50, 3) := fchk_d fw_dX7_init_0_c (80, .new 50, 3) (List.mem_of_getElem? (i := 38) rfl)
theorem dX7_init_83 : decode cX7_init 83 = .ok (.dup, 1) := fchk_d fw_dX7_init_0_c (83, .dup, 1) (List.mem_of_getElem? (i := 39) rfl)
def fw_dX7_init_84 : List (Nat × Instr × Nat) := [(84, .aload_n 0, 1), (85, .getfield 12, 3), (88, .aload_n 0, 1), (89, .getfield 19, 3), (92, .aload_n 0, 1), (93, .getfield 28, 3), (96, .invokespecial 52, 3), (99, .putfield 55, 3), (102, .aload_n 0, 1), (103, .iconst 3, 1)]
theorem fw_dX7_init_84_c : fchk 84 (cX7_init.data.toList.drop 84) fw_dX7_init_84 = true := by decide +kernel
theorem dX7_init_84 : decode cX7_init 84 = .ok (.aload_n 0, 1) := fchk_d fw_dX7_init_84_c (84, .aload_n 0, 1) (List.mem_of_getElem? (i := 0) rfl)
theorem dX7_init_85 : decode cX7_init 85 = .ok (.getfield 12, 3) := fchk_d fw_dX7_init_84_c (85, .getfield 12, 3) (List.mem_of_getElem? (i := 1) rfl)
theorem dX7_init_88 : decode cX7_init 88 = .ok (.aload_n 0, 1) := fchk_d fw_dX7_init_84_c (88, .aload_n 0, 1) (List.mem_of_getElem? (i := 2) rfl)
theorem dX7_init_89 : decode cX7_init 89 = .ok (.getfield 19, 3) := fchk_d fw_dX7_init_84_c (89, .getfield 19, 3) (List.mem_of_getElem? (i := 3) rfl)
theorem dX7_init_92 : decode cX7_init 92 = .ok (.aload_n 0, 1) := fchk_d fw_dX7_init_84_c (92, .aload_n 0, 1) (List.mem_of_getElem? (i := 4) rfl)
theorem dX7_init_93 : decode cX7_init 93 = .ok (.getfield 28, 3) := fchk_d fw_dX7_init_84_c (93, .getfield 28, 3) (List.mem_of_getElem? (i := 5) rfl)
theorem dX7_init_96 : decode cX7_init 96 = .ok (.invokespecial 52, 3) := fchk_d fw_dX7_init_84_c (96, .invokespecial 52, 3) (List.mem_of_getElem? (i := 6) rfl)
theorem dX7_init_99 : decode cX7_init 99 = .ok (.putfield 55, 3) := fchk_d fw_dX7_init_84_c (99, .putfield 55, 3) (List.mem_of_getElem? (i := 7) rfl)
theorem dX7_init_102 : decode cX7_init 102 = .ok (.aload_n 0, 1) := fchk_d fw_dX7_init_84_c (102, .aload_n 0, 1) (List.mem_of_getElem? (i := 8) rfl)
theorem dX7_init_103 : decode cX7_init 103 = .ok (.iconst 3, 1) := fchk_d fw_dX7_init_84_c (103, .iconst 3, 1) (List.mem_of_getElem? (i := 9) rfl)
theorem dX7_init_104 : decode cX7_init 104 = .ok (.newarray .int, 2) := by decide +kernel
def fw_dX7_init_106 : List (Nat × Instr × Nat) := [(106, .putfield 59, 3), (109, .aload_n 0, 1), (110, .bipush 16, 2)]
theorem fw_dX7_init_106_c : fchk 106 (cX7_init.data.toList.drop 106) fw_dX7_init_106 = true := by decide +kernel
theorem dX7_init_106 : decode cX7_init 106 = .ok (.putfield 59, 3) := fchk_d fw_dX7_init_106_c (106, .putfield 59, 3) (List.mem_of_getElem? (i := 0) rfl)
theorem dX7_init_109 : decode cX7_init 109 = .ok (.aload_n 0, 1) := fchk_d fw_dX7_init_106_c (109, .aload_n 0, 1) (List.mem_of_getElem? (i := 1) rfl)
theorem dX7_init_110 : decode cX7_init 110 = .ok (.bipush 16, 2) := fchk_d fw_dX7_init_106_c (110, .bipush 16, 2) (List.mem_of_getElem? (i := 2) rfl)
theorem dX7_init_112 : decode cX7_init 112 = .ok (.newarray .int, 2) := by decide +kernel
def fw_dX7_init_114 : List (Nat × Instr × Nat) := [(114, .putfield 63, 3), (117, .aload_n 0, 1), (118, .bipush 74, 2)]
theorem fw_dX7_init_114_c : fchk 114 (cX7_init.data.toList.drop 114) fw_dX7_init_114 = true := by decide +kernel
theorem dX7_init_114 : decode cX7_init 114 = .ok (.putfield 63, 3) := fchk_d fw_dX7_init_114_c (114, .putfield 63, 3) (List.mem_of_getElem? (i := 0) rfl)
theorem dX7_init_117 : decode cX7_init 117 = .ok (.aload_n 0, 1) := fchk_d fw_dX7_init_114_c (117, .aload_n 0, 1) (List.mem_of_getElem? (i := 1) rfl)
theorem dX7_init_118 : decode cX7_init 118 = .ok (.bipush 74, 2) := fchk_d fw_dX7_init_114_c (118, .bipush 74, 2) (List.mem_of_getElem? (i := 2) rfl)
theorem dX7_init_120 : decode cX7_init 120 = .ok (.newarray .long, 2) := by decide +kernel
def fw_dX7_init_122 : List (Nat × Instr × Nat) := [(122, .putfield 66, 3), (125, .aload_n 0, 1), (126, .bipush 64, 2)]
theorem fw_dX7_init_122_c : fchk 122 (cX7_init.data.toList.drop 122) fw_dX7_init_122 = true := by decide +kernel
theorem dX7_init_122 : decode cX7_init 122 = .ok (.putfield 66, 3) := fchk_d fw_dX7_init_122_c (122, .putfield 66, 3) (List.mem_of_getElem? (i := 0) rfl)
theorem dX7_init_125 : decode cX7_init 125 = .ok (.aload_n 0, 1) := fchk_d fw_dX7_init_122_c (125, .aload_n 0, 1) (List.mem_of_getElem? (i := 1) rfl)
theorem dX7_init_126 : decode cX7_init 126 = .ok (.bipush 64, 2) := fchk_d fw_dX7_init_122_c (126, .bipush 64, 2) (List.mem_of_getElem? (i := 2) rfl)
theorem dX7_init_128 : decode cX7_init 128 = .ok (.newarray .short, 2) := by decide +kernel
def fw_dX7_init_130 : List (Nat × Instr × Nat) := [(130, .putfield 70, 3), (133, .aload_n 0, 1), (134, .bipush 8, 2)]
theorem fw_dX7_init_130_c : fchk 130 (cX7_init.data.toList.drop 130) fw_dX7_init_130 = true := by decide +kernel
theorem dX7_init_130 : decode cX7_init 130 = .ok (.putfield 70, 3) := fchk_d fw_dX7_init_130_c (130, .putfield 70, 3) (List.mem_of_getElem? (i := 0) rfl)
theorem dX7_init_133 : decode cX7_init 133 = .ok (.aload_n 0, 1) := fchk_d fw_dX7_init_130_c (133, .aload_n 0, 1) (List.mem_of_getElem? (i := 1) rfl)
theorem dX7_init_134 : decode cX7_init 134 = .ok (.bipush 8, 2) := fchk_d fw_dX7_init_130_c (134, .bipush 8, 2) (List.mem_of_getElem? (i := 2) rfl)
theorem dX7_init_136 : decode cX7_init 136 = .ok (.newarray .int, 2) := by decide +kernel
def fw_dX7_init_138 : List (Nat × Instr × Nat) := [(138, .putfield 74, 3), (141, .aload_n 0, 1), (142, .getfield 63, 3), (145, .iconst (-1), 1), (146, .invokestatic 77, 3), (149, .aload_n 0, 1), (150, .getfield 59, 3), (153, .iconst 2, 1), (154, .iconst (-1), 1), (155, .iastore, 1), (156, .aload_n 0, 1), (157, .iconst (-1), 1), (158, .putfield 83, 3), (161, .return_, 1)]
theorem fw_dX7_init_138_c : fchk 138 (cX7_init.data.toList.drop 138) fw_dX7_init_138 = true := by decide +kernel
theorem dX7_init_138 : decode cX7_init 138 = .ok (.putfield 74, 3) := fchk_d fw_dX7_init_138_c (138, .putfield 74, 3) (List.mem_of_getElem? (i := 0) rfl)
theorem dX7_init_141 : decode cX7_init 141 = .ok (.aload_n 0, 1) := fchk_d fw_dX7_init_138_c (141, .aload_n 0, 1) (List.mem_of_getElem? (i := 1) rfl)
theorem dX7_init_142 : decode cX7_init 142 = .ok (.getfield 63, 3) := fchk_d fw_dX7_init_138_c (142, .getfield 63, 3) (List.mem_of_getElem? (i := 2) rfl)
theorem dX7_init_145 : decode cX7_init 145 = .ok (.iconst (-1), 1) := fchk_d fw_dX7_init_138_c (145, .iconst (-1), 1) (List.mem_of_getElem? (i := 3) rfl)
theorem dX7_init_146 : decode cX7_init 146 = .ok (.invokestatic 77, 3) := fchk_d fw_dX7_init_138_c (146, .invokestatic 77, 3) (List.mem_of_getElem? (i := 4) rfl)
theorem dX7_init_149 : decode cX7_init 149 = .ok (.aload_n 0, 1) := fchk_d fw_dX7_init_138_c (149, .aload_n 0, 1) (List.mem_of_getElem? (i := 5) rfl)
theorem dX7_init_150 : decode cX7_init 150 = .ok (.getfield 59, 3) := fchk_d fw_dX7_init_138_c (150, .getfield 59, 3) (List.mem_of_getElem? (i := 6) rfl)
theorem dX7_init_153 : decode cX7_init 153 = .ok (.iconst 2, 1) := fchk_d fw_dX7_init_138_c (153, .iconst 2, 1) (List.mem_of_getElem? (i := 7) rfl)
theorem dX7_init_154 : decode cX7_init 154 = .ok (.iconst (-1), 1) := fchk_d fw_dX7_init_138_c (154, .iconst (-1), 1) (List.mem_of_getElem? (i := 8) rfl)
theorem dX7_init_155 : decode cX7_init 155 = .ok (.iastore, 1) := fchk_d fw_dX7_init_138_c (155, .iastore, 1) (List.mem_of_getElem? (i := 9) rfl)
theorem dX7_init_156 : decode cX7_init 156 = .ok (.aload_n 0, 1) := fchk_d fw_dX7_init_138_c (156, .aload_n 0, 1) (List.mem_of_getElem? (i := 10) rfl)
theorem dX7_init_157 : decode cX7_init 157 = .ok (.iconst (-1), 1) := fchk_d fw_dX7_init_138_c (157, .iconst (-1), 1) (List.mem_of_getElem? (i := 11) rfl)
theorem dX7_init_158 : decode cX7_init 158 = .ok (.putfield 83, 3) := fchk_d fw_dX7_init_138_c (158, .putfield 83, 3) (List.mem_of_getElem? (i := 12) rfl)
theorem dX7_init_161 : decode cX7_init 161 = .ok (.return_, 1) := fchk_d fw_dX7_init_138_c (161, .return_, 1) (List.mem_of_getElem? (i := 13) rfl)
set_option maxRecDepth 20000 in
theorem ggX7_width_X7_isRegister : GoodIn wsX7_width wsX7_isRegister := goodIn_r _ [7] rfl (by decide +kernel)
set_option maxRecDepth 20000 in
theorem gX7_width_X7_isRegister : GoodIn wsX7_width (va_wsS RX7 87 yX7_isRegister wsX7_isRegister) := goodIn_app (goodIn_of _ (by decide +kernel)) ggX7_width_X7_isRegister
set_option maxRecDepth 20000 in
theorem ggX7_width_X7_refuse : GoodIn wsX7_width wsX7_refuse := goodIn_r _ [11, 12, 24, 25, 26, 27, 28, 29, 30, 31, 32, 33, 34, 35, 36, 37, 38, 39] rfl (by decide +kernel)
set_option maxRecDepth 20000 in
theorem gX7_width_X7_refuse : GoodIn wsX7_width (wsV RX7 91 RX7 yX7_refuse wsX7_refuse) := goodIn_app (goodIn_of _ (by decide +kernel)) ggX7_width_X7_refuse
set_option maxRecDepth 20000 in
theorem ggX7_width_X2_put : GoodIn wsX7_width wsX2_put := goodIn_r _ [17, 18, 19, 20, 21, 16, 22, 23, 40, 41, 42, 43, 44] rfl (by decide +kernel)
set_option maxRecDepth 20000 in
theorem gX7_width_X2_put : GoodIn wsX7_width (wsV RX7 101 RX2 yX2_put wsX2_put) := goodIn_app (goodIn_of _ (by decide +kernel)) ggX7_width_X2_put
def fw_dX7_width_0 : List (Nat × Instr × Nat) := [(0, .iload_n 1, 1), (1, .invokestatic 87, 3), (4, .ifCond .ne 10, 3), (7, .aload_n 0, 1), (8, .bipush (-3), 2), (10, .invokevirtual 91, 3), (13, .ireturn, 1), (14, .iload_n 2, 1), (15, .iconst 1, 1), (16, .if_icmp .lt 9, 3), (19, .iload_n 2, 1), (20, .bipush 32, 2), (22, .if_icmp .le 10, 3), (25, .aload_n 0, 1), (26, .bipush (-6), 2), (28, .invokevirtual 91, 3), (31, .ireturn, 1), (32, .aload_n 0, 1), (33, .getfield 12, 3), (36, .getfield 95, 3), (39, .iload_n 1, 1), (40, .iaload, 1), (41, .istore_n 3, 1), (42, .aload_n 0, 1), (43, .getfield 12, 3), (46, .getfield 95, 3), (49, .iload_n 1, 1), (50, .iload_n 2, 1), (51, .iastore, 1), (52, .aload_n 0, 1), (53, .getfield 12, 3), (56, .iload_n 1, 1), (57, .aload_n 0, 1), (58, .getfield 12, 3), (61, .getfield 98, 3), (64, .iload_n 1, 1), (65, .laload, 1), (66, .invokevirtual 101, 3), (69, .pop, 1), (70, .iload_n 3, 1)]
theorem fw_dX7_width_0_c : fchk 0 (cX7_width.data.toList.drop 0) fw_dX7_width_0 = true := by decide +kernel
theorem dX7_width_0 : decode cX7_width 0 = .ok (.iload_n 1, 1) := fchk_d fw_dX7_width_0_c (0, .iload_n 1, 1) (List.mem_of_getElem? (i := 0) rfl)
theorem dX7_width_1 : decode cX7_width 1 = .ok (.invokestatic 87, 3) := fchk_d fw_dX7_width_0_c (1, .invokestatic 87, 3) (List.mem_of_getElem? (i := 1) rfl)
theorem dX7_width_4 : decode cX7_width 4 = .ok (.ifCond .ne 10, 3) := fchk_d fw_dX7_width_0_c (4, .ifCond .ne 10, 3) (List.mem_of_getElem? (i := 2) rfl)
theorem dX7_width_7 : decode cX7_width 7 = .ok (.aload_n 0, 1) := fchk_d fw_dX7_width_0_c (7, .aload_n 0, 1) (List.mem_of_getElem? (i := 3) rfl)
theorem dX7_width_8 : decode cX7_width 8 = .ok (.bipush (-3), 2) := fchk_d fw_dX7_width_0_c (8, .bipush (-3), 2) (List.mem_of_getElem? (i := 4) rfl)
theorem dX7_width_10 : decode cX7_width 10 = .ok (.invokevirtual 91, 3) := fchk_d fw_dX7_width_0_c (10, .invokevirtual 91, 3) (List.mem_of_getElem? (i := 5) rfl)
theorem dX7_width_13 : decode cX7_width 13 = .ok (.ireturn, 1) := fchk_d fw_dX7_width_0_c (13, .ireturn, 1) (List.mem_of_getElem? (i := 6) rfl)
theorem dX7_width_14 : decode cX7_width 14 = .ok (.iload_n 2, 1) := fchk_d fw_dX7_width_0_c (14, .iload_n 2, 1) (List.mem_of_getElem? (i := 7) rfl)
theorem dX7_width_15 : decode cX7_width 15 = .ok (.iconst 1, 1) := fchk_d fw_dX7_width_0_c (15, .iconst 1, 1) (List.mem_of_getElem? (i := 8) rfl)
theorem dX7_width_16 : decode cX7_width 16 = .ok (.if_icmp .lt 9, 3) := fchk_d fw_dX7_width_0_c (16, .if_icmp .lt 9, 3) (List.mem_of_getElem? (i := 9) rfl)
theorem dX7_width_19 : decode cX7_width 19 = .ok (.iload_n 2, 1) := fchk_d fw_dX7_width_0_c (19, .iload_n 2, 1) (List.mem_of_getElem? (i := 10) rfl)
theorem dX7_width_20 : decode cX7_width 20 = .ok (.bipush 32, 2) := fchk_d fw_dX7_width_0_c (20, .bipush 32, 2) (List.mem_of_getElem? (i := 11) rfl)
theorem dX7_width_22 : decode cX7_width 22 = .ok (.if_icmp .le 10, 3) := fchk_d fw_dX7_width_0_c (22, .if_icmp .le 10, 3) (List.mem_of_getElem? (i := 12) rfl)
theorem dX7_width_25 : decode cX7_width 25 = .ok (.aload_n 0, 1) := fchk_d fw_dX7_width_0_c (25, .aload_n 0, 1) (List.mem_of_getElem? (i := 13) rfl)
theorem dX7_width_26 : decode cX7_width 26 = .ok (.bipush (-6), 2) := fchk_d fw_dX7_width_0_c (26, .bipush (-6), 2) (List.mem_of_getElem? (i := 14) rfl)
theorem dX7_width_28 : decode cX7_width 28 = .ok (.invokevirtual 91, 3) := fchk_d fw_dX7_width_0_c (28, .invokevirtual 91, 3) (List.mem_of_getElem? (i := 15) rfl)
theorem dX7_width_31 : decode cX7_width 31 = .ok (.ireturn, 1) := fchk_d fw_dX7_width_0_c (31, .ireturn, 1) (List.mem_of_getElem? (i := 16) rfl)
theorem dX7_width_32 : decode cX7_width 32 = .ok (.aload_n 0, 1) := fchk_d fw_dX7_width_0_c (32, .aload_n 0, 1) (List.mem_of_getElem? (i := 17) rfl)
theorem dX7_width_33 : decode cX7_width 33 = .ok (.getfield 12, 3) := fchk_d fw_dX7_width_0_c (33, .getfield 12, 3) (List.mem_of_getElem? (i := 18) rfl)
theorem dX7_width_36 : decode cX7_width 36 = .ok (.getfield 95, 3) := fchk_d fw_dX7_width_0_c (36, .getfield 95, 3) (List.mem_of_getElem? (i := 19) rfl)
theorem dX7_width_39 : decode cX7_width 39 = .ok (.iload_n 1, 1) := fchk_d fw_dX7_width_0_c (39, .iload_n 1, 1) (List.mem_of_getElem? (i := 20) rfl)
theorem dX7_width_40 : decode cX7_width 40 = .ok (.iaload, 1) := fchk_d fw_dX7_width_0_c (40, .iaload, 1) (List.mem_of_getElem? (i := 21) rfl)
theorem dX7_width_41 : decode cX7_width 41 = .ok (.istore_n 3, 1) := fchk_d fw_dX7_width_0_c (41, .istore_n 3, 1) (List.mem_of_getElem? (i := 22) rfl)
theorem dX7_width_42 : decode cX7_width 42 = .ok (.aload_n 0, 1) := fchk_d fw_dX7_width_0_c (42, .aload_n 0, 1) (List.mem_of_getElem? (i := 23) rfl)
theorem dX7_width_43 : decode cX7_width 43 = .ok (.getfield 12, 3) := fchk_d fw_dX7_width_0_c (43, .getfield 12, 3) (List.mem_of_getElem? (i := 24) rfl)
theorem dX7_width_46 : decode cX7_width 46 = .ok (.getfield 95, 3) := fchk_d fw_dX7_width_0_c (46, .getfield 95, 3) (List.mem_of_getElem? (i := 25) rfl)
theorem dX7_width_49 : decode cX7_width 49 = .ok (.iload_n 1, 1) := fchk_d fw_dX7_width_0_c (49, .iload_n 1, 1) (List.mem_of_getElem? (i := 26) rfl)
theorem dX7_width_50 : decode cX7_width 50 = .ok (.iload_n 2, 1) := fchk_d fw_dX7_width_0_c (50, .iload_n 2, 1) (List.mem_of_getElem? (i := 27) rfl)
theorem dX7_width_51 : decode cX7_width 51 = .ok (.iastore, 1) := fchk_d fw_dX7_width_0_c (51, .iastore, 1) (List.mem_of_getElem? (i := 28) rfl)
theorem dX7_width_52 : decode cX7_width 52 = .ok (.aload_n 0, 1) := fchk_d fw_dX7_width_0_c (52, .aload_n 0, 1) (List.mem_of_getElem? (i := 29) rfl)
theorem dX7_width_53 : decode cX7_width 53 = .ok (.getfield 12, 3) := fchk_d fw_dX7_width_0_c (53, .getfield 12, 3) (List.mem_of_getElem? (i := 30) rfl)
theorem dX7_width_56 : decode cX7_width 56 = .ok (.iload_n 1, 1) := fchk_d fw_dX7_width_0_c (56, .iload_n 1, 1) (List.mem_of_getElem? (i := 31) rfl)
theorem dX7_width_57 : decode cX7_width 57 = .ok (.aload_n 0, 1) := fchk_d fw_dX7_width_0_c (57, .aload_n 0, 1) (List.mem_of_getElem? (i := 32) rfl)
theorem dX7_width_58 : decode cX7_width 58 = .ok (.getfield 12, 3) := fchk_d fw_dX7_width_0_c (58, .getfield 12, 3) (List.mem_of_getElem? (i := 33) rfl)
theorem dX7_width_61 : decode cX7_width 61 = .ok (.getfield 98, 3) := fchk_d fw_dX7_width_0_c (61, .getfield 98, 3) (List.mem_of_getElem? (i := 34) rfl)
theorem dX7_width_64 : decode cX7_width 64 = .ok (.iload_n 1, 1) := fchk_d fw_dX7_width_0_c (64, .iload_n 1, 1) (List.mem_of_getElem? (i := 35) rfl)
theorem dX7_width_65 : decode cX7_width 65 = .ok (.laload, 1) := fchk_d fw_dX7_width_0_c (65, .laload, 1) (List.mem_of_getElem? (i := 36) rfl)
theorem dX7_width_66 : decode cX7_width 66 = .ok (.invokevirtual 101, 3) := fchk_d fw_dX7_width_0_c (66, .invokevirtual 101, 3) (List.mem_of_getElem? (i := 37) rfl)
theorem dX7_width_69 : decode cX7_width 69 = .ok (.pop, 1) := fchk_d fw_dX7_width_0_c (69, .pop, 1) (List.mem_of_getElem? (i := 38) rfl)
theorem dX7_width_70 : decode cX7_width 70 = .ok (.iload_n 3, 1) := fchk_d fw_dX7_width_0_c (70, .iload_n 3, 1) (List.mem_of_getElem? (i := 39) rfl)
def fw_dX7_width_71 : List (Nat × Instr × Nat) := [(71, .ireturn, 1)]
theorem fw_dX7_width_71_c : fchk 71 (cX7_width.data.toList.drop 71) fw_dX7_width_71 = true := by decide +kernel
theorem dX7_width_71 : decode cX7_width 71 = .ok (.ireturn, 1) := fchk_d fw_dX7_width_71_c (71, .ireturn, 1) (List.mem_of_getElem? (i := 0) rfl)
set_option maxRecDepth 20000 in
theorem ggX7_set_X7_isRegister : GoodIn wsX7_set wsX7_isRegister := goodIn_r _ [5] rfl (by decide +kernel)
set_option maxRecDepth 20000 in
theorem gX7_set_X7_isRegister : GoodIn wsX7_set (va_wsS RX7 87 yX7_isRegister wsX7_isRegister) := goodIn_app (goodIn_of _ (by decide +kernel)) ggX7_set_X7_isRegister
set_option maxRecDepth 20000 in
theorem ggX7_set_X7_refuse : GoodIn wsX7_set wsX7_refuse := goodIn_r _ [9, 10, 22, 23, 24, 25, 26, 27, 28, 29, 30, 31, 32, 33, 34, 35, 36, 37] rfl (by decide +kernel)
set_option maxRecDepth 20000 in
theorem gX7_set_X7_refuse : GoodIn wsX7_set (wsV RX7 91 RX7 yX7_refuse wsX7_refuse) := goodIn_app (goodIn_of _ (by decide +kernel)) ggX7_set_X7_refuse
set_option maxRecDepth 20000 in
theorem ggX7_set_X2_put : GoodIn wsX7_set wsX2_put := goodIn_r _ [15, 16, 17, 18, 19, 14, 20, 21, 38, 39, 40, 41, 42] rfl (by decide +kernel)
set_option maxRecDepth 20000 in
theorem gX7_set_X2_put : GoodIn wsX7_set (wsV RX7 101 RX2 yX2_put wsX2_put) := goodIn_app (goodIn_of _ (by decide +kernel)) ggX7_set_X2_put
def fw_dX7_set_0 : List (Nat × Instr × Nat) := [(0, .iload_n 1, 1), (1, .invokestatic 87, 3), (4, .ifCond .ne 10, 3), (7, .aload_n 0, 1), (8, .bipush (-3), 2), (10, .invokevirtual 91, 3), (13, .ireturn, 1), (14, .aload_n 0, 1), (15, .getfield 12, 3), (18, .iload_n 1, 1), (19, .lload_n 2, 1), (20, .invokevirtual 101, 3), (23, .ireturn, 1)]
theorem fw_dX7_set_0_c : fchk 0 (cX7_set.data.toList.drop 0) fw_dX7_set_0 = true := by decide +kernel
theorem dX7_set_0 : decode cX7_set 0 = .ok (.iload_n 1, 1) := fchk_d fw_dX7_set_0_c (0, .iload_n 1, 1) (List.mem_of_getElem? (i := 0) rfl)
theorem dX7_set_1 : decode cX7_set 1 = .ok (.invokestatic 87, 3) := fchk_d fw_dX7_set_0_c (1, .invokestatic 87, 3) (List.mem_of_getElem? (i := 1) rfl)
theorem dX7_set_4 : decode cX7_set 4 = .ok (.ifCond .ne 10, 3) := fchk_d fw_dX7_set_0_c (4, .ifCond .ne 10, 3) (List.mem_of_getElem? (i := 2) rfl)
theorem dX7_set_7 : decode cX7_set 7 = .ok (.aload_n 0, 1) := fchk_d fw_dX7_set_0_c (7, .aload_n 0, 1) (List.mem_of_getElem? (i := 3) rfl)
theorem dX7_set_8 : decode cX7_set 8 = .ok (.bipush (-3), 2) := fchk_d fw_dX7_set_0_c (8, .bipush (-3), 2) (List.mem_of_getElem? (i := 4) rfl)
theorem dX7_set_10 : decode cX7_set 10 = .ok (.invokevirtual 91, 3) := fchk_d fw_dX7_set_0_c (10, .invokevirtual 91, 3) (List.mem_of_getElem? (i := 5) rfl)
theorem dX7_set_13 : decode cX7_set 13 = .ok (.ireturn, 1) := fchk_d fw_dX7_set_0_c (13, .ireturn, 1) (List.mem_of_getElem? (i := 6) rfl)
theorem dX7_set_14 : decode cX7_set 14 = .ok (.aload_n 0, 1) := fchk_d fw_dX7_set_0_c (14, .aload_n 0, 1) (List.mem_of_getElem? (i := 7) rfl)
theorem dX7_set_15 : decode cX7_set 15 = .ok (.getfield 12, 3) := fchk_d fw_dX7_set_0_c (15, .getfield 12, 3) (List.mem_of_getElem? (i := 8) rfl)
theorem dX7_set_18 : decode cX7_set 18 = .ok (.iload_n 1, 1) := fchk_d fw_dX7_set_0_c (18, .iload_n 1, 1) (List.mem_of_getElem? (i := 9) rfl)
theorem dX7_set_19 : decode cX7_set 19 = .ok (.lload_n 2, 1) := fchk_d fw_dX7_set_0_c (19, .lload_n 2, 1) (List.mem_of_getElem? (i := 10) rfl)
theorem dX7_set_20 : decode cX7_set 20 = .ok (.invokevirtual 101, 3) := fchk_d fw_dX7_set_0_c (20, .invokevirtual 101, 3) (List.mem_of_getElem? (i := 11) rfl)
theorem dX7_set_23 : decode cX7_set 23 = .ok (.ireturn, 1) := fchk_d fw_dX7_set_0_c (23, .ireturn, 1) (List.mem_of_getElem? (i := 12) rfl)
set_option maxRecDepth 20000 in
theorem ggX7_register_X7_isRegister : GoodIn wsX7_register wsX7_isRegister := goodIn_r _ [6] rfl (by decide +kernel)
set_option maxRecDepth 20000 in
theorem gX7_register_X7_isRegister : GoodIn wsX7_register (va_wsS RX7 87 yX7_isRegister wsX7_isRegister) := goodIn_app (goodIn_of _ (by decide +kernel)) ggX7_register_X7_isRegister
set_option maxRecDepth 20000 in
theorem ggX7_register_X7_refuse : GoodIn wsX7_register wsX7_refuse := goodIn_r _ [10, 11, 12, 13, 14, 15, 16, 17, 18, 19, 20, 21, 22, 23, 24, 25, 26, 27] rfl (by decide +kernel)
set_option maxRecDepth 20000 in
theorem gX7_register_X7_refuse : GoodIn wsX7_register (wsV RX7 91 RX7 yX7_refuse wsX7_refuse) := goodIn_app (goodIn_of _ (by decide +kernel)) ggX7_register_X7_refuse
def fw_dX7_register_0 : List (Nat × Instr × Nat) := [(0, .iload_n 1, 1), (1, .invokestatic 87, 3), (4, .ifCond .ne 12, 3), (7, .aload_n 0, 1), (8, .bipush (-3), 2), (10, .invokevirtual 91, 3), (13, .pop, 1), (14, .lconst 0, 1), (15, .lreturn, 1), (16, .aload_n 0, 1), (17, .getfield 12, 3), (20, .getfield 98, 3), (23, .iload_n 1, 1), (24, .laload, 1), (25, .lreturn, 1)]
theorem fw_dX7_register_0_c : fchk 0 (cX7_register.data.toList.drop 0) fw_dX7_register_0 = true := by decide +kernel
theorem dX7_register_0 : decode cX7_register 0 = .ok (.iload_n 1, 1) := fchk_d fw_dX7_register_0_c (0, .iload_n 1, 1) (List.mem_of_getElem? (i := 0) rfl)
theorem dX7_register_1 : decode cX7_register 1 = .ok (.invokestatic 87, 3) := fchk_d fw_dX7_register_0_c (1, .invokestatic 87, 3) (List.mem_of_getElem? (i := 1) rfl)
theorem dX7_register_4 : decode cX7_register 4 = .ok (.ifCond .ne 12, 3) := fchk_d fw_dX7_register_0_c (4, .ifCond .ne 12, 3) (List.mem_of_getElem? (i := 2) rfl)
theorem dX7_register_7 : decode cX7_register 7 = .ok (.aload_n 0, 1) := fchk_d fw_dX7_register_0_c (7, .aload_n 0, 1) (List.mem_of_getElem? (i := 3) rfl)
theorem dX7_register_8 : decode cX7_register 8 = .ok (.bipush (-3), 2) := fchk_d fw_dX7_register_0_c (8, .bipush (-3), 2) (List.mem_of_getElem? (i := 4) rfl)
theorem dX7_register_10 : decode cX7_register 10 = .ok (.invokevirtual 91, 3) := fchk_d fw_dX7_register_0_c (10, .invokevirtual 91, 3) (List.mem_of_getElem? (i := 5) rfl)
theorem dX7_register_13 : decode cX7_register 13 = .ok (.pop, 1) := fchk_d fw_dX7_register_0_c (13, .pop, 1) (List.mem_of_getElem? (i := 6) rfl)
theorem dX7_register_14 : decode cX7_register 14 = .ok (.lconst 0, 1) := fchk_d fw_dX7_register_0_c (14, .lconst 0, 1) (List.mem_of_getElem? (i := 7) rfl)
theorem dX7_register_15 : decode cX7_register 15 = .ok (.lreturn, 1) := fchk_d fw_dX7_register_0_c (15, .lreturn, 1) (List.mem_of_getElem? (i := 8) rfl)
theorem dX7_register_16 : decode cX7_register 16 = .ok (.aload_n 0, 1) := fchk_d fw_dX7_register_0_c (16, .aload_n 0, 1) (List.mem_of_getElem? (i := 9) rfl)
theorem dX7_register_17 : decode cX7_register 17 = .ok (.getfield 12, 3) := fchk_d fw_dX7_register_0_c (17, .getfield 12, 3) (List.mem_of_getElem? (i := 10) rfl)
theorem dX7_register_20 : decode cX7_register 20 = .ok (.getfield 98, 3) := fchk_d fw_dX7_register_0_c (20, .getfield 98, 3) (List.mem_of_getElem? (i := 11) rfl)
theorem dX7_register_23 : decode cX7_register 23 = .ok (.iload_n 1, 1) := fchk_d fw_dX7_register_0_c (23, .iload_n 1, 1) (List.mem_of_getElem? (i := 12) rfl)
theorem dX7_register_24 : decode cX7_register 24 = .ok (.laload, 1) := fchk_d fw_dX7_register_0_c (24, .laload, 1) (List.mem_of_getElem? (i := 13) rfl)
theorem dX7_register_25 : decode cX7_register 25 = .ok (.lreturn, 1) := fchk_d fw_dX7_register_0_c (25, .lreturn, 1) (List.mem_of_getElem? (i := 14) rfl)
set_option maxRecDepth 20000 in
theorem ggX7_poke_X7_isCell : GoodIn wsX7_poke wsX7_isCell := goodIn_r _ [5, 6] rfl (by decide +kernel)
set_option maxRecDepth 20000 in
theorem gX7_poke_X7_isCell : GoodIn wsX7_poke (va_wsS RX7 105 yX7_isCell wsX7_isCell) := goodIn_app (goodIn_of _ (by decide +kernel)) ggX7_poke_X7_isCell
set_option maxRecDepth 20000 in
theorem ggX7_poke_X7_refuse : GoodIn wsX7_poke wsX7_refuse := goodIn_r _ [10, 11, 23, 24, 25, 26, 27, 28, 29, 30, 31, 32, 33, 34, 35, 36, 37, 38] rfl (by decide +kernel)
set_option maxRecDepth 20000 in
theorem gX7_poke_X7_refuse : GoodIn wsX7_poke (wsV RX7 91 RX7 yX7_refuse wsX7_refuse) := goodIn_app (goodIn_of _ (by decide +kernel)) ggX7_poke_X7_refuse
set_option maxRecDepth 20000 in
theorem ggX7_poke_X2_put : GoodIn wsX7_poke wsX2_put := goodIn_r _ [16, 17, 18, 19, 20, 15, 21, 22, 39, 40, 41, 42, 43] rfl (by decide +kernel)
set_option maxRecDepth 20000 in
theorem gX7_poke_X2_put : GoodIn wsX7_poke (wsV RX7 101 RX2 yX2_put wsX2_put) := goodIn_app (goodIn_of _ (by decide +kernel)) ggX7_poke_X2_put
def fw_dX7_poke_0 : List (Nat × Instr × Nat) := [(0, .iload_n 1, 1), (1, .i2l, 1), (2, .invokestatic 105, 3), (5, .ifCond .ne 10, 3), (8, .aload_n 0, 1), (9, .bipush (-3), 2), (11, .invokevirtual 91, 3), (14, .ireturn, 1), (15, .aload_n 0, 1), (16, .getfield 12, 3), (19, .bipush 10, 2), (21, .iload_n 1, 1), (22, .iadd, 1), (23, .lload_n 2, 1), (24, .invokevirtual 101, 3), (27, .ireturn, 1)]
theorem fw_dX7_poke_0_c : fchk 0 (cX7_poke.data.toList.drop 0) fw_dX7_poke_0 = true := by decide +kernel
theorem dX7_poke_0 : decode cX7_poke 0 = .ok (.iload_n 1, 1) := fchk_d fw_dX7_poke_0_c (0, .iload_n 1, 1) (List.mem_of_getElem? (i := 0) rfl)
theorem dX7_poke_1 : decode cX7_poke 1 = .ok (.i2l, 1) := fchk_d fw_dX7_poke_0_c (1, .i2l, 1) (List.mem_of_getElem? (i := 1) rfl)
theorem dX7_poke_2 : decode cX7_poke 2 = .ok (.invokestatic 105, 3) := fchk_d fw_dX7_poke_0_c (2, .invokestatic 105, 3) (List.mem_of_getElem? (i := 2) rfl)
theorem dX7_poke_5 : decode cX7_poke 5 = .ok (.ifCond .ne 10, 3) := fchk_d fw_dX7_poke_0_c (5, .ifCond .ne 10, 3) (List.mem_of_getElem? (i := 3) rfl)
theorem dX7_poke_8 : decode cX7_poke 8 = .ok (.aload_n 0, 1) := fchk_d fw_dX7_poke_0_c (8, .aload_n 0, 1) (List.mem_of_getElem? (i := 4) rfl)
theorem dX7_poke_9 : decode cX7_poke 9 = .ok (.bipush (-3), 2) := fchk_d fw_dX7_poke_0_c (9, .bipush (-3), 2) (List.mem_of_getElem? (i := 5) rfl)
theorem dX7_poke_11 : decode cX7_poke 11 = .ok (.invokevirtual 91, 3) := fchk_d fw_dX7_poke_0_c (11, .invokevirtual 91, 3) (List.mem_of_getElem? (i := 6) rfl)
theorem dX7_poke_14 : decode cX7_poke 14 = .ok (.ireturn, 1) := fchk_d fw_dX7_poke_0_c (14, .ireturn, 1) (List.mem_of_getElem? (i := 7) rfl)
theorem dX7_poke_15 : decode cX7_poke 15 = .ok (.aload_n 0, 1) := fchk_d fw_dX7_poke_0_c (15, .aload_n 0, 1) (List.mem_of_getElem? (i := 8) rfl)
theorem dX7_poke_16 : decode cX7_poke 16 = .ok (.getfield 12, 3) := fchk_d fw_dX7_poke_0_c (16, .getfield 12, 3) (List.mem_of_getElem? (i := 9) rfl)
theorem dX7_poke_19 : decode cX7_poke 19 = .ok (.bipush 10, 2) := fchk_d fw_dX7_poke_0_c (19, .bipush 10, 2) (List.mem_of_getElem? (i := 10) rfl)
theorem dX7_poke_21 : decode cX7_poke 21 = .ok (.iload_n 1, 1) := fchk_d fw_dX7_poke_0_c (21, .iload_n 1, 1) (List.mem_of_getElem? (i := 11) rfl)
theorem dX7_poke_22 : decode cX7_poke 22 = .ok (.iadd, 1) := fchk_d fw_dX7_poke_0_c (22, .iadd, 1) (List.mem_of_getElem? (i := 12) rfl)
theorem dX7_poke_23 : decode cX7_poke 23 = .ok (.lload_n 2, 1) := fchk_d fw_dX7_poke_0_c (23, .lload_n 2, 1) (List.mem_of_getElem? (i := 13) rfl)
theorem dX7_poke_24 : decode cX7_poke 24 = .ok (.invokevirtual 101, 3) := fchk_d fw_dX7_poke_0_c (24, .invokevirtual 101, 3) (List.mem_of_getElem? (i := 14) rfl)
theorem dX7_poke_27 : decode cX7_poke 27 = .ok (.ireturn, 1) := fchk_d fw_dX7_poke_0_c (27, .ireturn, 1) (List.mem_of_getElem? (i := 15) rfl)
set_option maxRecDepth 20000 in
theorem ggX7_cell_X7_isCell : GoodIn wsX7_cell wsX7_isCell := goodIn_r _ [6, 7] rfl (by decide +kernel)
set_option maxRecDepth 20000 in
theorem gX7_cell_X7_isCell : GoodIn wsX7_cell (va_wsS RX7 105 yX7_isCell wsX7_isCell) := goodIn_app (goodIn_of _ (by decide +kernel)) ggX7_cell_X7_isCell
set_option maxRecDepth 20000 in
theorem ggX7_cell_X7_refuse : GoodIn wsX7_cell wsX7_refuse := goodIn_r _ [11, 12, 13, 14, 15, 16, 17, 18, 19, 20, 21, 22, 23, 24, 25, 26, 27, 28] rfl (by decide +kernel)
set_option maxRecDepth 20000 in
theorem gX7_cell_X7_refuse : GoodIn wsX7_cell (wsV RX7 91 RX7 yX7_refuse wsX7_refuse) := goodIn_app (goodIn_of _ (by decide +kernel)) ggX7_cell_X7_refuse
def fw_dX7_cell_0 : List (Nat × Instr × Nat) := [(0, .iload_n 1, 1), (1, .i2l, 1), (2, .invokestatic 105, 3), (5, .ifCond .ne 12, 3), (8, .aload_n 0, 1), (9, .bipush (-3), 2), (11, .invokevirtual 91, 3), (14, .pop, 1), (15, .lconst 0, 1), (16, .lreturn, 1), (17, .aload_n 0, 1), (18, .getfield 12, 3), (21, .getfield 98, 3), (24, .bipush 10, 2), (26, .iload_n 1, 1), (27, .iadd, 1), (28, .laload, 1), (29, .lreturn, 1)]
theorem fw_dX7_cell_0_c : fchk 0 (cX7_cell.data.toList.drop 0) fw_dX7_cell_0 = true := by decide +kernel
theorem dX7_cell_0 : decode cX7_cell 0 = .ok (.iload_n 1, 1) := fchk_d fw_dX7_cell_0_c (0, .iload_n 1, 1) (List.mem_of_getElem? (i := 0) rfl)
theorem dX7_cell_1 : decode cX7_cell 1 = .ok (.i2l, 1) := fchk_d fw_dX7_cell_0_c (1, .i2l, 1) (List.mem_of_getElem? (i := 1) rfl)
theorem dX7_cell_2 : decode cX7_cell 2 = .ok (.invokestatic 105, 3) := fchk_d fw_dX7_cell_0_c (2, .invokestatic 105, 3) (List.mem_of_getElem? (i := 2) rfl)
theorem dX7_cell_5 : decode cX7_cell 5 = .ok (.ifCond .ne 12, 3) := fchk_d fw_dX7_cell_0_c (5, .ifCond .ne 12, 3) (List.mem_of_getElem? (i := 3) rfl)
theorem dX7_cell_8 : decode cX7_cell 8 = .ok (.aload_n 0, 1) := fchk_d fw_dX7_cell_0_c (8, .aload_n 0, 1) (List.mem_of_getElem? (i := 4) rfl)
theorem dX7_cell_9 : decode cX7_cell 9 = .ok (.bipush (-3), 2) := fchk_d fw_dX7_cell_0_c (9, .bipush (-3), 2) (List.mem_of_getElem? (i := 5) rfl)
theorem dX7_cell_11 : decode cX7_cell 11 = .ok (.invokevirtual 91, 3) := fchk_d fw_dX7_cell_0_c (11, .invokevirtual 91, 3) (List.mem_of_getElem? (i := 6) rfl)
theorem dX7_cell_14 : decode cX7_cell 14 = .ok (.pop, 1) := fchk_d fw_dX7_cell_0_c (14, .pop, 1) (List.mem_of_getElem? (i := 7) rfl)
theorem dX7_cell_15 : decode cX7_cell 15 = .ok (.lconst 0, 1) := fchk_d fw_dX7_cell_0_c (15, .lconst 0, 1) (List.mem_of_getElem? (i := 8) rfl)
theorem dX7_cell_16 : decode cX7_cell 16 = .ok (.lreturn, 1) := fchk_d fw_dX7_cell_0_c (16, .lreturn, 1) (List.mem_of_getElem? (i := 9) rfl)
theorem dX7_cell_17 : decode cX7_cell 17 = .ok (.aload_n 0, 1) := fchk_d fw_dX7_cell_0_c (17, .aload_n 0, 1) (List.mem_of_getElem? (i := 10) rfl)
theorem dX7_cell_18 : decode cX7_cell 18 = .ok (.getfield 12, 3) := fchk_d fw_dX7_cell_0_c (18, .getfield 12, 3) (List.mem_of_getElem? (i := 11) rfl)
theorem dX7_cell_21 : decode cX7_cell 21 = .ok (.getfield 98, 3) := fchk_d fw_dX7_cell_0_c (21, .getfield 98, 3) (List.mem_of_getElem? (i := 12) rfl)
theorem dX7_cell_24 : decode cX7_cell 24 = .ok (.bipush 10, 2) := fchk_d fw_dX7_cell_0_c (24, .bipush 10, 2) (List.mem_of_getElem? (i := 13) rfl)
theorem dX7_cell_26 : decode cX7_cell 26 = .ok (.iload_n 1, 1) := fchk_d fw_dX7_cell_0_c (26, .iload_n 1, 1) (List.mem_of_getElem? (i := 14) rfl)
theorem dX7_cell_27 : decode cX7_cell 27 = .ok (.iadd, 1) := fchk_d fw_dX7_cell_0_c (27, .iadd, 1) (List.mem_of_getElem? (i := 15) rfl)
theorem dX7_cell_28 : decode cX7_cell 28 = .ok (.laload, 1) := fchk_d fw_dX7_cell_0_c (28, .laload, 1) (List.mem_of_getElem? (i := 16) rfl)
theorem dX7_cell_29 : decode cX7_cell 29 = .ok (.lreturn, 1) := fchk_d fw_dX7_cell_0_c (29, .lreturn, 1) (List.mem_of_getElem? (i := 17) rfl)
set_option maxRecDepth 20000 in
theorem ggX7_flag_X7_refuse : GoodIn wsX7_flag wsX7_refuse := goodIn_r _ [7, 8, 20, 21, 22, 23, 24, 25, 26, 27, 28, 29, 30, 31, 32, 33, 34, 35] rfl (by decide +kernel)
set_option maxRecDepth 20000 in
theorem gX7_flag_X7_refuse : GoodIn wsX7_flag (wsV RX7 91 RX7 yX7_refuse wsX7_refuse) := goodIn_app (goodIn_of _ (by decide +kernel)) ggX7_flag_X7_refuse
set_option maxRecDepth 20000 in
theorem ggX7_flag_X2_put : GoodIn wsX7_flag wsX2_put := goodIn_r _ [13, 14, 15, 16, 17, 12, 18, 19, 36, 37, 38, 39, 40] rfl (by decide +kernel)
set_option maxRecDepth 20000 in
theorem gX7_flag_X2_put : GoodIn wsX7_flag (wsV RX7 101 RX2 yX2_put wsX2_put) := goodIn_app (goodIn_of _ (by decide +kernel)) ggX7_flag_X2_put
def fw_dX7_flag_0 : List (Nat × Instr × Nat) := [(0, .iload_n 1, 1), (1, .ifCond .lt 8, 3), (4, .iload_n 1, 1), (5, .iconst 2, 1), (6, .if_icmp .lt 10, 3), (9, .aload_n 0, 1), (10, .bipush (-3), 2), (12, .invokevirtual 91, 3), (15, .ireturn, 1), (16, .aload_n 0, 1), (17, .getfield 12, 3), (20, .getfield 98, 3), (23, .bipush 8, 2), (25, .iload_n 1, 1), (26, .iadd, 1), (27, .laload, 1), (28, .l2i, 1), (29, .istore_n 3, 1), (30, .aload_n 0, 1), (31, .getfield 12, 3), (34, .bipush 8, 2), (36, .iload_n 1, 1), (37, .iadd, 1), (38, .iload_n 2, 1), (39, .ifCond .eq 7, 3), (42, .lconst 1, 1), (43, .goto 4, 3), (46, .lconst 0, 1), (47, .invokevirtual 101, 3), (50, .pop, 1), (51, .iload_n 3, 1), (52, .ireturn, 1)]
theorem fw_dX7_flag_0_c : fchk 0 (cX7_flag.data.toList.drop 0) fw_dX7_flag_0 = true := by decide +kernel
theorem dX7_flag_0 : decode cX7_flag 0 = .ok (.iload_n 1, 1) := fchk_d fw_dX7_flag_0_c (0, .iload_n 1, 1) (List.mem_of_getElem? (i := 0) rfl)
theorem dX7_flag_1 : decode cX7_flag 1 = .ok (.ifCond .lt 8, 3) := fchk_d fw_dX7_flag_0_c (1, .ifCond .lt 8, 3) (List.mem_of_getElem? (i := 1) rfl)
theorem dX7_flag_4 : decode cX7_flag 4 = .ok (.iload_n 1, 1) := fchk_d fw_dX7_flag_0_c (4, .iload_n 1, 1) (List.mem_of_getElem? (i := 2) rfl)
theorem dX7_flag_5 : decode cX7_flag 5 = .ok (.iconst 2, 1) := fchk_d fw_dX7_flag_0_c (5, .iconst 2, 1) (List.mem_of_getElem? (i := 3) rfl)
theorem dX7_flag_6 : decode cX7_flag 6 = .ok (.if_icmp .lt 10, 3) := fchk_d fw_dX7_flag_0_c (6, .if_icmp .lt 10, 3) (List.mem_of_getElem? (i := 4) rfl)
theorem dX7_flag_9 : decode cX7_flag 9 = .ok (.aload_n 0, 1) := fchk_d fw_dX7_flag_0_c (9, .aload_n 0, 1) (List.mem_of_getElem? (i := 5) rfl)
theorem dX7_flag_10 : decode cX7_flag 10 = .ok (.bipush (-3), 2) := fchk_d fw_dX7_flag_0_c (10, .bipush (-3), 2) (List.mem_of_getElem? (i := 6) rfl)
theorem dX7_flag_12 : decode cX7_flag 12 = .ok (.invokevirtual 91, 3) := fchk_d fw_dX7_flag_0_c (12, .invokevirtual 91, 3) (List.mem_of_getElem? (i := 7) rfl)
theorem dX7_flag_15 : decode cX7_flag 15 = .ok (.ireturn, 1) := fchk_d fw_dX7_flag_0_c (15, .ireturn, 1) (List.mem_of_getElem? (i := 8) rfl)
theorem dX7_flag_16 : decode cX7_flag 16 = .ok (.aload_n 0, 1) := fchk_d fw_dX7_flag_0_c (16, .aload_n 0, 1) (List.mem_of_getElem? (i := 9) rfl)
theorem dX7_flag_17 : decode cX7_flag 17 = .ok (.getfield 12, 3) := fchk_d fw_dX7_flag_0_c (17, .getfield 12, 3) (List.mem_of_getElem? (i := 10) rfl)
theorem dX7_flag_20 : decode cX7_flag 20 = .ok (.getfield 98, 3) := fchk_d fw_dX7_flag_0_c (20, .getfield 98, 3) (List.mem_of_getElem? (i := 11) rfl)
theorem dX7_flag_23 : decode cX7_flag 23 = .ok (.bipush 8, 2) := fchk_d fw_dX7_flag_0_c (23, .bipush 8, 2) (List.mem_of_getElem? (i := 12) rfl)
theorem dX7_flag_25 : decode cX7_flag 25 = .ok (.iload_n 1, 1) := fchk_d fw_dX7_flag_0_c (25, .iload_n 1, 1) (List.mem_of_getElem? (i := 13) rfl)
theorem dX7_flag_26 : decode cX7_flag 26 = .ok (.iadd, 1) := fchk_d fw_dX7_flag_0_c (26, .iadd, 1) (List.mem_of_getElem? (i := 14) rfl)
theorem dX7_flag_27 : decode cX7_flag 27 = .ok (.laload, 1) := fchk_d fw_dX7_flag_0_c (27, .laload, 1) (List.mem_of_getElem? (i := 15) rfl)
theorem dX7_flag_28 : decode cX7_flag 28 = .ok (.l2i, 1) := fchk_d fw_dX7_flag_0_c (28, .l2i, 1) (List.mem_of_getElem? (i := 16) rfl)
theorem dX7_flag_29 : decode cX7_flag 29 = .ok (.istore_n 3, 1) := fchk_d fw_dX7_flag_0_c (29, .istore_n 3, 1) (List.mem_of_getElem? (i := 17) rfl)
theorem dX7_flag_30 : decode cX7_flag 30 = .ok (.aload_n 0, 1) := fchk_d fw_dX7_flag_0_c (30, .aload_n 0, 1) (List.mem_of_getElem? (i := 18) rfl)
theorem dX7_flag_31 : decode cX7_flag 31 = .ok (.getfield 12, 3) := fchk_d fw_dX7_flag_0_c (31, .getfield 12, 3) (List.mem_of_getElem? (i := 19) rfl)
theorem dX7_flag_34 : decode cX7_flag 34 = .ok (.bipush 8, 2) := fchk_d fw_dX7_flag_0_c (34, .bipush 8, 2) (List.mem_of_getElem? (i := 20) rfl)
theorem dX7_flag_36 : decode cX7_flag 36 = .ok (.iload_n 1, 1) := fchk_d fw_dX7_flag_0_c (36, .iload_n 1, 1) (List.mem_of_getElem? (i := 21) rfl)
theorem dX7_flag_37 : decode cX7_flag 37 = .ok (.iadd, 1) := fchk_d fw_dX7_flag_0_c (37, .iadd, 1) (List.mem_of_getElem? (i := 22) rfl)
theorem dX7_flag_38 : decode cX7_flag 38 = .ok (.iload_n 2, 1) := fchk_d fw_dX7_flag_0_c (38, .iload_n 2, 1) (List.mem_of_getElem? (i := 23) rfl)
theorem dX7_flag_39 : decode cX7_flag 39 = .ok (.ifCond .eq 7, 3) := fchk_d fw_dX7_flag_0_c (39, .ifCond .eq 7, 3) (List.mem_of_getElem? (i := 24) rfl)
theorem dX7_flag_42 : decode cX7_flag 42 = .ok (.lconst 1, 1) := fchk_d fw_dX7_flag_0_c (42, .lconst 1, 1) (List.mem_of_getElem? (i := 25) rfl)
theorem dX7_flag_43 : decode cX7_flag 43 = .ok (.goto 4, 3) := fchk_d fw_dX7_flag_0_c (43, .goto 4, 3) (List.mem_of_getElem? (i := 26) rfl)
theorem dX7_flag_46 : decode cX7_flag 46 = .ok (.lconst 0, 1) := fchk_d fw_dX7_flag_0_c (46, .lconst 0, 1) (List.mem_of_getElem? (i := 27) rfl)
theorem dX7_flag_47 : decode cX7_flag 47 = .ok (.invokevirtual 101, 3) := fchk_d fw_dX7_flag_0_c (47, .invokevirtual 101, 3) (List.mem_of_getElem? (i := 28) rfl)
theorem dX7_flag_50 : decode cX7_flag 50 = .ok (.pop, 1) := fchk_d fw_dX7_flag_0_c (50, .pop, 1) (List.mem_of_getElem? (i := 29) rfl)
theorem dX7_flag_51 : decode cX7_flag 51 = .ok (.iload_n 3, 1) := fchk_d fw_dX7_flag_0_c (51, .iload_n 3, 1) (List.mem_of_getElem? (i := 30) rfl)
theorem dX7_flag_52 : decode cX7_flag 52 = .ok (.ireturn, 1) := fchk_d fw_dX7_flag_0_c (52, .ireturn, 1) (List.mem_of_getElem? (i := 31) rfl)
def fw_dX7_flags_0 : List (Nat × Instr × Nat) := [(0, .aload_n 0, 1), (1, .getfield 12, 3), (4, .getfield 98, 3), (7, .bipush 8, 2), (9, .laload, 1), (10, .ldc2_w 109, 3), (13, .aload_n 0, 1), (14, .getfield 12, 3), (17, .getfield 98, 3), (20, .bipush 9, 2), (22, .laload, 1), (23, .lmul, 1), (24, .ladd, 1), (25, .l2i, 1), (26, .ireturn, 1)]
theorem fw_dX7_flags_0_c : fchk 0 (cX7_flags.data.toList.drop 0) fw_dX7_flags_0 = true := by decide +kernel
theorem dX7_flags_0 : decode cX7_flags 0 = .ok (.aload_n 0, 1) := fchk_d fw_dX7_flags_0_c (0, .aload_n 0, 1) (List.mem_of_getElem? (i := 0) rfl)
theorem dX7_flags_1 : decode cX7_flags 1 = .ok (.getfield 12, 3) := fchk_d fw_dX7_flags_0_c (1, .getfield 12, 3) (List.mem_of_getElem? (i := 1) rfl)
theorem dX7_flags_4 : decode cX7_flags 4 = .ok (.getfield 98, 3) := fchk_d fw_dX7_flags_0_c (4, .getfield 98, 3) (List.mem_of_getElem? (i := 2) rfl)
theorem dX7_flags_7 : decode cX7_flags 7 = .ok (.bipush 8, 2) := fchk_d fw_dX7_flags_0_c (7, .bipush 8, 2) (List.mem_of_getElem? (i := 3) rfl)
theorem dX7_flags_9 : decode cX7_flags 9 = .ok (.laload, 1) := fchk_d fw_dX7_flags_0_c (9, .laload, 1) (List.mem_of_getElem? (i := 4) rfl)
theorem dX7_flags_10 : decode cX7_flags 10 = .ok (.ldc2_w 109, 3) := fchk_d fw_dX7_flags_0_c (10, .ldc2_w 109, 3) (List.mem_of_getElem? (i := 5) rfl)
theorem dX7_flags_13 : decode cX7_flags 13 = .ok (.aload_n 0, 1) := fchk_d fw_dX7_flags_0_c (13, .aload_n 0, 1) (List.mem_of_getElem? (i := 6) rfl)
theorem dX7_flags_14 : decode cX7_flags 14 = .ok (.getfield 12, 3) := fchk_d fw_dX7_flags_0_c (14, .getfield 12, 3) (List.mem_of_getElem? (i := 7) rfl)
theorem dX7_flags_17 : decode cX7_flags 17 = .ok (.getfield 98, 3) := fchk_d fw_dX7_flags_0_c (17, .getfield 98, 3) (List.mem_of_getElem? (i := 8) rfl)
theorem dX7_flags_20 : decode cX7_flags 20 = .ok (.bipush 9, 2) := fchk_d fw_dX7_flags_0_c (20, .bipush 9, 2) (List.mem_of_getElem? (i := 9) rfl)
theorem dX7_flags_22 : decode cX7_flags 22 = .ok (.laload, 1) := fchk_d fw_dX7_flags_0_c (22, .laload, 1) (List.mem_of_getElem? (i := 10) rfl)
theorem dX7_flags_23 : decode cX7_flags 23 = .ok (.lmul, 1) := fchk_d fw_dX7_flags_0_c (23, .lmul, 1) (List.mem_of_getElem? (i := 11) rfl)
theorem dX7_flags_24 : decode cX7_flags 24 = .ok (.ladd, 1) := fchk_d fw_dX7_flags_0_c (24, .ladd, 1) (List.mem_of_getElem? (i := 12) rfl)
theorem dX7_flags_25 : decode cX7_flags 25 = .ok (.l2i, 1) := fchk_d fw_dX7_flags_0_c (25, .l2i, 1) (List.mem_of_getElem? (i := 13) rfl)
theorem dX7_flags_26 : decode cX7_flags 26 = .ok (.ireturn, 1) := fchk_d fw_dX7_flags_0_c (26, .ireturn, 1) (List.mem_of_getElem? (i := 14) rfl)
set_option maxRecDepth 20000 in
theorem ggX7_act_X7_isInstruction : GoodIn wsX7_act wsX7_isInstruction := goodIn_r _ [6] rfl (by decide +kernel)
set_option maxRecDepth 20000 in
theorem gX7_act_X7_isInstruction : GoodIn wsX7_act (va_wsS RX7 111 yX7_isInstruction wsX7_isInstruction) := goodIn_app (goodIn_of _ (by decide +kernel)) ggX7_act_X7_isInstruction
set_option maxRecDepth 20000 in
theorem ggX7_act_X7_refuse : GoodIn wsX7_act wsX7_refuse := goodIn_r _ [10, 11, 51, 52, 53, 54, 55, 56, 57, 58, 59, 60, 61, 62, 63, 64, 65, 66] rfl (by decide +kernel)
set_option maxRecDepth 20000 in
theorem gX7_act_X7_refuse : GoodIn wsX7_act (wsV RX7 91 RX7 yX7_refuse wsX7_refuse) := goodIn_app (goodIn_of _ (by decide +kernel)) ggX7_act_X7_refuse
set_option maxRecDepth 20000 in
theorem ggX7_act_X7_isAct : GoodIn wsX7_act wsX7_isAct := goodIn_r _ [14, 15, 16, 17, 18, 19, 5, 20, 21, 22] rfl (by decide +kernel)
set_option maxRecDepth 20000 in
theorem gX7_act_X7_isAct : GoodIn wsX7_act (va_wsS RX7 114 yX7_isAct wsX7_isAct) := goodIn_app (goodIn_of _ (by decide +kernel)) ggX7_act_X7_isAct
set_option maxRecDepth 20000 in
theorem ggX7_act_X5_add : GoodIn wsX7_act wsX5_add := goodIn_r _ [27, 28, 29, 30, 31, 32, 33, 34, 35, 5, 36, 37, 38, 26, 39, 40, 41, 42, 67, 68, 69, 70, 71, 72, 73] rfl (by decide +kernel)
set_option maxRecDepth 20000 in
theorem gX7_act_X5_add : GoodIn wsX7_act (wsV RX7 121 RX5 yX5_add wsX5_add) := goodIn_app (goodIn_of _ (by decide +kernel)) ggX7_act_X5_add
set_option maxRecDepth 20000 in
theorem ggX7_act_X7_takeAwayPackedOf : GoodIn wsX7_act wsX7_takeAwayPackedOf := goodIn_r _ [46, 47, 48, 49, 50, 51, 52, 53, 54, 55, 56, 57, 58, 59, 60, 61, 62, 63, 64, 65, 66, 74, 75, 76, 77, 78, 79, 80, 81, 82, 83, 84, 85, 86, 87, 88, 89] rfl (by decide +kernel)
set_option maxRecDepth 20000 in
theorem gX7_act_X7_takeAwayPackedOf : GoodIn wsX7_act (wsV RX7 125 RX7 yX7_takeAwayPackedOf wsX7_takeAwayPackedOf) := goodIn_app (goodIn_of _ (by decide +kernel)) ggX7_act_X7_takeAwayPackedOf
def fw_dX7_act_0 : List (Nat × Instr × Nat) := [(0, .iload_n 1, 1), (1, .invokestatic 111, 3), (4, .ifCond .ne 10, 3), (7, .aload_n 0, 1), (8, .bipush (-3), 2), (10, .invokevirtual 91, 3), (13, .ireturn, 1), (14, .iload_n 2, 1), (15, .iload_n 3, 1), (16, .iload 4, 2), (18, .iload 5, 2), (20, .invokestatic 114, 3), (23, .ifCond .ne 10, 3), (26, .aload_n 0, 1), (27, .bipush (-6), 2), (29, .invokevirtual 91, 3), (32, .ireturn, 1), (33, .aload_n 0, 1), (34, .getfield 19, 3), (37, .getfield 118, 3), (40, .iload_n 1, 1), (41, .iaload, 1), (42, .bipush 10, 2), (44, .if_icmp .lt 10, 3), (47, .aload_n 0, 1), (48, .bipush (-7), 2), (50, .invokevirtual 91, 3), (53, .ireturn, 1), (54, .aload_n 0, 1), (55, .getfield 19, 3), (58, .iload_n 1, 1), (59, .iload_n 2, 1), (60, .iload_n 3, 1), (61, .iload 4, 2), (63, .iload 5, 2), (65, .invokevirtual 121, 3), (68, .aload_n 0, 1), (69, .iload_n 1, 1), (70, .invokevirtual 125, 3), (73, .aload_n 0, 1)]
theorem fw_dX7_act_0_c : fchk 0 (cX7_act.data.toList.drop 0) fw_dX7_act_0 = true := by decide +kernel
theorem dX7_act_0 : decode cX7_act 0 = .ok (.iload_n 1, 1) := fchk_d fw_dX7_act_0_c (0, .iload_n 1, 1) (List.mem_of_getElem? (i := 0) rfl)
theorem dX7_act_1 : decode cX7_act 1 = .ok (.invokestatic 111, 3) := fchk_d fw_dX7_act_0_c (1, .invokestatic 111, 3) (List.mem_of_getElem? (i := 1) rfl)
theorem dX7_act_4 : decode cX7_act 4 = .ok (.ifCond .ne 10, 3) := fchk_d fw_dX7_act_0_c (4, .ifCond .ne 10, 3) (List.mem_of_getElem? (i := 2) rfl)
theorem dX7_act_7 : decode cX7_act 7 = .ok (.aload_n 0, 1) := fchk_d fw_dX7_act_0_c (7, .aload_n 0, 1) (List.mem_of_getElem? (i := 3) rfl)
theorem dX7_act_8 : decode cX7_act 8 = .ok (.bipush (-3), 2) := fchk_d fw_dX7_act_0_c (8, .bipush (-3), 2) (List.mem_of_getElem? (i := 4) rfl)
theorem dX7_act_10 : decode cX7_act 10 = .ok (.invokevirtual 91, 3) := fchk_d fw_dX7_act_0_c (10, .invokevirtual 91, 3) (List.mem_of_getElem? (i := 5) rfl)
theorem dX7_act_13 : decode cX7_act 13 = .ok (.ireturn, 1) := fchk_d fw_dX7_act_0_c (13, .ireturn, 1) (List.mem_of_getElem? (i := 6) rfl)
theorem dX7_act_14 : decode cX7_act 14 = .ok (.iload_n 2, 1) := fchk_d fw_dX7_act_0_c (14, .iload_n 2, 1) (List.mem_of_getElem? (i := 7) rfl)
theorem dX7_act_15 : decode cX7_act 15 = .ok (.iload_n 3, 1) := fchk_d fw_dX7_act_0_c (15, .iload_n 3, 1) (List.mem_of_getElem? (i := 8) rfl)
theorem dX7_act_16 : decode cX7_act 16 = .ok (.iload 4, 2) := fchk_d fw_dX7_act_0_c (16, .iload 4, 2) (List.mem_of_getElem? (i := 9) rfl)
theorem dX7_act_18 : decode cX7_act 18 = .ok (.iload 5, 2) := fchk_d fw_dX7_act_0_c (18, .iload 5, 2) (List.mem_of_getElem? (i := 10) rfl)
theorem dX7_act_20 : decode cX7_act 20 = .ok (.invokestatic 114, 3) := fchk_d fw_dX7_act_0_c (20, .invokestatic 114, 3) (List.mem_of_getElem? (i := 11) rfl)
theorem dX7_act_23 : decode cX7_act 23 = .ok (.ifCond .ne 10, 3) := fchk_d fw_dX7_act_0_c (23, .ifCond .ne 10, 3) (List.mem_of_getElem? (i := 12) rfl)
theorem dX7_act_26 : decode cX7_act 26 = .ok (.aload_n 0, 1) := fchk_d fw_dX7_act_0_c (26, .aload_n 0, 1) (List.mem_of_getElem? (i := 13) rfl)
theorem dX7_act_27 : decode cX7_act 27 = .ok (.bipush (-6), 2) := fchk_d fw_dX7_act_0_c (27, .bipush (-6), 2) (List.mem_of_getElem? (i := 14) rfl)
theorem dX7_act_29 : decode cX7_act 29 = .ok (.invokevirtual 91, 3) := fchk_d fw_dX7_act_0_c (29, .invokevirtual 91, 3) (List.mem_of_getElem? (i := 15) rfl)
theorem dX7_act_32 : decode cX7_act 32 = .ok (.ireturn, 1) := fchk_d fw_dX7_act_0_c (32, .ireturn, 1) (List.mem_of_getElem? (i := 16) rfl)
theorem dX7_act_33 : decode cX7_act 33 = .ok (.aload_n 0, 1) := fchk_d fw_dX7_act_0_c (33, .aload_n 0, 1) (List.mem_of_getElem? (i := 17) rfl)
theorem dX7_act_34 : decode cX7_act 34 = .ok (.getfield 19, 3) := fchk_d fw_dX7_act_0_c (34, .getfield 19, 3) (List.mem_of_getElem? (i := 18) rfl)
theorem dX7_act_37 : decode cX7_act 37 = .ok (.getfield 118, 3) := fchk_d fw_dX7_act_0_c (37, .getfield 118, 3) (List.mem_of_getElem? (i := 19) rfl)
theorem dX7_act_40 : decode cX7_act 40 = .ok (.iload_n 1, 1) := fchk_d fw_dX7_act_0_c (40, .iload_n 1, 1) (List.mem_of_getElem? (i := 20) rfl)
theorem dX7_act_41 : decode cX7_act 41 = .ok (.iaload, 1) := fchk_d fw_dX7_act_0_c (41, .iaload, 1) (List.mem_of_getElem? (i := 21) rfl)
theorem dX7_act_42 : decode cX7_act 42 = .ok (.bipush 10, 2) := fchk_d fw_dX7_act_0_c (42, .bipush 10, 2) (List.mem_of_getElem? (i := 22) rfl)
theorem dX7_act_44 : decode cX7_act 44 = .ok (.if_icmp .lt 10, 3) := fchk_d fw_dX7_act_0_c (44, .if_icmp .lt 10, 3) (List.mem_of_getElem? (i := 23) rfl)
theorem dX7_act_47 : decode cX7_act 47 = .ok (.aload_n 0, 1) := fchk_d fw_dX7_act_0_c (47, .aload_n 0, 1) (List.mem_of_getElem? (i := 24) rfl)
theorem dX7_act_48 : decode cX7_act 48 = .ok (.bipush (-7), 2) := fchk_d fw_dX7_act_0_c (48, .bipush (-7), 2) (List.mem_of_getElem? (i := 25) rfl)
theorem dX7_act_50 : decode cX7_act 50 = .ok (.invokevirtual 91, 3) := fchk_d fw_dX7_act_0_c (50, .invokevirtual 91, 3) (List.mem_of_getElem? (i := 26) rfl)
theorem dX7_act_53 : decode cX7_act 53 = .ok (.ireturn, 1) := fchk_d fw_dX7_act_0_c (53, .ireturn, 1) (List.mem_of_getElem? (i := 27) rfl)
theorem dX7_act_54 : decode cX7_act 54 = .ok (.aload_n 0, 1) := fchk_d fw_dX7_act_0_c (54, .aload_n 0, 1) (List.mem_of_getElem? (i := 28) rfl)
theorem dX7_act_55 : decode cX7_act 55 = .ok (.getfield 19, 3) := fchk_d fw_dX7_act_0_c (55, .getfield 19, 3) (List.mem_of_getElem? (i := 29) rfl)
theorem dX7_act_58 : decode cX7_act 58 = .ok (.iload_n 1, 1) := fchk_d fw_dX7_act_0_c (58, .iload_n 1, 1) (List.mem_of_getElem? (i := 30) rfl)
theorem dX7_act_59 : decode cX7_act 59 = .ok (.iload_n 2, 1) := fchk_d fw_dX7_act_0_c (59, .iload_n 2, 1) (List.mem_of_getElem? (i := 31) rfl)
theorem dX7_act_60 : decode cX7_act 60 = .ok (.iload_n 3, 1) := fchk_d fw_dX7_act_0_c (60, .iload_n 3, 1) (List.mem_of_getElem? (i := 32) rfl)
theorem dX7_act_61 : decode cX7_act 61 = .ok (.iload 4, 2) := fchk_d fw_dX7_act_0_c (61, .iload 4, 2) (List.mem_of_getElem? (i := 33) rfl)
theorem dX7_act_63 : decode cX7_act 63 = .ok (.iload 5, 2) := fchk_d fw_dX7_act_0_c (63, .iload 5, 2) (List.mem_of_getElem? (i := 34) rfl)
theorem dX7_act_65 : decode cX7_act 65 = .ok (.invokevirtual 121, 3) := fchk_d fw_dX7_act_0_c (65, .invokevirtual 121, 3) (List.mem_of_getElem? (i := 35) rfl)
theorem dX7_act_68 : decode cX7_act 68 = .ok (.aload_n 0, 1) := fchk_d fw_dX7_act_0_c (68, .aload_n 0, 1) (List.mem_of_getElem? (i := 36) rfl)
theorem dX7_act_69 : decode cX7_act 69 = .ok (.iload_n 1, 1) := fchk_d fw_dX7_act_0_c (69, .iload_n 1, 1) (List.mem_of_getElem? (i := 37) rfl)
theorem dX7_act_70 : decode cX7_act 70 = .ok (.invokevirtual 125, 3) := fchk_d fw_dX7_act_0_c (70, .invokevirtual 125, 3) (List.mem_of_getElem? (i := 38) rfl)
theorem dX7_act_73 : decode cX7_act 73 = .ok (.aload_n 0, 1) := fchk_d fw_dX7_act_0_c (73, .aload_n 0, 1) (List.mem_of_getElem? (i := 39) rfl)
def fw_dX7_act_74 : List (Nat × Instr × Nat) := [(74, .getfield 19, 3), (77, .getfield 118, 3), (80, .iload_n 1, 1), (81, .iaload, 1), (82, .ireturn, 1)]
theorem fw_dX7_act_74_c : fchk 74 (cX7_act.data.toList.drop 74) fw_dX7_act_74 = true := by decide +kernel
theorem dX7_act_74 : decode cX7_act 74 = .ok (.getfield 19, 3) := fchk_d fw_dX7_act_74_c (74, .getfield 19, 3) (List.mem_of_getElem? (i := 0) rfl)
theorem dX7_act_77 : decode cX7_act 77 = .ok (.getfield 118, 3) := fchk_d fw_dX7_act_74_c (77, .getfield 118, 3) (List.mem_of_getElem? (i := 1) rfl)
theorem dX7_act_80 : decode cX7_act 80 = .ok (.iload_n 1, 1) := fchk_d fw_dX7_act_74_c (80, .iload_n 1, 1) (List.mem_of_getElem? (i := 2) rfl)
theorem dX7_act_81 : decode cX7_act 81 = .ok (.iaload, 1) := fchk_d fw_dX7_act_74_c (81, .iaload, 1) (List.mem_of_getElem? (i := 3) rfl)
theorem dX7_act_82 : decode cX7_act 82 = .ok (.ireturn, 1) := fchk_d fw_dX7_act_74_c (82, .ireturn, 1) (List.mem_of_getElem? (i := 4) rfl)
set_option maxRecDepth 20000 in
theorem ggX7_clear_X7_isInstruction : GoodIn wsX7_clear wsX7_isInstruction := goodIn_r _ [6] rfl (by decide +kernel)
set_option maxRecDepth 20000 in
theorem gX7_clear_X7_isInstruction : GoodIn wsX7_clear (va_wsS RX7 111 yX7_isInstruction wsX7_isInstruction) := goodIn_app (goodIn_of _ (by decide +kernel)) ggX7_clear_X7_isInstruction
set_option maxRecDepth 20000 in
theorem ggX7_clear_X7_refuse : GoodIn wsX7_clear wsX7_refuse := goodIn_r _ [10, 11, 20, 21, 22, 23, 24, 25, 26, 27, 28, 29, 30, 31, 32, 33, 34, 35] rfl (by decide +kernel)
set_option maxRecDepth 20000 in
theorem gX7_clear_X7_refuse : GoodIn wsX7_clear (wsV RX7 91 RX7 yX7_refuse wsX7_refuse) := goodIn_app (goodIn_of _ (by decide +kernel)) ggX7_clear_X7_refuse
set_option maxRecDepth 20000 in
theorem ggX7_clear_X7_takeAwayPackedOf : GoodIn wsX7_clear wsX7_takeAwayPackedOf := goodIn_r _ [15, 16, 17, 18, 19, 20, 21, 22, 23, 24, 25, 26, 27, 28, 29, 30, 31, 32, 33, 34, 35, 43, 44, 45, 46, 47, 48, 49, 50, 51, 52, 53, 54, 55, 56, 57, 58] rfl (by decide +kernel)
set_option maxRecDepth 20000 in
theorem gX7_clear_X7_takeAwayPackedOf : GoodIn wsX7_clear (wsV RX7 125 RX7 yX7_takeAwayPackedOf wsX7_takeAwayPackedOf) := goodIn_app (goodIn_of _ (by decide +kernel)) ggX7_clear_X7_takeAwayPackedOf
def fw_dX7_clear_0 : List (Nat × Instr × Nat) := [(0, .iload_n 1, 1), (1, .invokestatic 111, 3), (4, .ifCond .ne 10, 3), (7, .aload_n 0, 1), (8, .bipush (-3), 2), (10, .invokevirtual 91, 3), (13, .ireturn, 1), (14, .aload_n 0, 1), (15, .getfield 19, 3), (18, .getfield 118, 3), (21, .iload_n 1, 1), (22, .iaload, 1), (23, .istore_n 2, 1), (24, .iload_n 2, 1), (25, .ifCond .le 18, 3), (28, .aload_n 0, 1), (29, .getfield 19, 3), (32, .getfield 118, 3), (35, .iload_n 1, 1), (36, .iconst 0, 1), (37, .iastore, 1), (38, .aload_n 0, 1), (39, .iload_n 1, 1), (40, .invokevirtual 125, 3), (43, .iload_n 2, 1), (44, .ireturn, 1)]
theorem fw_dX7_clear_0_c : fchk 0 (cX7_clear.data.toList.drop 0) fw_dX7_clear_0 = true := by decide +kernel
theorem dX7_clear_0 : decode cX7_clear 0 = .ok (.iload_n 1, 1) := fchk_d fw_dX7_clear_0_c (0, .iload_n 1, 1) (List.mem_of_getElem? (i := 0) rfl)
theorem dX7_clear_1 : decode cX7_clear 1 = .ok (.invokestatic 111, 3) := fchk_d fw_dX7_clear_0_c (1, .invokestatic 111, 3) (List.mem_of_getElem? (i := 1) rfl)
theorem dX7_clear_4 : decode cX7_clear 4 = .ok (.ifCond .ne 10, 3) := fchk_d fw_dX7_clear_0_c (4, .ifCond .ne 10, 3) (List.mem_of_getElem? (i := 2) rfl)
theorem dX7_clear_7 : decode cX7_clear 7 = .ok (.aload_n 0, 1) := fchk_d fw_dX7_clear_0_c (7, .aload_n 0, 1) (List.mem_of_getElem? (i := 3) rfl)
theorem dX7_clear_8 : decode cX7_clear 8 = .ok (.bipush (-3), 2) := fchk_d fw_dX7_clear_0_c (8, .bipush (-3), 2) (List.mem_of_getElem? (i := 4) rfl)
theorem dX7_clear_10 : decode cX7_clear 10 = .ok (.invokevirtual 91, 3) := fchk_d fw_dX7_clear_0_c (10, .invokevirtual 91, 3) (List.mem_of_getElem? (i := 5) rfl)
theorem dX7_clear_13 : decode cX7_clear 13 = .ok (.ireturn, 1) := fchk_d fw_dX7_clear_0_c (13, .ireturn, 1) (List.mem_of_getElem? (i := 6) rfl)
theorem dX7_clear_14 : decode cX7_clear 14 = .ok (.aload_n 0, 1) := fchk_d fw_dX7_clear_0_c (14, .aload_n 0, 1) (List.mem_of_getElem? (i := 7) rfl)
theorem dX7_clear_15 : decode cX7_clear 15 = .ok (.getfield 19, 3) := fchk_d fw_dX7_clear_0_c (15, .getfield 19, 3) (List.mem_of_getElem? (i := 8) rfl)
theorem dX7_clear_18 : decode cX7_clear 18 = .ok (.getfield 118, 3) := fchk_d fw_dX7_clear_0_c (18, .getfield 118, 3) (List.mem_of_getElem? (i := 9) rfl)
theorem dX7_clear_21 : decode cX7_clear 21 = .ok (.iload_n 1, 1) := fchk_d fw_dX7_clear_0_c (21, .iload_n 1, 1) (List.mem_of_getElem? (i := 10) rfl)
theorem dX7_clear_22 : decode cX7_clear 22 = .ok (.iaload, 1) := fchk_d fw_dX7_clear_0_c (22, .iaload, 1) (List.mem_of_getElem? (i := 11) rfl)
theorem dX7_clear_23 : decode cX7_clear 23 = .ok (.istore_n 2, 1) := fchk_d fw_dX7_clear_0_c (23, .istore_n 2, 1) (List.mem_of_getElem? (i := 12) rfl)
theorem dX7_clear_24 : decode cX7_clear 24 = .ok (.iload_n 2, 1) := fchk_d fw_dX7_clear_0_c (24, .iload_n 2, 1) (List.mem_of_getElem? (i := 13) rfl)
theorem dX7_clear_25 : decode cX7_clear 25 = .ok (.ifCond .le 18, 3) := fchk_d fw_dX7_clear_0_c (25, .ifCond .le 18, 3) (List.mem_of_getElem? (i := 14) rfl)
theorem dX7_clear_28 : decode cX7_clear 28 = .ok (.aload_n 0, 1) := fchk_d fw_dX7_clear_0_c (28, .aload_n 0, 1) (List.mem_of_getElem? (i := 15) rfl)
theorem dX7_clear_29 : decode cX7_clear 29 = .ok (.getfield 19, 3) := fchk_d fw_dX7_clear_0_c (29, .getfield 19, 3) (List.mem_of_getElem? (i := 16) rfl)
theorem dX7_clear_32 : decode cX7_clear 32 = .ok (.getfield 118, 3) := fchk_d fw_dX7_clear_0_c (32, .getfield 118, 3) (List.mem_of_getElem? (i := 17) rfl)
theorem dX7_clear_35 : decode cX7_clear 35 = .ok (.iload_n 1, 1) := fchk_d fw_dX7_clear_0_c (35, .iload_n 1, 1) (List.mem_of_getElem? (i := 18) rfl)
theorem dX7_clear_36 : decode cX7_clear 36 = .ok (.iconst 0, 1) := fchk_d fw_dX7_clear_0_c (36, .iconst 0, 1) (List.mem_of_getElem? (i := 19) rfl)
theorem dX7_clear_37 : decode cX7_clear 37 = .ok (.iastore, 1) := fchk_d fw_dX7_clear_0_c (37, .iastore, 1) (List.mem_of_getElem? (i := 20) rfl)
theorem dX7_clear_38 : decode cX7_clear 38 = .ok (.aload_n 0, 1) := fchk_d fw_dX7_clear_0_c (38, .aload_n 0, 1) (List.mem_of_getElem? (i := 21) rfl)
theorem dX7_clear_39 : decode cX7_clear 39 = .ok (.iload_n 1, 1) := fchk_d fw_dX7_clear_0_c (39, .iload_n 1, 1) (List.mem_of_getElem? (i := 22) rfl)
theorem dX7_clear_40 : decode cX7_clear 40 = .ok (.invokevirtual 125, 3) := fchk_d fw_dX7_clear_0_c (40, .invokevirtual 125, 3) (List.mem_of_getElem? (i := 23) rfl)
theorem dX7_clear_43 : decode cX7_clear 43 = .ok (.iload_n 2, 1) := fchk_d fw_dX7_clear_0_c (43, .iload_n 2, 1) (List.mem_of_getElem? (i := 24) rfl)
theorem dX7_clear_44 : decode cX7_clear 44 = .ok (.ireturn, 1) := fchk_d fw_dX7_clear_0_c (44, .ireturn, 1) (List.mem_of_getElem? (i := 25) rfl)
set_option maxRecDepth 20000 in
theorem ggX7_look_X7_hasAct : GoodIn wsX7_look wsX7_hasAct := goodIn_r _ [10, 1, 11, 12, 13, 9, 14, 33, 34, 35, 36, 37, 38, 39, 40, 41, 42, 43, 44, 45, 46, 47, 48, 49, 50, 51, 52, 53, 54, 55] rfl (by decide +kernel)
set_option maxRecDepth 20000 in
theorem gX7_look_X7_hasAct : GoodIn wsX7_look (wsV RX7 129 RX7 yX7_hasAct wsX7_hasAct) := goodIn_app (goodIn_of _ (by decide +kernel)) ggX7_look_X7_hasAct
set_option maxRecDepth 20000 in
theorem ggX7_look_X7_refuse : GoodIn wsX7_look wsX7_refuse := goodIn_r _ [18, 19, 33, 34, 35, 36, 37, 38, 39, 40, 41, 42, 43, 44, 45, 46, 47, 48] rfl (by decide +kernel)
set_option maxRecDepth 20000 in
theorem gX7_look_X7_refuse : GoodIn wsX7_look (wsV RX7 91 RX7 yX7_refuse wsX7_refuse) := goodIn_app (goodIn_of _ (by decide +kernel)) ggX7_look_X7_refuse
set_option maxRecDepth 20000 in
theorem ggX7_look_X7_slot : GoodIn wsX7_look wsX7_slot := goodIn_r _ [22] rfl (by decide +kernel)
set_option maxRecDepth 20000 in
theorem gX7_look_X7_slot : GoodIn wsX7_look (va_wsS RX7 133 yX7_slot wsX7_slot) := goodIn_app (goodIn_of _ (by decide +kernel)) ggX7_look_X7_slot
set_option maxRecDepth 20000 in
theorem ggX7_look_X5_partOf : GoodIn wsX7_look wsX5_partOf := goodIn_r _ [27, 28, 49, 50, 51, 52, 53, 54, 55] rfl (by decide +kernel)
set_option maxRecDepth 20000 in
theorem gX7_look_X5_partOf : GoodIn wsX7_look (wsV RX7 149 RX5 yX5_partOf wsX5_partOf) := goodIn_app (goodIn_of _ (by decide +kernel)) ggX7_look_X5_partOf
set_option maxRecDepth 20000 in
theorem ggX7_look_X5_canTrap : GoodIn wsX7_look wsX5_canTrap := goodIn_r _ [32, 28, 49, 50, 51, 52, 53, 54, 55] rfl (by decide +kernel)
set_option maxRecDepth 20000 in
theorem gX7_look_X5_canTrap : GoodIn wsX7_look (wsV RX7 152 RX5 yX5_canTrap wsX5_canTrap) := goodIn_app (goodIn_of _ (by decide +kernel)) ggX7_look_X5_canTrap
def fw_dX7_look_0 : List (Nat × Instr × Nat) := [(0, .aload_n 0, 1), (1, .iload_n 1, 1), (2, .iload_n 2, 1), (3, .invokevirtual 129, 3), (6, .ifCond .ne 10, 3), (9, .aload_n 0, 1), (10, .bipush (-3), 2), (12, .invokevirtual 91, 3), (15, .ireturn, 1), (16, .iload_n 1, 1), (17, .iload_n 2, 1), (18, .invokestatic 133, 3), (21, .istore 4, 2), (23, .iload_n 3, 1)]
theorem fw_dX7_look_0_c : fchk 0 (cX7_look.data.toList.drop 0) fw_dX7_look_0 = true := by decide +kernel
theorem dX7_look_0 : decode cX7_look 0 = .ok (.aload_n 0, 1) := fchk_d fw_dX7_look_0_c (0, .aload_n 0, 1) (List.mem_of_getElem? (i := 0) rfl)
theorem dX7_look_1 : decode cX7_look 1 = .ok (.iload_n 1, 1) := fchk_d fw_dX7_look_0_c (1, .iload_n 1, 1) (List.mem_of_getElem? (i := 1) rfl)
theorem dX7_look_2 : decode cX7_look 2 = .ok (.iload_n 2, 1) := fchk_d fw_dX7_look_0_c (2, .iload_n 2, 1) (List.mem_of_getElem? (i := 2) rfl)
theorem dX7_look_3 : decode cX7_look 3 = .ok (.invokevirtual 129, 3) := fchk_d fw_dX7_look_0_c (3, .invokevirtual 129, 3) (List.mem_of_getElem? (i := 3) rfl)
theorem dX7_look_6 : decode cX7_look 6 = .ok (.ifCond .ne 10, 3) := fchk_d fw_dX7_look_0_c (6, .ifCond .ne 10, 3) (List.mem_of_getElem? (i := 4) rfl)
theorem dX7_look_9 : decode cX7_look 9 = .ok (.aload_n 0, 1) := fchk_d fw_dX7_look_0_c (9, .aload_n 0, 1) (List.mem_of_getElem? (i := 5) rfl)
theorem dX7_look_10 : decode cX7_look 10 = .ok (.bipush (-3), 2) := fchk_d fw_dX7_look_0_c (10, .bipush (-3), 2) (List.mem_of_getElem? (i := 6) rfl)
theorem dX7_look_12 : decode cX7_look 12 = .ok (.invokevirtual 91, 3) := fchk_d fw_dX7_look_0_c (12, .invokevirtual 91, 3) (List.mem_of_getElem? (i := 7) rfl)
theorem dX7_look_15 : decode cX7_look 15 = .ok (.ireturn, 1) := fchk_d fw_dX7_look_0_c (15, .ireturn, 1) (List.mem_of_getElem? (i := 8) rfl)
theorem dX7_look_16 : decode cX7_look 16 = .ok (.iload_n 1, 1) := fchk_d fw_dX7_look_0_c (16, .iload_n 1, 1) (List.mem_of_getElem? (i := 9) rfl)
theorem dX7_look_17 : decode cX7_look 17 = .ok (.iload_n 2, 1) := fchk_d fw_dX7_look_0_c (17, .iload_n 2, 1) (List.mem_of_getElem? (i := 10) rfl)
theorem dX7_look_18 : decode cX7_look 18 = .ok (.invokestatic 133, 3) := fchk_d fw_dX7_look_0_c (18, .invokestatic 133, 3) (List.mem_of_getElem? (i := 11) rfl)
theorem dX7_look_21 : decode cX7_look 21 = .ok (.istore 4, 2) := fchk_d fw_dX7_look_0_c (21, .istore 4, 2) (List.mem_of_getElem? (i := 12) rfl)
theorem dX7_look_23 : decode cX7_look 23 = .ok (.iload_n 3, 1) := fchk_d fw_dX7_look_0_c (23, .iload_n 3, 1) (List.mem_of_getElem? (i := 13) rfl)
theorem dX7_look_24 : decode cX7_look 24 = .ok (.tableswitch 112 0 5 #[40, 51, 62, 73, 84, 94], 40) := by decide +kernel
def fw_dX7_look_64 : List (Nat × Instr × Nat) := [(64, .aload_n 0, 1), (65, .getfield 19, 3), (68, .getfield 137, 3), (71, .iload 4, 2), (73, .iaload, 1), (74, .ireturn, 1), (75, .aload_n 0, 1), (76, .getfield 19, 3), (79, .getfield 140, 3), (82, .iload 4, 2), (84, .iaload, 1), (85, .ireturn, 1), (86, .aload_n 0, 1), (87, .getfield 19, 3), (90, .getfield 143, 3), (93, .iload 4, 2), (95, .iaload, 1), (96, .ireturn, 1), (97, .aload_n 0, 1), (98, .getfield 19, 3), (101, .getfield 146, 3), (104, .iload 4, 2), (106, .iaload, 1), (107, .ireturn, 1), (108, .aload_n 0, 1), (109, .getfield 19, 3), (112, .iload 4, 2), (114, .invokevirtual 149, 3), (117, .ireturn, 1), (118, .aload_n 0, 1), (119, .getfield 19, 3), (122, .iload 4, 2), (124, .invokevirtual 152, 3), (127, .ifCond .eq 7, 3), (130, .iconst 1, 1), (131, .goto 4, 3), (134, .iconst 0, 1), (135, .ireturn, 1), (136, .aload_n 0, 1), (137, .bipush (-6), 2)]
theorem fw_dX7_look_64_c : fchk 64 (cX7_look.data.toList.drop 64) fw_dX7_look_64 = true := by decide +kernel
theorem dX7_look_64 : decode cX7_look 64 = .ok (.aload_n 0, 1) := fchk_d fw_dX7_look_64_c (64, .aload_n 0, 1) (List.mem_of_getElem? (i := 0) rfl)
theorem dX7_look_65 : decode cX7_look 65 = .ok (.getfield 19, 3) := fchk_d fw_dX7_look_64_c (65, .getfield 19, 3) (List.mem_of_getElem? (i := 1) rfl)
theorem dX7_look_68 : decode cX7_look 68 = .ok (.getfield 137, 3) := fchk_d fw_dX7_look_64_c (68, .getfield 137, 3) (List.mem_of_getElem? (i := 2) rfl)
theorem dX7_look_71 : decode cX7_look 71 = .ok (.iload 4, 2) := fchk_d fw_dX7_look_64_c (71, .iload 4, 2) (List.mem_of_getElem? (i := 3) rfl)
theorem dX7_look_73 : decode cX7_look 73 = .ok (.iaload, 1) := fchk_d fw_dX7_look_64_c (73, .iaload, 1) (List.mem_of_getElem? (i := 4) rfl)
theorem dX7_look_74 : decode cX7_look 74 = .ok (.ireturn, 1) := fchk_d fw_dX7_look_64_c (74, .ireturn, 1) (List.mem_of_getElem? (i := 5) rfl)
theorem dX7_look_75 : decode cX7_look 75 = .ok (.aload_n 0, 1) := fchk_d fw_dX7_look_64_c (75, .aload_n 0, 1) (List.mem_of_getElem? (i := 6) rfl)
theorem dX7_look_76 : decode cX7_look 76 = .ok (.getfield 19, 3) := fchk_d fw_dX7_look_64_c (76, .getfield 19, 3) (List.mem_of_getElem? (i := 7) rfl)
theorem dX7_look_79 : decode cX7_look 79 = .ok (.getfield 140, 3) := fchk_d fw_dX7_look_64_c (79, .getfield 140, 3) (List.mem_of_getElem? (i := 8) rfl)
theorem dX7_look_82 : decode cX7_look 82 = .ok (.iload 4, 2) := fchk_d fw_dX7_look_64_c (82, .iload 4, 2) (List.mem_of_getElem? (i := 9) rfl)
theorem dX7_look_84 : decode cX7_look 84 = .ok (.iaload, 1) := fchk_d fw_dX7_look_64_c (84, .iaload, 1) (List.mem_of_getElem? (i := 10) rfl)
theorem dX7_look_85 : decode cX7_look 85 = .ok (.ireturn, 1) := fchk_d fw_dX7_look_64_c (85, .ireturn, 1) (List.mem_of_getElem? (i := 11) rfl)
theorem dX7_look_86 : decode cX7_look 86 = .ok (.aload_n 0, 1) := fchk_d fw_dX7_look_64_c (86, .aload_n 0, 1) (List.mem_of_getElem? (i := 12) rfl)
theorem dX7_look_87 : decode cX7_look 87 = .ok (.getfield 19, 3) := fchk_d fw_dX7_look_64_c (87, .getfield 19, 3) (List.mem_of_getElem? (i := 13) rfl)
theorem dX7_look_90 : decode cX7_look 90 = .ok (.getfield 143, 3) := fchk_d fw_dX7_look_64_c (90, .getfield 143, 3) (List.mem_of_getElem? (i := 14) rfl)
theorem dX7_look_93 : decode cX7_look 93 = .ok (.iload 4, 2) := fchk_d fw_dX7_look_64_c (93, .iload 4, 2) (List.mem_of_getElem? (i := 15) rfl)
theorem dX7_look_95 : decode cX7_look 95 = .ok (.iaload, 1) := fchk_d fw_dX7_look_64_c (95, .iaload, 1) (List.mem_of_getElem? (i := 16) rfl)
theorem dX7_look_96 : decode cX7_look 96 = .ok (.ireturn, 1) := fchk_d fw_dX7_look_64_c (96, .ireturn, 1) (List.mem_of_getElem? (i := 17) rfl)
theorem dX7_look_97 : decode cX7_look 97 = .ok (.aload_n 0, 1) := fchk_d fw_dX7_look_64_c (97, .aload_n 0, 1) (List.mem_of_getElem? (i := 18) rfl)
theorem dX7_look_98 : decode cX7_look 98 = .ok (.getfield 19, 3) := fchk_d fw_dX7_look_64_c (98, .getfield 19, 3) (List.mem_of_getElem? (i := 19) rfl)
theorem dX7_look_101 : decode cX7_look 101 = .ok (.getfield 146, 3) := fchk_d fw_dX7_look_64_c (101, .getfield 146, 3) (List.mem_of_getElem? (i := 20) rfl)
theorem dX7_look_104 : decode cX7_look 104 = .ok (.iload 4, 2) := fchk_d fw_dX7_look_64_c (104, .iload 4, 2) (List.mem_of_getElem? (i := 21) rfl)
theorem dX7_look_106 : decode cX7_look 106 = .ok (.iaload, 1) := fchk_d fw_dX7_look_64_c (106, .iaload, 1) (List.mem_of_getElem? (i := 22) rfl)
theorem dX7_look_107 : decode cX7_look 107 = .ok (.ireturn, 1) := fchk_d fw_dX7_look_64_c (107, .ireturn, 1) (List.mem_of_getElem? (i := 23) rfl)
theorem dX7_look_108 : decode cX7_look 108 = .ok (.aload_n 0, 1) := fchk_d fw_dX7_look_64_c (108, .aload_n 0, 1) (List.mem_of_getElem? (i := 24) rfl)
theorem dX7_look_109 : decode cX7_look 109 = .ok (.getfield 19, 3) := fchk_d fw_dX7_look_64_c (109, .getfield 19, 3) (List.mem_of_getElem? (i := 25) rfl)
theorem dX7_look_112 : decode cX7_look 112 = .ok (.iload 4, 2) := fchk_d fw_dX7_look_64_c (112, .iload 4, 2) (List.mem_of_getElem? (i := 26) rfl)
theorem dX7_look_114 : decode cX7_look 114 = .ok (.invokevirtual 149, 3) := fchk_d fw_dX7_look_64_c (114, .invokevirtual 149, 3) (List.mem_of_getElem? (i := 27) rfl)
theorem dX7_look_117 : decode cX7_look 117 = .ok (.ireturn, 1) := fchk_d fw_dX7_look_64_c (117, .ireturn, 1) (List.mem_of_getElem? (i := 28) rfl)
theorem dX7_look_118 : decode cX7_look 118 = .ok (.aload_n 0, 1) := fchk_d fw_dX7_look_64_c (118, .aload_n 0, 1) (List.mem_of_getElem? (i := 29) rfl)
theorem dX7_look_119 : decode cX7_look 119 = .ok (.getfield 19, 3) := fchk_d fw_dX7_look_64_c (119, .getfield 19, 3) (List.mem_of_getElem? (i := 30) rfl)
theorem dX7_look_122 : decode cX7_look 122 = .ok (.iload 4, 2) := fchk_d fw_dX7_look_64_c (122, .iload 4, 2) (List.mem_of_getElem? (i := 31) rfl)
theorem dX7_look_124 : decode cX7_look 124 = .ok (.invokevirtual 152, 3) := fchk_d fw_dX7_look_64_c (124, .invokevirtual 152, 3) (List.mem_of_getElem? (i := 32) rfl)
theorem dX7_look_127 : decode cX7_look 127 = .ok (.ifCond .eq 7, 3) := fchk_d fw_dX7_look_64_c (127, .ifCond .eq 7, 3) (List.mem_of_getElem? (i := 33) rfl)
theorem dX7_look_130 : decode cX7_look 130 = .ok (.iconst 1, 1) := fchk_d fw_dX7_look_64_c (130, .iconst 1, 1) (List.mem_of_getElem? (i := 34) rfl)
theorem dX7_look_131 : decode cX7_look 131 = .ok (.goto 4, 3) := fchk_d fw_dX7_look_64_c (131, .goto 4, 3) (List.mem_of_getElem? (i := 35) rfl)
theorem dX7_look_134 : decode cX7_look 134 = .ok (.iconst 0, 1) := fchk_d fw_dX7_look_64_c (134, .iconst 0, 1) (List.mem_of_getElem? (i := 36) rfl)
theorem dX7_look_135 : decode cX7_look 135 = .ok (.ireturn, 1) := fchk_d fw_dX7_look_64_c (135, .ireturn, 1) (List.mem_of_getElem? (i := 37) rfl)
theorem dX7_look_136 : decode cX7_look 136 = .ok (.aload_n 0, 1) := fchk_d fw_dX7_look_64_c (136, .aload_n 0, 1) (List.mem_of_getElem? (i := 38) rfl)
theorem dX7_look_137 : decode cX7_look 137 = .ok (.bipush (-6), 2) := fchk_d fw_dX7_look_64_c (137, .bipush (-6), 2) (List.mem_of_getElem? (i := 39) rfl)
def fw_dX7_look_139 : List (Nat × Instr × Nat) := [(139, .invokevirtual 91, 3), (142, .ireturn, 1)]
theorem fw_dX7_look_139_c : fchk 139 (cX7_look.data.toList.drop 139) fw_dX7_look_139 = true := by decide +kernel
theorem dX7_look_139 : decode cX7_look 139 = .ok (.invokevirtual 91, 3) := fchk_d fw_dX7_look_139_c (139, .invokevirtual 91, 3) (List.mem_of_getElem? (i := 0) rfl)
theorem dX7_look_142 : decode cX7_look 142 = .ok (.ireturn, 1) := fchk_d fw_dX7_look_139_c (142, .ireturn, 1) (List.mem_of_getElem? (i := 1) rfl)
set_option maxRecDepth 20000 in
theorem ggX7_buses_X7_refuse : GoodIn wsX7_buses wsX7_refuse := goodIn_r _ [9, 10, 17, 18, 19, 20, 21, 22, 23, 24, 25, 26, 27, 28, 29, 30, 31, 32] rfl (by decide +kernel)
set_option maxRecDepth 20000 in
theorem gX7_buses_X7_refuse : GoodIn wsX7_buses (wsV RX7 91 RX7 yX7_refuse wsX7_refuse) := goodIn_app (goodIn_of _ (by decide +kernel)) ggX7_buses_X7_refuse
set_option maxRecDepth 20000 in
theorem ggX7_buses_X3_dropAll : GoodIn wsX7_buses wsX3_dropAll := goodIn_r _ [15, 16, 33, 34, 35, 36, 37, 38, 39] rfl (by decide +kernel)
set_option maxRecDepth 20000 in
theorem gX7_buses_X3_dropAll : GoodIn wsX7_buses (wsV RX7 158 RX3 yX3_dropAll wsX3_dropAll) := goodIn_app (goodIn_of _ (by decide +kernel)) ggX7_buses_X3_dropAll
def fw_dX7_buses_0 : List (Nat × Instr × Nat) := [(0, .iload_n 1, 1), (1, .iconst 1, 1), (2, .if_icmp .lt 8, 3), (5, .iload_n 1, 1), (6, .iconst 3, 1), (7, .if_icmp .le 10, 3), (10, .aload_n 0, 1), (11, .bipush (-6), 2), (13, .invokevirtual 91, 3), (16, .ireturn, 1), (17, .aload_n 0, 1), (18, .getfield 28, 3), (21, .getfield 155, 3), (24, .istore_n 2, 1), (25, .iload_n 1, 1), (26, .iload_n 2, 1), (27, .if_icmp .eq 26, 3), (30, .aload_n 0, 1), (31, .getfield 28, 3), (34, .iload_n 1, 1), (35, .putfield 155, 3), (38, .aload_n 0, 1), (39, .getfield 28, 3), (42, .invokevirtual 158, 3), (45, .aload_n 0, 1), (46, .getfield 37, 3), (49, .iconst 0, 1), (50, .putfield 161, 3), (53, .iload_n 2, 1), (54, .ireturn, 1)]
theorem fw_dX7_buses_0_c : fchk 0 (cX7_buses.data.toList.drop 0) fw_dX7_buses_0 = true := by decide +kernel
theorem dX7_buses_0 : decode cX7_buses 0 = .ok (.iload_n 1, 1) := fchk_d fw_dX7_buses_0_c (0, .iload_n 1, 1) (List.mem_of_getElem? (i := 0) rfl)
theorem dX7_buses_1 : decode cX7_buses 1 = .ok (.iconst 1, 1) := fchk_d fw_dX7_buses_0_c (1, .iconst 1, 1) (List.mem_of_getElem? (i := 1) rfl)
theorem dX7_buses_2 : decode cX7_buses 2 = .ok (.if_icmp .lt 8, 3) := fchk_d fw_dX7_buses_0_c (2, .if_icmp .lt 8, 3) (List.mem_of_getElem? (i := 2) rfl)
theorem dX7_buses_5 : decode cX7_buses 5 = .ok (.iload_n 1, 1) := fchk_d fw_dX7_buses_0_c (5, .iload_n 1, 1) (List.mem_of_getElem? (i := 3) rfl)
theorem dX7_buses_6 : decode cX7_buses 6 = .ok (.iconst 3, 1) := fchk_d fw_dX7_buses_0_c (6, .iconst 3, 1) (List.mem_of_getElem? (i := 4) rfl)
theorem dX7_buses_7 : decode cX7_buses 7 = .ok (.if_icmp .le 10, 3) := fchk_d fw_dX7_buses_0_c (7, .if_icmp .le 10, 3) (List.mem_of_getElem? (i := 5) rfl)
theorem dX7_buses_10 : decode cX7_buses 10 = .ok (.aload_n 0, 1) := fchk_d fw_dX7_buses_0_c (10, .aload_n 0, 1) (List.mem_of_getElem? (i := 6) rfl)
theorem dX7_buses_11 : decode cX7_buses 11 = .ok (.bipush (-6), 2) := fchk_d fw_dX7_buses_0_c (11, .bipush (-6), 2) (List.mem_of_getElem? (i := 7) rfl)
theorem dX7_buses_13 : decode cX7_buses 13 = .ok (.invokevirtual 91, 3) := fchk_d fw_dX7_buses_0_c (13, .invokevirtual 91, 3) (List.mem_of_getElem? (i := 8) rfl)
theorem dX7_buses_16 : decode cX7_buses 16 = .ok (.ireturn, 1) := fchk_d fw_dX7_buses_0_c (16, .ireturn, 1) (List.mem_of_getElem? (i := 9) rfl)
theorem dX7_buses_17 : decode cX7_buses 17 = .ok (.aload_n 0, 1) := fchk_d fw_dX7_buses_0_c (17, .aload_n 0, 1) (List.mem_of_getElem? (i := 10) rfl)
theorem dX7_buses_18 : decode cX7_buses 18 = .ok (.getfield 28, 3) := fchk_d fw_dX7_buses_0_c (18, .getfield 28, 3) (List.mem_of_getElem? (i := 11) rfl)
theorem dX7_buses_21 : decode cX7_buses 21 = .ok (.getfield 155, 3) := fchk_d fw_dX7_buses_0_c (21, .getfield 155, 3) (List.mem_of_getElem? (i := 12) rfl)
theorem dX7_buses_24 : decode cX7_buses 24 = .ok (.istore_n 2, 1) := fchk_d fw_dX7_buses_0_c (24, .istore_n 2, 1) (List.mem_of_getElem? (i := 13) rfl)
theorem dX7_buses_25 : decode cX7_buses 25 = .ok (.iload_n 1, 1) := fchk_d fw_dX7_buses_0_c (25, .iload_n 1, 1) (List.mem_of_getElem? (i := 14) rfl)
theorem dX7_buses_26 : decode cX7_buses 26 = .ok (.iload_n 2, 1) := fchk_d fw_dX7_buses_0_c (26, .iload_n 2, 1) (List.mem_of_getElem? (i := 15) rfl)
theorem dX7_buses_27 : decode cX7_buses 27 = .ok (.if_icmp .eq 26, 3) := fchk_d fw_dX7_buses_0_c (27, .if_icmp .eq 26, 3) (List.mem_of_getElem? (i := 16) rfl)
theorem dX7_buses_30 : decode cX7_buses 30 = .ok (.aload_n 0, 1) := fchk_d fw_dX7_buses_0_c (30, .aload_n 0, 1) (List.mem_of_getElem? (i := 17) rfl)
theorem dX7_buses_31 : decode cX7_buses 31 = .ok (.getfield 28, 3) := fchk_d fw_dX7_buses_0_c (31, .getfield 28, 3) (List.mem_of_getElem? (i := 18) rfl)
theorem dX7_buses_34 : decode cX7_buses 34 = .ok (.iload_n 1, 1) := fchk_d fw_dX7_buses_0_c (34, .iload_n 1, 1) (List.mem_of_getElem? (i := 19) rfl)
theorem dX7_buses_35 : decode cX7_buses 35 = .ok (.putfield 155, 3) := fchk_d fw_dX7_buses_0_c (35, .putfield 155, 3) (List.mem_of_getElem? (i := 20) rfl)
theorem dX7_buses_38 : decode cX7_buses 38 = .ok (.aload_n 0, 1) := fchk_d fw_dX7_buses_0_c (38, .aload_n 0, 1) (List.mem_of_getElem? (i := 21) rfl)
theorem dX7_buses_39 : decode cX7_buses 39 = .ok (.getfield 28, 3) := fchk_d fw_dX7_buses_0_c (39, .getfield 28, 3) (List.mem_of_getElem? (i := 22) rfl)
theorem dX7_buses_42 : decode cX7_buses 42 = .ok (.invokevirtual 158, 3) := fchk_d fw_dX7_buses_0_c (42, .invokevirtual 158, 3) (List.mem_of_getElem? (i := 23) rfl)
theorem dX7_buses_45 : decode cX7_buses 45 = .ok (.aload_n 0, 1) := fchk_d fw_dX7_buses_0_c (45, .aload_n 0, 1) (List.mem_of_getElem? (i := 24) rfl)
theorem dX7_buses_46 : decode cX7_buses 46 = .ok (.getfield 37, 3) := fchk_d fw_dX7_buses_0_c (46, .getfield 37, 3) (List.mem_of_getElem? (i := 25) rfl)
theorem dX7_buses_49 : decode cX7_buses 49 = .ok (.iconst 0, 1) := fchk_d fw_dX7_buses_0_c (49, .iconst 0, 1) (List.mem_of_getElem? (i := 26) rfl)
theorem dX7_buses_50 : decode cX7_buses 50 = .ok (.putfield 161, 3) := fchk_d fw_dX7_buses_0_c (50, .putfield 161, 3) (List.mem_of_getElem? (i := 27) rfl)
theorem dX7_buses_53 : decode cX7_buses 53 = .ok (.iload_n 2, 1) := fchk_d fw_dX7_buses_0_c (53, .iload_n 2, 1) (List.mem_of_getElem? (i := 28) rfl)
theorem dX7_buses_54 : decode cX7_buses 54 = .ok (.ireturn, 1) := fchk_d fw_dX7_buses_0_c (54, .ireturn, 1) (List.mem_of_getElem? (i := 29) rfl)
set_option maxRecDepth 20000 in
theorem ggX7_needs_X7_hasAct : GoodIn wsX7_needs wsX7_hasAct := goodIn_r _ [6, 1, 7, 8, 9, 5, 10, 31, 32, 33, 34, 35, 36, 37, 38, 39, 40, 41, 42, 43, 44, 45, 46, 47, 48, 49, 50, 51, 52, 53] rfl (by decide +kernel)
set_option maxRecDepth 20000 in
theorem gX7_needs_X7_hasAct : GoodIn wsX7_needs (wsV RX7 129 RX7 yX7_hasAct wsX7_hasAct) := goodIn_app (goodIn_of _ (by decide +kernel)) ggX7_needs_X7_hasAct
set_option maxRecDepth 20000 in
theorem ggX7_needs_X7_refuse : GoodIn wsX7_needs wsX7_refuse := goodIn_r _ [14, 15, 31, 32, 33, 34, 35, 36, 37, 38, 39, 40, 41, 42, 43, 44, 45, 46] rfl (by decide +kernel)
set_option maxRecDepth 20000 in
theorem gX7_needs_X7_refuse : GoodIn wsX7_needs (wsV RX7 91 RX7 yX7_refuse wsX7_refuse) := goodIn_app (goodIn_of _ (by decide +kernel)) ggX7_needs_X7_refuse
set_option maxRecDepth 20000 in
theorem ggX7_needs_X7_slot : GoodIn wsX7_needs wsX7_slot := goodIn_r _ [18] rfl (by decide +kernel)
set_option maxRecDepth 20000 in
theorem gX7_needs_X7_slot : GoodIn wsX7_needs (va_wsS RX7 133 yX7_slot wsX7_slot) := goodIn_app (goodIn_of _ (by decide +kernel)) ggX7_needs_X7_slot
set_option maxRecDepth 20000 in
theorem ggX7_needs_X5_need : GoodIn wsX7_needs wsX5_need := goodIn_r _ [23, 24, 25, 26, 27, 28, 29, 22, 30, 47, 48, 49, 50, 51, 52, 53] rfl (by decide +kernel)
set_option maxRecDepth 20000 in
theorem gX7_needs_X5_need : GoodIn wsX7_needs (wsV RX7 165 RX5 yX5_need wsX5_need) := goodIn_app (goodIn_of _ (by decide +kernel)) ggX7_needs_X5_need
def fw_dX7_needs_0 : List (Nat × Instr × Nat) := [(0, .aload_n 0, 1), (1, .iload_n 1, 1), (2, .iload_n 2, 1), (3, .invokevirtual 129, 3), (6, .ifCond .eq 12, 3), (9, .aload_n 0, 1), (10, .iload_n 1, 1), (11, .iload_n 3, 1), (12, .invokevirtual 129, 3), (15, .ifCond .ne 10, 3), (18, .aload_n 0, 1), (19, .bipush (-3), 2), (21, .invokevirtual 91, 3), (24, .ireturn, 1), (25, .iload_n 2, 1), (26, .iload_n 3, 1), (27, .if_icmp .lt 10, 3), (30, .aload_n 0, 1), (31, .bipush (-6), 2), (33, .invokevirtual 91, 3), (36, .ireturn, 1), (37, .aload_n 0, 1), (38, .getfield 19, 3), (41, .iload_n 1, 1), (42, .iload_n 2, 1), (43, .invokestatic 133, 3), (46, .iload_n 1, 1), (47, .iload_n 3, 1), (48, .invokestatic 133, 3), (51, .invokevirtual 165, 3), (54, .ireturn, 1)]
theorem fw_dX7_needs_0_c : fchk 0 (cX7_needs.data.toList.drop 0) fw_dX7_needs_0 = true := by decide +kernel
theorem dX7_needs_0 : decode cX7_needs 0 = .ok (.aload_n 0, 1) := fchk_d fw_dX7_needs_0_c (0, .aload_n 0, 1) (List.mem_of_getElem? (i := 0) rfl)
theorem dX7_needs_1 : decode cX7_needs 1 = .ok (.iload_n 1, 1) := fchk_d fw_dX7_needs_0_c (1, .iload_n 1, 1) (List.mem_of_getElem? (i := 1) rfl)
theorem dX7_needs_2 : decode cX7_needs 2 = .ok (.iload_n 2, 1) := fchk_d fw_dX7_needs_0_c (2, .iload_n 2, 1) (List.mem_of_getElem? (i := 2) rfl)
theorem dX7_needs_3 : decode cX7_needs 3 = .ok (.invokevirtual 129, 3) := fchk_d fw_dX7_needs_0_c (3, .invokevirtual 129, 3) (List.mem_of_getElem? (i := 3) rfl)
theorem dX7_needs_6 : decode cX7_needs 6 = .ok (.ifCond .eq 12, 3) := fchk_d fw_dX7_needs_0_c (6, .ifCond .eq 12, 3) (List.mem_of_getElem? (i := 4) rfl)
theorem dX7_needs_9 : decode cX7_needs 9 = .ok (.aload_n 0, 1) := fchk_d fw_dX7_needs_0_c (9, .aload_n 0, 1) (List.mem_of_getElem? (i := 5) rfl)
theorem dX7_needs_10 : decode cX7_needs 10 = .ok (.iload_n 1, 1) := fchk_d fw_dX7_needs_0_c (10, .iload_n 1, 1) (List.mem_of_getElem? (i := 6) rfl)
theorem dX7_needs_11 : decode cX7_needs 11 = .ok (.iload_n 3, 1) := fchk_d fw_dX7_needs_0_c (11, .iload_n 3, 1) (List.mem_of_getElem? (i := 7) rfl)
theorem dX7_needs_12 : decode cX7_needs 12 = .ok (.invokevirtual 129, 3) := fchk_d fw_dX7_needs_0_c (12, .invokevirtual 129, 3) (List.mem_of_getElem? (i := 8) rfl)
theorem dX7_needs_15 : decode cX7_needs 15 = .ok (.ifCond .ne 10, 3) := fchk_d fw_dX7_needs_0_c (15, .ifCond .ne 10, 3) (List.mem_of_getElem? (i := 9) rfl)
theorem dX7_needs_18 : decode cX7_needs 18 = .ok (.aload_n 0, 1) := fchk_d fw_dX7_needs_0_c (18, .aload_n 0, 1) (List.mem_of_getElem? (i := 10) rfl)
theorem dX7_needs_19 : decode cX7_needs 19 = .ok (.bipush (-3), 2) := fchk_d fw_dX7_needs_0_c (19, .bipush (-3), 2) (List.mem_of_getElem? (i := 11) rfl)
theorem dX7_needs_21 : decode cX7_needs 21 = .ok (.invokevirtual 91, 3) := fchk_d fw_dX7_needs_0_c (21, .invokevirtual 91, 3) (List.mem_of_getElem? (i := 12) rfl)
theorem dX7_needs_24 : decode cX7_needs 24 = .ok (.ireturn, 1) := fchk_d fw_dX7_needs_0_c (24, .ireturn, 1) (List.mem_of_getElem? (i := 13) rfl)
theorem dX7_needs_25 : decode cX7_needs 25 = .ok (.iload_n 2, 1) := fchk_d fw_dX7_needs_0_c (25, .iload_n 2, 1) (List.mem_of_getElem? (i := 14) rfl)
theorem dX7_needs_26 : decode cX7_needs 26 = .ok (.iload_n 3, 1) := fchk_d fw_dX7_needs_0_c (26, .iload_n 3, 1) (List.mem_of_getElem? (i := 15) rfl)
theorem dX7_needs_27 : decode cX7_needs 27 = .ok (.if_icmp .lt 10, 3) := fchk_d fw_dX7_needs_0_c (27, .if_icmp .lt 10, 3) (List.mem_of_getElem? (i := 16) rfl)
theorem dX7_needs_30 : decode cX7_needs 30 = .ok (.aload_n 0, 1) := fchk_d fw_dX7_needs_0_c (30, .aload_n 0, 1) (List.mem_of_getElem? (i := 17) rfl)
theorem dX7_needs_31 : decode cX7_needs 31 = .ok (.bipush (-6), 2) := fchk_d fw_dX7_needs_0_c (31, .bipush (-6), 2) (List.mem_of_getElem? (i := 18) rfl)
theorem dX7_needs_33 : decode cX7_needs 33 = .ok (.invokevirtual 91, 3) := fchk_d fw_dX7_needs_0_c (33, .invokevirtual 91, 3) (List.mem_of_getElem? (i := 19) rfl)
theorem dX7_needs_36 : decode cX7_needs 36 = .ok (.ireturn, 1) := fchk_d fw_dX7_needs_0_c (36, .ireturn, 1) (List.mem_of_getElem? (i := 20) rfl)
theorem dX7_needs_37 : decode cX7_needs 37 = .ok (.aload_n 0, 1) := fchk_d fw_dX7_needs_0_c (37, .aload_n 0, 1) (List.mem_of_getElem? (i := 21) rfl)
theorem dX7_needs_38 : decode cX7_needs 38 = .ok (.getfield 19, 3) := fchk_d fw_dX7_needs_0_c (38, .getfield 19, 3) (List.mem_of_getElem? (i := 22) rfl)
theorem dX7_needs_41 : decode cX7_needs 41 = .ok (.iload_n 1, 1) := fchk_d fw_dX7_needs_0_c (41, .iload_n 1, 1) (List.mem_of_getElem? (i := 23) rfl)
theorem dX7_needs_42 : decode cX7_needs 42 = .ok (.iload_n 2, 1) := fchk_d fw_dX7_needs_0_c (42, .iload_n 2, 1) (List.mem_of_getElem? (i := 24) rfl)
theorem dX7_needs_43 : decode cX7_needs 43 = .ok (.invokestatic 133, 3) := fchk_d fw_dX7_needs_0_c (43, .invokestatic 133, 3) (List.mem_of_getElem? (i := 25) rfl)
theorem dX7_needs_46 : decode cX7_needs 46 = .ok (.iload_n 1, 1) := fchk_d fw_dX7_needs_0_c (46, .iload_n 1, 1) (List.mem_of_getElem? (i := 26) rfl)
theorem dX7_needs_47 : decode cX7_needs 47 = .ok (.iload_n 3, 1) := fchk_d fw_dX7_needs_0_c (47, .iload_n 3, 1) (List.mem_of_getElem? (i := 27) rfl)
theorem dX7_needs_48 : decode cX7_needs 48 = .ok (.invokestatic 133, 3) := fchk_d fw_dX7_needs_0_c (48, .invokestatic 133, 3) (List.mem_of_getElem? (i := 28) rfl)
theorem dX7_needs_51 : decode cX7_needs 51 = .ok (.invokevirtual 165, 3) := fchk_d fw_dX7_needs_0_c (51, .invokevirtual 165, 3) (List.mem_of_getElem? (i := 29) rfl)
theorem dX7_needs_54 : decode cX7_needs 54 = .ok (.ireturn, 1) := fchk_d fw_dX7_needs_0_c (54, .ireturn, 1) (List.mem_of_getElem? (i := 30) rfl)
set_option maxRecDepth 20000 in
theorem ggX7_pack_X7_isInstruction : GoodIn wsX7_pack wsX7_isInstruction := goodIn_r _ [6] rfl (by decide +kernel)
set_option maxRecDepth 20000 in
theorem gX7_pack_X7_isInstruction : GoodIn wsX7_pack (va_wsS RX7 111 yX7_isInstruction wsX7_isInstruction) := goodIn_app (goodIn_of _ (by decide +kernel)) ggX7_pack_X7_isInstruction
set_option maxRecDepth 20000 in
theorem ggX7_pack_X7_refuse : GoodIn wsX7_pack wsX7_refuse := goodIn_r _ [10, 11, 102, 103, 104, 105, 106, 107, 108, 109, 110, 111, 112, 113, 114, 115, 116, 117] rfl (by decide +kernel)
set_option maxRecDepth 20000 in
theorem gX7_pack_X7_refuse : GoodIn wsX7_pack (wsV RX7 91 RX7 yX7_refuse wsX7_refuse) := goodIn_app (goodIn_of _ (by decide +kernel)) ggX7_pack_X7_refuse
set_option maxRecDepth 20000 in
theorem ggX7_pack_X3_make : GoodIn wsX7_pack wsX3_make := goodIn_r _ [16, 17, 18, 19, 20, 21, 22, 23, 24, 25, 26, 27, 28, 29, 30, 31, 32, 33, 34, 35, 36, 37, 38, 39, 40, 41, 42, 43, 44, 5, 45, 46, 47, 48, 49, 50, 51, 52, 53, 54, 55, 56, 57, 58, 59, 60, 61, 62, 63, 64, 65, 66, 67, 68, 69, 70, 71, 72, 73, 74, 75, 76, 77, 78, 79, 80, 81, 82, 83, 84, 85, 86, 87, 88, 89, 90, 91, 92, 93, 94, 95, 96, 97, 98, 99, 100, 101, 118, 119, 120, 121, 122, 123, 124, 125, 126, 127, 128, 129, 130, 131, 132, 133, 134, 135, 136, 137, 138, 139, 140, 141] rfl (by decide +kernel)
set_option maxRecDepth 20000 in
theorem gX7_pack_X3_make : GoodIn wsX7_pack (wsV RX7 168 RX3 yX3_make wsX3_make) := goodIn_app (goodIn_of _ (by decide +kernel)) ggX7_pack_X3_make
def fw_dX7_pack_0 : List (Nat × Instr × Nat) := [(0, .iload_n 1, 1), (1, .invokestatic 111, 3), (4, .ifCond .ne 10, 3), (7, .aload_n 0, 1), (8, .bipush (-3), 2), (10, .invokevirtual 91, 3), (13, .ireturn, 1), (14, .aload_n 0, 1), (15, .getfield 28, 3), (18, .iload_n 1, 1), (19, .invokevirtual 168, 3), (22, .aload_n 0, 1), (23, .getfield 28, 3), (26, .getfield 171, 3), (29, .iload_n 1, 1), (30, .iaload, 1), (31, .ireturn, 1)]
theorem fw_dX7_pack_0_c : fchk 0 (cX7_pack.data.toList.drop 0) fw_dX7_pack_0 = true := by decide +kernel
theorem dX7_pack_0 : decode cX7_pack 0 = .ok (.iload_n 1, 1) := fchk_d fw_dX7_pack_0_c (0, .iload_n 1, 1) (List.mem_of_getElem? (i := 0) rfl)
theorem dX7_pack_1 : decode cX7_pack 1 = .ok (.invokestatic 111, 3) := fchk_d fw_dX7_pack_0_c (1, .invokestatic 111, 3) (List.mem_of_getElem? (i := 1) rfl)
theorem dX7_pack_4 : decode cX7_pack 4 = .ok (.ifCond .ne 10, 3) := fchk_d fw_dX7_pack_0_c (4, .ifCond .ne 10, 3) (List.mem_of_getElem? (i := 2) rfl)
theorem dX7_pack_7 : decode cX7_pack 7 = .ok (.aload_n 0, 1) := fchk_d fw_dX7_pack_0_c (7, .aload_n 0, 1) (List.mem_of_getElem? (i := 3) rfl)
theorem dX7_pack_8 : decode cX7_pack 8 = .ok (.bipush (-3), 2) := fchk_d fw_dX7_pack_0_c (8, .bipush (-3), 2) (List.mem_of_getElem? (i := 4) rfl)
theorem dX7_pack_10 : decode cX7_pack 10 = .ok (.invokevirtual 91, 3) := fchk_d fw_dX7_pack_0_c (10, .invokevirtual 91, 3) (List.mem_of_getElem? (i := 5) rfl)
theorem dX7_pack_13 : decode cX7_pack 13 = .ok (.ireturn, 1) := fchk_d fw_dX7_pack_0_c (13, .ireturn, 1) (List.mem_of_getElem? (i := 6) rfl)
theorem dX7_pack_14 : decode cX7_pack 14 = .ok (.aload_n 0, 1) := fchk_d fw_dX7_pack_0_c (14, .aload_n 0, 1) (List.mem_of_getElem? (i := 7) rfl)
theorem dX7_pack_15 : decode cX7_pack 15 = .ok (.getfield 28, 3) := fchk_d fw_dX7_pack_0_c (15, .getfield 28, 3) (List.mem_of_getElem? (i := 8) rfl)
theorem dX7_pack_18 : decode cX7_pack 18 = .ok (.iload_n 1, 1) := fchk_d fw_dX7_pack_0_c (18, .iload_n 1, 1) (List.mem_of_getElem? (i := 9) rfl)
theorem dX7_pack_19 : decode cX7_pack 19 = .ok (.invokevirtual 168, 3) := fchk_d fw_dX7_pack_0_c (19, .invokevirtual 168, 3) (List.mem_of_getElem? (i := 10) rfl)
theorem dX7_pack_22 : decode cX7_pack 22 = .ok (.aload_n 0, 1) := fchk_d fw_dX7_pack_0_c (22, .aload_n 0, 1) (List.mem_of_getElem? (i := 11) rfl)
theorem dX7_pack_23 : decode cX7_pack 23 = .ok (.getfield 28, 3) := fchk_d fw_dX7_pack_0_c (23, .getfield 28, 3) (List.mem_of_getElem? (i := 12) rfl)
theorem dX7_pack_26 : decode cX7_pack 26 = .ok (.getfield 171, 3) := fchk_d fw_dX7_pack_0_c (26, .getfield 171, 3) (List.mem_of_getElem? (i := 13) rfl)
theorem dX7_pack_29 : decode cX7_pack 29 = .ok (.iload_n 1, 1) := fchk_d fw_dX7_pack_0_c (29, .iload_n 1, 1) (List.mem_of_getElem? (i := 14) rfl)
theorem dX7_pack_30 : decode cX7_pack 30 = .ok (.iaload, 1) := fchk_d fw_dX7_pack_0_c (30, .iaload, 1) (List.mem_of_getElem? (i := 15) rfl)
theorem dX7_pack_31 : decode cX7_pack 31 = .ok (.ireturn, 1) := fchk_d fw_dX7_pack_0_c (31, .ireturn, 1) (List.mem_of_getElem? (i := 16) rfl)
set_option maxRecDepth 20000 in
theorem ggX7_word_X7_hasAct : GoodIn wsX7_word wsX7_hasAct := goodIn_r _ [8, 9, 10, 11, 12, 7, 13, 22, 23, 24, 25, 26, 27, 28, 29, 30, 31, 32, 33, 34, 35, 36, 37, 45, 46, 47, 48, 49, 50, 51] rfl (by decide +kernel)
set_option maxRecDepth 20000 in
theorem gX7_word_X7_hasAct : GoodIn wsX7_word (wsV RX7 129 RX7 yX7_hasAct wsX7_hasAct) := goodIn_app (goodIn_of _ (by decide +kernel)) ggX7_word_X7_hasAct
set_option maxRecDepth 20000 in
theorem ggX7_word_X7_refuse : GoodIn wsX7_word wsX7_refuse := goodIn_r _ [17, 18, 22, 23, 24, 25, 26, 27, 28, 29, 30, 31, 32, 33, 34, 35, 36, 37] rfl (by decide +kernel)
set_option maxRecDepth 20000 in
theorem gX7_word_X7_refuse : GoodIn wsX7_word (wsV RX7 91 RX7 yX7_refuse wsX7_refuse) := goodIn_app (goodIn_of _ (by decide +kernel)) ggX7_word_X7_refuse
set_option maxRecDepth 20000 in
theorem ggX7_word_X7_slot : GoodIn wsX7_word wsX7_slot := goodIn_r _ [21] rfl (by decide +kernel)
set_option maxRecDepth 20000 in
theorem gX7_word_X7_slot : GoodIn wsX7_word (va_wsS RX7 133 yX7_slot wsX7_slot) := goodIn_app (goodIn_of _ (by decide +kernel)) ggX7_word_X7_slot
def fw_dX7_word_0 : List (Nat × Instr × Nat) := [(0, .aload_n 0, 1), (1, .iload_n 1, 1), (2, .iload_n 2, 1), (3, .invokevirtual 129, 3), (6, .ifCond .ne 10, 3), (9, .aload_n 0, 1), (10, .bipush (-3), 2), (12, .invokevirtual 91, 3), (15, .ireturn, 1), (16, .aload_n 0, 1), (17, .getfield 28, 3), (20, .getfield 172, 3), (23, .iload_n 1, 1), (24, .baload, 1), (25, .ifCond .ne 10, 3), (28, .aload_n 0, 1), (29, .bipush (-2), 2), (31, .invokevirtual 91, 3), (34, .ireturn, 1), (35, .aload_n 0, 1), (36, .getfield 28, 3), (39, .getfield 175, 3), (42, .iload_n 1, 1), (43, .iload_n 2, 1), (44, .invokestatic 133, 3), (47, .iaload, 1), (48, .ireturn, 1)]
theorem fw_dX7_word_0_c : fchk 0 (cX7_word.data.toList.drop 0) fw_dX7_word_0 = true := by decide +kernel
theorem dX7_word_0 : decode cX7_word 0 = .ok (.aload_n 0, 1) := fchk_d fw_dX7_word_0_c (0, .aload_n 0, 1) (List.mem_of_getElem? (i := 0) rfl)
theorem dX7_word_1 : decode cX7_word 1 = .ok (.iload_n 1, 1) := fchk_d fw_dX7_word_0_c (1, .iload_n 1, 1) (List.mem_of_getElem? (i := 1) rfl)
theorem dX7_word_2 : decode cX7_word 2 = .ok (.iload_n 2, 1) := fchk_d fw_dX7_word_0_c (2, .iload_n 2, 1) (List.mem_of_getElem? (i := 2) rfl)
theorem dX7_word_3 : decode cX7_word 3 = .ok (.invokevirtual 129, 3) := fchk_d fw_dX7_word_0_c (3, .invokevirtual 129, 3) (List.mem_of_getElem? (i := 3) rfl)
theorem dX7_word_6 : decode cX7_word 6 = .ok (.ifCond .ne 10, 3) := fchk_d fw_dX7_word_0_c (6, .ifCond .ne 10, 3) (List.mem_of_getElem? (i := 4) rfl)
theorem dX7_word_9 : decode cX7_word 9 = .ok (.aload_n 0, 1) := fchk_d fw_dX7_word_0_c (9, .aload_n 0, 1) (List.mem_of_getElem? (i := 5) rfl)
theorem dX7_word_10 : decode cX7_word 10 = .ok (.bipush (-3), 2) := fchk_d fw_dX7_word_0_c (10, .bipush (-3), 2) (List.mem_of_getElem? (i := 6) rfl)
theorem dX7_word_12 : decode cX7_word 12 = .ok (.invokevirtual 91, 3) := fchk_d fw_dX7_word_0_c (12, .invokevirtual 91, 3) (List.mem_of_getElem? (i := 7) rfl)
theorem dX7_word_15 : decode cX7_word 15 = .ok (.ireturn, 1) := fchk_d fw_dX7_word_0_c (15, .ireturn, 1) (List.mem_of_getElem? (i := 8) rfl)
theorem dX7_word_16 : decode cX7_word 16 = .ok (.aload_n 0, 1) := fchk_d fw_dX7_word_0_c (16, .aload_n 0, 1) (List.mem_of_getElem? (i := 9) rfl)
theorem dX7_word_17 : decode cX7_word 17 = .ok (.getfield 28, 3) := fchk_d fw_dX7_word_0_c (17, .getfield 28, 3) (List.mem_of_getElem? (i := 10) rfl)
theorem dX7_word_20 : decode cX7_word 20 = .ok (.getfield 172, 3) := fchk_d fw_dX7_word_0_c (20, .getfield 172, 3) (List.mem_of_getElem? (i := 11) rfl)
theorem dX7_word_23 : decode cX7_word 23 = .ok (.iload_n 1, 1) := fchk_d fw_dX7_word_0_c (23, .iload_n 1, 1) (List.mem_of_getElem? (i := 12) rfl)
theorem dX7_word_24 : decode cX7_word 24 = .ok (.baload, 1) := fchk_d fw_dX7_word_0_c (24, .baload, 1) (List.mem_of_getElem? (i := 13) rfl)
theorem dX7_word_25 : decode cX7_word 25 = .ok (.ifCond .ne 10, 3) := fchk_d fw_dX7_word_0_c (25, .ifCond .ne 10, 3) (List.mem_of_getElem? (i := 14) rfl)
theorem dX7_word_28 : decode cX7_word 28 = .ok (.aload_n 0, 1) := fchk_d fw_dX7_word_0_c (28, .aload_n 0, 1) (List.mem_of_getElem? (i := 15) rfl)
theorem dX7_word_29 : decode cX7_word 29 = .ok (.bipush (-2), 2) := fchk_d fw_dX7_word_0_c (29, .bipush (-2), 2) (List.mem_of_getElem? (i := 16) rfl)
theorem dX7_word_31 : decode cX7_word 31 = .ok (.invokevirtual 91, 3) := fchk_d fw_dX7_word_0_c (31, .invokevirtual 91, 3) (List.mem_of_getElem? (i := 17) rfl)
theorem dX7_word_34 : decode cX7_word 34 = .ok (.ireturn, 1) := fchk_d fw_dX7_word_0_c (34, .ireturn, 1) (List.mem_of_getElem? (i := 18) rfl)
theorem dX7_word_35 : decode cX7_word 35 = .ok (.aload_n 0, 1) := fchk_d fw_dX7_word_0_c (35, .aload_n 0, 1) (List.mem_of_getElem? (i := 19) rfl)
theorem dX7_word_36 : decode cX7_word 36 = .ok (.getfield 28, 3) := fchk_d fw_dX7_word_0_c (36, .getfield 28, 3) (List.mem_of_getElem? (i := 20) rfl)
theorem dX7_word_39 : decode cX7_word 39 = .ok (.getfield 175, 3) := fchk_d fw_dX7_word_0_c (39, .getfield 175, 3) (List.mem_of_getElem? (i := 21) rfl)
theorem dX7_word_42 : decode cX7_word 42 = .ok (.iload_n 1, 1) := fchk_d fw_dX7_word_0_c (42, .iload_n 1, 1) (List.mem_of_getElem? (i := 22) rfl)
theorem dX7_word_43 : decode cX7_word 43 = .ok (.iload_n 2, 1) := fchk_d fw_dX7_word_0_c (43, .iload_n 2, 1) (List.mem_of_getElem? (i := 23) rfl)
theorem dX7_word_44 : decode cX7_word 44 = .ok (.invokestatic 133, 3) := fchk_d fw_dX7_word_0_c (44, .invokestatic 133, 3) (List.mem_of_getElem? (i := 24) rfl)
theorem dX7_word_47 : decode cX7_word 47 = .ok (.iaload, 1) := fchk_d fw_dX7_word_0_c (47, .iaload, 1) (List.mem_of_getElem? (i := 25) rfl)
theorem dX7_word_48 : decode cX7_word 48 = .ok (.ireturn, 1) := fchk_d fw_dX7_word_0_c (48, .ireturn, 1) (List.mem_of_getElem? (i := 26) rfl)
set_option maxRecDepth 20000 in
theorem ggX7_why_X7_hasAct : GoodIn wsX7_why wsX7_hasAct := goodIn_r _ [7, 8, 9, 10, 11, 6, 12, 39, 40, 41, 42, 43, 44, 45, 46, 47, 48, 49, 50, 51, 52, 53, 54, 62, 63, 64, 65, 66, 67, 68] rfl (by decide +kernel)
set_option maxRecDepth 20000 in
theorem gX7_why_X7_hasAct : GoodIn wsX7_why (wsV RX7 129 RX7 yX7_hasAct wsX7_hasAct) := goodIn_app (goodIn_of _ (by decide +kernel)) ggX7_why_X7_hasAct
set_option maxRecDepth 20000 in
theorem ggX7_why_X7_refuse : GoodIn wsX7_why wsX7_refuse := goodIn_r _ [16, 17, 39, 40, 41, 42, 43, 44, 45, 46, 47, 48, 49, 50, 51, 52, 53, 54] rfl (by decide +kernel)
set_option maxRecDepth 20000 in
theorem gX7_why_X7_refuse : GoodIn wsX7_why (wsV RX7 91 RX7 yX7_refuse wsX7_refuse) := goodIn_app (goodIn_of _ (by decide +kernel)) ggX7_why_X7_refuse
set_option maxRecDepth 20000 in
theorem ggX7_why_X3_holderOf : GoodIn wsX7_why wsX3_holderOf := goodIn_r _ [22, 23, 24, 25, 6, 26, 27, 28, 29, 30, 31, 32, 33, 34, 35, 36, 37, 38, 55, 56, 57, 58, 59, 60, 61, 62, 63, 64, 65, 66, 67, 68] rfl (by decide +kernel)
set_option maxRecDepth 20000 in
theorem gX7_why_X3_holderOf : GoodIn wsX7_why (wsV RX7 178 RX3 yX3_holderOf wsX3_holderOf) := goodIn_app (goodIn_of _ (by decide +kernel)) ggX7_why_X3_holderOf
def fw_dX7_why_0 : List (Nat × Instr × Nat) := [(0, .aload_n 0, 1), (1, .iload_n 1, 1), (2, .iload_n 2, 1), (3, .invokevirtual 129, 3), (6, .ifCond .ne 10, 3), (9, .aload_n 0, 1), (10, .bipush (-3), 2), (12, .invokevirtual 91, 3), (15, .ireturn, 1), (16, .aload_n 0, 1), (17, .getfield 28, 3), (20, .getfield 172, 3), (23, .iload_n 1, 1), (24, .baload, 1), (25, .ifCond .ne 10, 3), (28, .aload_n 0, 1), (29, .bipush (-2), 2), (31, .invokevirtual 91, 3), (34, .ireturn, 1), (35, .aload_n 0, 1), (36, .getfield 28, 3), (39, .iload_n 1, 1), (40, .iload_n 2, 1), (41, .invokevirtual 178, 3), (44, .ireturn, 1)]
theorem fw_dX7_why_0_c : fchk 0 (cX7_why.data.toList.drop 0) fw_dX7_why_0 = true := by decide +kernel
theorem dX7_why_0 : decode cX7_why 0 = .ok (.aload_n 0, 1) := fchk_d fw_dX7_why_0_c (0, .aload_n 0, 1) (List.mem_of_getElem? (i := 0) rfl)
theorem dX7_why_1 : decode cX7_why 1 = .ok (.iload_n 1, 1) := fchk_d fw_dX7_why_0_c (1, .iload_n 1, 1) (List.mem_of_getElem? (i := 1) rfl)
theorem dX7_why_2 : decode cX7_why 2 = .ok (.iload_n 2, 1) := fchk_d fw_dX7_why_0_c (2, .iload_n 2, 1) (List.mem_of_getElem? (i := 2) rfl)
theorem dX7_why_3 : decode cX7_why 3 = .ok (.invokevirtual 129, 3) := fchk_d fw_dX7_why_0_c (3, .invokevirtual 129, 3) (List.mem_of_getElem? (i := 3) rfl)
theorem dX7_why_6 : decode cX7_why 6 = .ok (.ifCond .ne 10, 3) := fchk_d fw_dX7_why_0_c (6, .ifCond .ne 10, 3) (List.mem_of_getElem? (i := 4) rfl)
theorem dX7_why_9 : decode cX7_why 9 = .ok (.aload_n 0, 1) := fchk_d fw_dX7_why_0_c (9, .aload_n 0, 1) (List.mem_of_getElem? (i := 5) rfl)
theorem dX7_why_10 : decode cX7_why 10 = .ok (.bipush (-3), 2) := fchk_d fw_dX7_why_0_c (10, .bipush (-3), 2) (List.mem_of_getElem? (i := 6) rfl)
theorem dX7_why_12 : decode cX7_why 12 = .ok (.invokevirtual 91, 3) := fchk_d fw_dX7_why_0_c (12, .invokevirtual 91, 3) (List.mem_of_getElem? (i := 7) rfl)
theorem dX7_why_15 : decode cX7_why 15 = .ok (.ireturn, 1) := fchk_d fw_dX7_why_0_c (15, .ireturn, 1) (List.mem_of_getElem? (i := 8) rfl)
theorem dX7_why_16 : decode cX7_why 16 = .ok (.aload_n 0, 1) := fchk_d fw_dX7_why_0_c (16, .aload_n 0, 1) (List.mem_of_getElem? (i := 9) rfl)
theorem dX7_why_17 : decode cX7_why 17 = .ok (.getfield 28, 3) := fchk_d fw_dX7_why_0_c (17, .getfield 28, 3) (List.mem_of_getElem? (i := 10) rfl)
theorem dX7_why_20 : decode cX7_why 20 = .ok (.getfield 172, 3) := fchk_d fw_dX7_why_0_c (20, .getfield 172, 3) (List.mem_of_getElem? (i := 11) rfl)
theorem dX7_why_23 : decode cX7_why 23 = .ok (.iload_n 1, 1) := fchk_d fw_dX7_why_0_c (23, .iload_n 1, 1) (List.mem_of_getElem? (i := 12) rfl)
theorem dX7_why_24 : decode cX7_why 24 = .ok (.baload, 1) := fchk_d fw_dX7_why_0_c (24, .baload, 1) (List.mem_of_getElem? (i := 13) rfl)
theorem dX7_why_25 : decode cX7_why 25 = .ok (.ifCond .ne 10, 3) := fchk_d fw_dX7_why_0_c (25, .ifCond .ne 10, 3) (List.mem_of_getElem? (i := 14) rfl)
theorem dX7_why_28 : decode cX7_why 28 = .ok (.aload_n 0, 1) := fchk_d fw_dX7_why_0_c (28, .aload_n 0, 1) (List.mem_of_getElem? (i := 15) rfl)
theorem dX7_why_29 : decode cX7_why 29 = .ok (.bipush (-2), 2) := fchk_d fw_dX7_why_0_c (29, .bipush (-2), 2) (List.mem_of_getElem? (i := 16) rfl)
theorem dX7_why_31 : decode cX7_why 31 = .ok (.invokevirtual 91, 3) := fchk_d fw_dX7_why_0_c (31, .invokevirtual 91, 3) (List.mem_of_getElem? (i := 17) rfl)
theorem dX7_why_34 : decode cX7_why 34 = .ok (.ireturn, 1) := fchk_d fw_dX7_why_0_c (34, .ireturn, 1) (List.mem_of_getElem? (i := 18) rfl)
theorem dX7_why_35 : decode cX7_why 35 = .ok (.aload_n 0, 1) := fchk_d fw_dX7_why_0_c (35, .aload_n 0, 1) (List.mem_of_getElem? (i := 19) rfl)
theorem dX7_why_36 : decode cX7_why 36 = .ok (.getfield 28, 3) := fchk_d fw_dX7_why_0_c (36, .getfield 28, 3) (List.mem_of_getElem? (i := 20) rfl)
theorem dX7_why_39 : decode cX7_why 39 = .ok (.iload_n 1, 1) := fchk_d fw_dX7_why_0_c (39, .iload_n 1, 1) (List.mem_of_getElem? (i := 21) rfl)
theorem dX7_why_40 : decode cX7_why 40 = .ok (.iload_n 2, 1) := fchk_d fw_dX7_why_0_c (40, .iload_n 2, 1) (List.mem_of_getElem? (i := 22) rfl)
theorem dX7_why_41 : decode cX7_why 41 = .ok (.invokevirtual 178, 3) := fchk_d fw_dX7_why_0_c (41, .invokevirtual 178, 3) (List.mem_of_getElem? (i := 23) rfl)
theorem dX7_why_44 : decode cX7_why 44 = .ok (.ireturn, 1) := fchk_d fw_dX7_why_0_c (44, .ireturn, 1) (List.mem_of_getElem? (i := 24) rfl)
set_option maxRecDepth 20000 in
theorem ggX7_store_X3_make : GoodIn wsX7_store wsX3_make := goodIn_r _ [10, 11, 12, 13, 14, 15, 16, 17, 18, 19, 20, 21, 22, 23, 24, 25, 26, 27, 28, 29, 30, 31, 32, 33, 34, 35, 36, 37, 38, 39, 40, 41, 42, 43, 44, 45, 46, 47, 48, 49, 50, 51, 52, 53, 54, 55, 56, 57, 58, 59, 60, 61, 62, 63, 64, 65, 66, 67, 68, 69, 70, 71, 72, 73, 74, 75, 76, 77, 78, 79, 80, 81, 82, 83, 84, 85, 86, 87, 88, 89, 90, 91, 92, 93, 94, 95, 96, 204, 205, 206, 207, 208, 209, 210, 211, 212, 213, 214, 215, 216, 217, 218, 219, 220, 221, 222, 223, 224, 225, 226, 227] rfl (by decide +kernel)
set_option maxRecDepth 20000 in
theorem gX7_store_X3_make : GoodIn wsX7_store (wsV RX7 168 RX3 yX3_make wsX3_make) := goodIn_app (goodIn_of _ (by decide +kernel)) ggX7_store_X3_make
set_option maxRecDepth 20000 in
theorem ggX7_store_X4_make : GoodIn wsX7_store wsX4_make := goodIn_r _ [101, 102, 103, 104, 105, 106, 107, 108, 38, 39, 40, 109, 110, 111, 100, 112, 113, 114, 115, 116, 117, 118, 119, 120, 121, 77, 78, 79, 80, 81, 82, 83, 84, 122, 123, 124, 125, 126, 127, 44, 128, 46, 129, 130, 131, 195, 196, 197, 198, 199, 200, 201, 202, 203, 204, 205, 206, 207, 208, 209, 210, 221, 222, 223, 224, 225, 226, 227] rfl (by decide +kernel)
set_option maxRecDepth 20000 in
theorem gX7_store_X4_make : GoodIn wsX7_store (wsV RX7 181 RX4 yX4_make wsX4_make) := goodIn_app (goodIn_of _ (by decide +kernel)) ggX7_store_X4_make
set_option maxRecDepth 20000 in
theorem ggX7_store_X1_make : GoodIn wsX7_store wsX1_make := goodIn_r _ [136, 137, 138, 139, 140, 141, 142, 143, 144, 145, 146, 147, 35, 36, 37, 148, 149, 150, 135, 151, 152, 83, 39, 84, 38, 40, 153, 42, 43, 44, 45, 46, 154, 155, 156, 157, 158, 159, 160, 126, 127, 128, 129, 130, 131, 161, 162, 163, 164, 165, 166, 167, 168, 169, 170, 171, 55, 56, 57, 172, 173, 174, 175, 176, 177, 178, 228, 229, 230, 231, 232, 233, 234, 235, 236, 237, 238, 239, 195, 196, 197, 198, 199, 200, 201, 202, 203, 221, 222, 223, 224, 225, 226, 227] rfl (by decide +kernel)
set_option maxRecDepth 20000 in
theorem gX7_store_X1_make : GoodIn wsX7_store (wsV RX7 183 RX1 yX1_make wsX1_make) := goodIn_app (goodIn_of _ (by decide +kernel)) ggX7_store_X1_make
def fw_dX7_store_0 : List (Nat × Instr × Nat) := [(0, .aload_n 0, 1), (1, .getfield 37, 3), (4, .getfield 161, 3), (7, .ifCond .ne 39, 3), (10, .iconst 0, 1), (11, .istore_n 1, 1), (12, .iload_n 1, 1), (13, .bipush 12, 2), (15, .if_icmp .ge 17, 3), (18, .aload_n 0, 1), (19, .getfield 28, 3), (22, .iload_n 1, 1), (23, .invokevirtual 168, 3)]
theorem fw_dX7_store_0_c : fchk 0 (cX7_store.data.toList.drop 0) fw_dX7_store_0 = true := by decide +kernel
theorem dX7_store_0 : decode cX7_store 0 = .ok (.aload_n 0, 1) := fchk_d fw_dX7_store_0_c (0, .aload_n 0, 1) (List.mem_of_getElem? (i := 0) rfl)
theorem dX7_store_1 : decode cX7_store 1 = .ok (.getfield 37, 3) := fchk_d fw_dX7_store_0_c (1, .getfield 37, 3) (List.mem_of_getElem? (i := 1) rfl)
theorem dX7_store_4 : decode cX7_store 4 = .ok (.getfield 161, 3) := fchk_d fw_dX7_store_0_c (4, .getfield 161, 3) (List.mem_of_getElem? (i := 2) rfl)
theorem dX7_store_7 : decode cX7_store 7 = .ok (.ifCond .ne 39, 3) := fchk_d fw_dX7_store_0_c (7, .ifCond .ne 39, 3) (List.mem_of_getElem? (i := 3) rfl)
theorem dX7_store_10 : decode cX7_store 10 = .ok (.iconst 0, 1) := fchk_d fw_dX7_store_0_c (10, .iconst 0, 1) (List.mem_of_getElem? (i := 4) rfl)
theorem dX7_store_11 : decode cX7_store 11 = .ok (.istore_n 1, 1) := fchk_d fw_dX7_store_0_c (11, .istore_n 1, 1) (List.mem_of_getElem? (i := 5) rfl)
theorem dX7_store_12 : decode cX7_store 12 = .ok (.iload_n 1, 1) := fchk_d fw_dX7_store_0_c (12, .iload_n 1, 1) (List.mem_of_getElem? (i := 6) rfl)
theorem dX7_store_13 : decode cX7_store 13 = .ok (.bipush 12, 2) := fchk_d fw_dX7_store_0_c (13, .bipush 12, 2) (List.mem_of_getElem? (i := 7) rfl)
theorem dX7_store_15 : decode cX7_store 15 = .ok (.if_icmp .ge 17, 3) := fchk_d fw_dX7_store_0_c (15, .if_icmp .ge 17, 3) (List.mem_of_getElem? (i := 8) rfl)
theorem dX7_store_18 : decode cX7_store 18 = .ok (.aload_n 0, 1) := fchk_d fw_dX7_store_0_c (18, .aload_n 0, 1) (List.mem_of_getElem? (i := 9) rfl)
theorem dX7_store_19 : decode cX7_store 19 = .ok (.getfield 28, 3) := fchk_d fw_dX7_store_0_c (19, .getfield 28, 3) (List.mem_of_getElem? (i := 10) rfl)
theorem dX7_store_22 : decode cX7_store 22 = .ok (.iload_n 1, 1) := fchk_d fw_dX7_store_0_c (22, .iload_n 1, 1) (List.mem_of_getElem? (i := 11) rfl)
theorem dX7_store_23 : decode cX7_store 23 = .ok (.invokevirtual 168, 3) := fchk_d fw_dX7_store_0_c (23, .invokevirtual 168, 3) (List.mem_of_getElem? (i := 12) rfl)
theorem dX7_store_26 : decode cX7_store 26 = .ok (.iinc 1 1, 3) := by decide +kernel
def fw_dX7_store_29 : List (Nat × Instr × Nat) := [(29, .goto (-17), 3), (32, .aload_n 0, 1), (33, .getfield 37, 3), (36, .invokevirtual 181, 3), (39, .aload_n 0, 1), (40, .getfield 46, 3), (43, .invokevirtual 183, 3), (46, .aload_n 0, 1), (47, .getfield 37, 3), (50, .getfield 184, 3), (53, .ireturn, 1)]
theorem fw_dX7_store_29_c : fchk 29 (cX7_store.data.toList.drop 29) fw_dX7_store_29 = true := by decide +kernel
theorem dX7_store_29 : decode cX7_store 29 = .ok (.goto (-17), 3) := fchk_d fw_dX7_store_29_c (29, .goto (-17), 3) (List.mem_of_getElem? (i := 0) rfl)
theorem dX7_store_32 : decode cX7_store 32 = .ok (.aload_n 0, 1) := fchk_d fw_dX7_store_29_c (32, .aload_n 0, 1) (List.mem_of_getElem? (i := 1) rfl)
theorem dX7_store_33 : decode cX7_store 33 = .ok (.getfield 37, 3) := fchk_d fw_dX7_store_29_c (33, .getfield 37, 3) (List.mem_of_getElem? (i := 2) rfl)
theorem dX7_store_36 : decode cX7_store 36 = .ok (.invokevirtual 181, 3) := fchk_d fw_dX7_store_29_c (36, .invokevirtual 181, 3) (List.mem_of_getElem? (i := 3) rfl)
theorem dX7_store_39 : decode cX7_store 39 = .ok (.aload_n 0, 1) := fchk_d fw_dX7_store_29_c (39, .aload_n 0, 1) (List.mem_of_getElem? (i := 4) rfl)
theorem dX7_store_40 : decode cX7_store 40 = .ok (.getfield 46, 3) := fchk_d fw_dX7_store_29_c (40, .getfield 46, 3) (List.mem_of_getElem? (i := 5) rfl)
theorem dX7_store_43 : decode cX7_store 43 = .ok (.invokevirtual 183, 3) := fchk_d fw_dX7_store_29_c (43, .invokevirtual 183, 3) (List.mem_of_getElem? (i := 6) rfl)
theorem dX7_store_46 : decode cX7_store 46 = .ok (.aload_n 0, 1) := fchk_d fw_dX7_store_29_c (46, .aload_n 0, 1) (List.mem_of_getElem? (i := 7) rfl)
theorem dX7_store_47 : decode cX7_store 47 = .ok (.getfield 37, 3) := fchk_d fw_dX7_store_29_c (47, .getfield 37, 3) (List.mem_of_getElem? (i := 8) rfl)
theorem dX7_store_50 : decode cX7_store 50 = .ok (.getfield 184, 3) := fchk_d fw_dX7_store_29_c (50, .getfield 184, 3) (List.mem_of_getElem? (i := 9) rfl)
theorem dX7_store_53 : decode cX7_store 53 = .ok (.ireturn, 1) := fchk_d fw_dX7_store_29_c (53, .ireturn, 1) (List.mem_of_getElem? (i := 10) rfl)
set_option maxRecDepth 20000 in
theorem ggX7_place_X7_isInstruction : GoodIn wsX7_place wsX7_isInstruction := goodIn_r _ [9] rfl (by decide +kernel)
set_option maxRecDepth 20000 in
theorem gX7_place_X7_isInstruction : GoodIn wsX7_place (va_wsS RX7 111 yX7_isInstruction wsX7_isInstruction) := goodIn_app (goodIn_of _ (by decide +kernel)) ggX7_place_X7_isInstruction
set_option maxRecDepth 20000 in
theorem ggX7_place_X7_refuse : GoodIn wsX7_place wsX7_refuse := goodIn_r _ [13, 14, 18, 19, 20, 21, 22, 23, 24, 25, 26, 27, 28, 29, 30, 31, 32, 33] rfl (by decide +kernel)
set_option maxRecDepth 20000 in
theorem gX7_place_X7_refuse : GoodIn wsX7_place (wsV RX7 91 RX7 yX7_refuse wsX7_refuse) := goodIn_app (goodIn_of _ (by decide +kernel)) ggX7_place_X7_refuse
set_option maxRecDepth 20000 in
theorem ggX7_place_X7_slot : GoodIn wsX7_place wsX7_slot := goodIn_r _ [17] rfl (by decide +kernel)
set_option maxRecDepth 20000 in
theorem gX7_place_X7_slot : GoodIn wsX7_place (va_wsS RX7 133 yX7_slot wsX7_slot) := goodIn_app (goodIn_of _ (by decide +kernel)) ggX7_place_X7_slot
def fw_dX7_place_0 : List (Nat × Instr × Nat) := [(0, .iload_n 1, 1), (1, .invokestatic 111, 3), (4, .ifCond .ne 10, 3), (7, .aload_n 0, 1), (8, .bipush (-3), 2), (10, .invokevirtual 91, 3), (13, .ireturn, 1), (14, .aload_n 0, 1), (15, .getfield 37, 3), (18, .getfield 161, 3), (21, .ifCond .ne 10, 3), (24, .aload_n 0, 1), (25, .bipush (-2), 2), (27, .invokevirtual 91, 3), (30, .ireturn, 1), (31, .iload_n 2, 1), (32, .ifCond .lt 16, 3), (35, .iload_n 2, 1), (36, .aload_n 0, 1), (37, .getfield 28, 3), (40, .getfield 171, 3), (43, .iload_n 1, 1), (44, .iaload, 1), (45, .if_icmp .lt 10, 3), (48, .aload_n 0, 1), (49, .bipush (-3), 2), (51, .invokevirtual 91, 3), (54, .ireturn, 1), (55, .aload_n 0, 1), (56, .getfield 37, 3), (59, .getfield 187, 3), (62, .iload_n 1, 1), (63, .iload_n 2, 1), (64, .invokestatic 133, 3), (67, .iaload, 1), (68, .ireturn, 1)]
theorem fw_dX7_place_0_c : fchk 0 (cX7_place.data.toList.drop 0) fw_dX7_place_0 = true := by decide +kernel
theorem dX7_place_0 : decode cX7_place 0 = .ok (.iload_n 1, 1) := fchk_d fw_dX7_place_0_c (0, .iload_n 1, 1) (List.mem_of_getElem? (i := 0) rfl)
theorem dX7_place_1 : decode cX7_place 1 = .ok (.invokestatic 111, 3) := fchk_d fw_dX7_place_0_c (1, .invokestatic 111, 3) (List.mem_of_getElem? (i := 1) rfl)
theorem dX7_place_4 : decode cX7_place 4 = .ok (.ifCond .ne 10, 3) := fchk_d fw_dX7_place_0_c (4, .ifCond .ne 10, 3) (List.mem_of_getElem? (i := 2) rfl)
theorem dX7_place_7 : decode cX7_place 7 = .ok (.aload_n 0, 1) := fchk_d fw_dX7_place_0_c (7, .aload_n 0, 1) (List.mem_of_getElem? (i := 3) rfl)
theorem dX7_place_8 : decode cX7_place 8 = .ok (.bipush (-3), 2) := fchk_d fw_dX7_place_0_c (8, .bipush (-3), 2) (List.mem_of_getElem? (i := 4) rfl)
theorem dX7_place_10 : decode cX7_place 10 = .ok (.invokevirtual 91, 3) := fchk_d fw_dX7_place_0_c (10, .invokevirtual 91, 3) (List.mem_of_getElem? (i := 5) rfl)
theorem dX7_place_13 : decode cX7_place 13 = .ok (.ireturn, 1) := fchk_d fw_dX7_place_0_c (13, .ireturn, 1) (List.mem_of_getElem? (i := 6) rfl)
theorem dX7_place_14 : decode cX7_place 14 = .ok (.aload_n 0, 1) := fchk_d fw_dX7_place_0_c (14, .aload_n 0, 1) (List.mem_of_getElem? (i := 7) rfl)
theorem dX7_place_15 : decode cX7_place 15 = .ok (.getfield 37, 3) := fchk_d fw_dX7_place_0_c (15, .getfield 37, 3) (List.mem_of_getElem? (i := 8) rfl)
theorem dX7_place_18 : decode cX7_place 18 = .ok (.getfield 161, 3) := fchk_d fw_dX7_place_0_c (18, .getfield 161, 3) (List.mem_of_getElem? (i := 9) rfl)
theorem dX7_place_21 : decode cX7_place 21 = .ok (.ifCond .ne 10, 3) := fchk_d fw_dX7_place_0_c (21, .ifCond .ne 10, 3) (List.mem_of_getElem? (i := 10) rfl)
theorem dX7_place_24 : decode cX7_place 24 = .ok (.aload_n 0, 1) := fchk_d fw_dX7_place_0_c (24, .aload_n 0, 1) (List.mem_of_getElem? (i := 11) rfl)
theorem dX7_place_25 : decode cX7_place 25 = .ok (.bipush (-2), 2) := fchk_d fw_dX7_place_0_c (25, .bipush (-2), 2) (List.mem_of_getElem? (i := 12) rfl)
theorem dX7_place_27 : decode cX7_place 27 = .ok (.invokevirtual 91, 3) := fchk_d fw_dX7_place_0_c (27, .invokevirtual 91, 3) (List.mem_of_getElem? (i := 13) rfl)
theorem dX7_place_30 : decode cX7_place 30 = .ok (.ireturn, 1) := fchk_d fw_dX7_place_0_c (30, .ireturn, 1) (List.mem_of_getElem? (i := 14) rfl)
theorem dX7_place_31 : decode cX7_place 31 = .ok (.iload_n 2, 1) := fchk_d fw_dX7_place_0_c (31, .iload_n 2, 1) (List.mem_of_getElem? (i := 15) rfl)
theorem dX7_place_32 : decode cX7_place 32 = .ok (.ifCond .lt 16, 3) := fchk_d fw_dX7_place_0_c (32, .ifCond .lt 16, 3) (List.mem_of_getElem? (i := 16) rfl)
theorem dX7_place_35 : decode cX7_place 35 = .ok (.iload_n 2, 1) := fchk_d fw_dX7_place_0_c (35, .iload_n 2, 1) (List.mem_of_getElem? (i := 17) rfl)
theorem dX7_place_36 : decode cX7_place 36 = .ok (.aload_n 0, 1) := fchk_d fw_dX7_place_0_c (36, .aload_n 0, 1) (List.mem_of_getElem? (i := 18) rfl)
theorem dX7_place_37 : decode cX7_place 37 = .ok (.getfield 28, 3) := fchk_d fw_dX7_place_0_c (37, .getfield 28, 3) (List.mem_of_getElem? (i := 19) rfl)
theorem dX7_place_40 : decode cX7_place 40 = .ok (.getfield 171, 3) := fchk_d fw_dX7_place_0_c (40, .getfield 171, 3) (List.mem_of_getElem? (i := 20) rfl)
theorem dX7_place_43 : decode cX7_place 43 = .ok (.iload_n 1, 1) := fchk_d fw_dX7_place_0_c (43, .iload_n 1, 1) (List.mem_of_getElem? (i := 21) rfl)
theorem dX7_place_44 : decode cX7_place 44 = .ok (.iaload, 1) := fchk_d fw_dX7_place_0_c (44, .iaload, 1) (List.mem_of_getElem? (i := 22) rfl)
theorem dX7_place_45 : decode cX7_place 45 = .ok (.if_icmp .lt 10, 3) := fchk_d fw_dX7_place_0_c (45, .if_icmp .lt 10, 3) (List.mem_of_getElem? (i := 23) rfl)
theorem dX7_place_48 : decode cX7_place 48 = .ok (.aload_n 0, 1) := fchk_d fw_dX7_place_0_c (48, .aload_n 0, 1) (List.mem_of_getElem? (i := 24) rfl)
theorem dX7_place_49 : decode cX7_place 49 = .ok (.bipush (-3), 2) := fchk_d fw_dX7_place_0_c (49, .bipush (-3), 2) (List.mem_of_getElem? (i := 25) rfl)
theorem dX7_place_51 : decode cX7_place 51 = .ok (.invokevirtual 91, 3) := fchk_d fw_dX7_place_0_c (51, .invokevirtual 91, 3) (List.mem_of_getElem? (i := 26) rfl)
theorem dX7_place_54 : decode cX7_place 54 = .ok (.ireturn, 1) := fchk_d fw_dX7_place_0_c (54, .ireturn, 1) (List.mem_of_getElem? (i := 27) rfl)
theorem dX7_place_55 : decode cX7_place 55 = .ok (.aload_n 0, 1) := fchk_d fw_dX7_place_0_c (55, .aload_n 0, 1) (List.mem_of_getElem? (i := 28) rfl)
theorem dX7_place_56 : decode cX7_place 56 = .ok (.getfield 37, 3) := fchk_d fw_dX7_place_0_c (56, .getfield 37, 3) (List.mem_of_getElem? (i := 29) rfl)
theorem dX7_place_59 : decode cX7_place 59 = .ok (.getfield 187, 3) := fchk_d fw_dX7_place_0_c (59, .getfield 187, 3) (List.mem_of_getElem? (i := 30) rfl)
theorem dX7_place_62 : decode cX7_place 62 = .ok (.iload_n 1, 1) := fchk_d fw_dX7_place_0_c (62, .iload_n 1, 1) (List.mem_of_getElem? (i := 31) rfl)
theorem dX7_place_63 : decode cX7_place 63 = .ok (.iload_n 2, 1) := fchk_d fw_dX7_place_0_c (63, .iload_n 2, 1) (List.mem_of_getElem? (i := 32) rfl)
theorem dX7_place_64 : decode cX7_place 64 = .ok (.invokestatic 133, 3) := fchk_d fw_dX7_place_0_c (64, .invokestatic 133, 3) (List.mem_of_getElem? (i := 33) rfl)
theorem dX7_place_67 : decode cX7_place 67 = .ok (.iaload, 1) := fchk_d fw_dX7_place_0_c (67, .iaload, 1) (List.mem_of_getElem? (i := 34) rfl)
theorem dX7_place_68 : decode cX7_place 68 = .ok (.ireturn, 1) := fchk_d fw_dX7_place_0_c (68, .ireturn, 1) (List.mem_of_getElem? (i := 35) rfl)
set_option maxRecDepth 20000 in
theorem ggX7_at_X7_refuse : GoodIn wsX7_at wsX7_refuse := goodIn_r _ [11, 12, 20, 21, 22, 23, 24, 25, 26, 27, 28, 29, 30, 31, 32, 33, 34, 35] rfl (by decide +kernel)
set_option maxRecDepth 20000 in
theorem gX7_at_X7_refuse : GoodIn wsX7_at (wsV RX7 91 RX7 yX7_refuse wsX7_refuse) := goodIn_app (goodIn_of _ (by decide +kernel)) ggX7_at_X7_refuse
set_option maxRecDepth 20000 in
theorem ggX7_at_J6_bitCount_0f7a4 : GoodIn wsX7_at wsJ6_bitCount_0f7a4 := goodIn_r _ [16, 17, 18, 19] rfl (by decide +kernel)
set_option maxRecDepth 20000 in
theorem gX7_at_J6_bitCount_0f7a4 : GoodIn wsX7_at (va_wsS RX7 193 yJ6_bitCount_0f7a4 wsJ6_bitCount_0f7a4) := goodIn_app (goodIn_of _ (by decide +kernel)) ggX7_at_J6_bitCount_0f7a4
def fw_dX7_at_0 : List (Nat × Instr × Nat) := [(0, .aload_n 0, 1), (1, .getfield 37, 3), (4, .getfield 161, 3), (7, .ifCond .ne 10, 3), (10, .aload_n 0, 1), (11, .bipush (-2), 2), (13, .invokevirtual 91, 3), (16, .ireturn, 1), (17, .iload_n 1, 1), (18, .ifCond .lt 14, 3), (21, .iload_n 1, 1), (22, .aload_n 0, 1), (23, .getfield 37, 3), (26, .getfield 184, 3), (29, .if_icmp .lt 10, 3), (32, .aload_n 0, 1), (33, .bipush (-3), 2), (35, .invokevirtual 91, 3), (38, .ireturn, 1), (39, .iload_n 2, 1)]
theorem fw_dX7_at_0_c : fchk 0 (cX7_at.data.toList.drop 0) fw_dX7_at_0 = true := by decide +kernel
theorem dX7_at_0 : decode cX7_at 0 = .ok (.aload_n 0, 1) := fchk_d fw_dX7_at_0_c (0, .aload_n 0, 1) (List.mem_of_getElem? (i := 0) rfl)
theorem dX7_at_1 : decode cX7_at 1 = .ok (.getfield 37, 3) := fchk_d fw_dX7_at_0_c (1, .getfield 37, 3) (List.mem_of_getElem? (i := 1) rfl)
theorem dX7_at_4 : decode cX7_at 4 = .ok (.getfield 161, 3) := fchk_d fw_dX7_at_0_c (4, .getfield 161, 3) (List.mem_of_getElem? (i := 2) rfl)
theorem dX7_at_7 : decode cX7_at 7 = .ok (.ifCond .ne 10, 3) := fchk_d fw_dX7_at_0_c (7, .ifCond .ne 10, 3) (List.mem_of_getElem? (i := 3) rfl)
theorem dX7_at_10 : decode cX7_at 10 = .ok (.aload_n 0, 1) := fchk_d fw_dX7_at_0_c (10, .aload_n 0, 1) (List.mem_of_getElem? (i := 4) rfl)
theorem dX7_at_11 : decode cX7_at 11 = .ok (.bipush (-2), 2) := fchk_d fw_dX7_at_0_c (11, .bipush (-2), 2) (List.mem_of_getElem? (i := 5) rfl)
theorem dX7_at_13 : decode cX7_at 13 = .ok (.invokevirtual 91, 3) := fchk_d fw_dX7_at_0_c (13, .invokevirtual 91, 3) (List.mem_of_getElem? (i := 6) rfl)
theorem dX7_at_16 : decode cX7_at 16 = .ok (.ireturn, 1) := fchk_d fw_dX7_at_0_c (16, .ireturn, 1) (List.mem_of_getElem? (i := 7) rfl)
theorem dX7_at_17 : decode cX7_at 17 = .ok (.iload_n 1, 1) := fchk_d fw_dX7_at_0_c (17, .iload_n 1, 1) (List.mem_of_getElem? (i := 8) rfl)
theorem dX7_at_18 : decode cX7_at 18 = .ok (.ifCond .lt 14, 3) := fchk_d fw_dX7_at_0_c (18, .ifCond .lt 14, 3) (List.mem_of_getElem? (i := 9) rfl)
theorem dX7_at_21 : decode cX7_at 21 = .ok (.iload_n 1, 1) := fchk_d fw_dX7_at_0_c (21, .iload_n 1, 1) (List.mem_of_getElem? (i := 10) rfl)
theorem dX7_at_22 : decode cX7_at 22 = .ok (.aload_n 0, 1) := fchk_d fw_dX7_at_0_c (22, .aload_n 0, 1) (List.mem_of_getElem? (i := 11) rfl)
theorem dX7_at_23 : decode cX7_at 23 = .ok (.getfield 37, 3) := fchk_d fw_dX7_at_0_c (23, .getfield 37, 3) (List.mem_of_getElem? (i := 12) rfl)
theorem dX7_at_26 : decode cX7_at 26 = .ok (.getfield 184, 3) := fchk_d fw_dX7_at_0_c (26, .getfield 184, 3) (List.mem_of_getElem? (i := 13) rfl)
theorem dX7_at_29 : decode cX7_at 29 = .ok (.if_icmp .lt 10, 3) := fchk_d fw_dX7_at_0_c (29, .if_icmp .lt 10, 3) (List.mem_of_getElem? (i := 14) rfl)
theorem dX7_at_32 : decode cX7_at 32 = .ok (.aload_n 0, 1) := fchk_d fw_dX7_at_0_c (32, .aload_n 0, 1) (List.mem_of_getElem? (i := 15) rfl)
theorem dX7_at_33 : decode cX7_at 33 = .ok (.bipush (-3), 2) := fchk_d fw_dX7_at_0_c (33, .bipush (-3), 2) (List.mem_of_getElem? (i := 16) rfl)
theorem dX7_at_35 : decode cX7_at 35 = .ok (.invokevirtual 91, 3) := fchk_d fw_dX7_at_0_c (35, .invokevirtual 91, 3) (List.mem_of_getElem? (i := 17) rfl)
theorem dX7_at_38 : decode cX7_at 38 = .ok (.ireturn, 1) := fchk_d fw_dX7_at_0_c (38, .ireturn, 1) (List.mem_of_getElem? (i := 18) rfl)
theorem dX7_at_39 : decode cX7_at 39 = .ok (.iload_n 2, 1) := fchk_d fw_dX7_at_0_c (39, .iload_n 2, 1) (List.mem_of_getElem? (i := 19) rfl)
theorem dX7_at_40 : decode cX7_at 40 = .ok (.tableswitch 61 0 2 #[28, 41, 51], 28) := by decide +kernel
def fw_dX7_at_68 : List (Nat × Instr × Nat) := [(68, .aload_n 0, 1), (69, .getfield 37, 3), (72, .getfield 190, 3), (75, .iload_n 1, 1), (76, .iaload, 1), (77, .invokestatic 193, 3), (80, .ireturn, 1), (81, .aload_n 0, 1), (82, .getfield 37, 3), (85, .getfield 198, 3), (88, .iload_n 1, 1), (89, .iaload, 1), (90, .ireturn, 1), (91, .aload_n 0, 1), (92, .getfield 37, 3), (95, .getfield 201, 3), (98, .iload_n 1, 1), (99, .iaload, 1), (100, .ireturn, 1), (101, .aload_n 0, 1), (102, .bipush (-6), 2), (104, .invokevirtual 91, 3), (107, .ireturn, 1)]
theorem fw_dX7_at_68_c : fchk 68 (cX7_at.data.toList.drop 68) fw_dX7_at_68 = true := by decide +kernel
theorem dX7_at_68 : decode cX7_at 68 = .ok (.aload_n 0, 1) := fchk_d fw_dX7_at_68_c (68, .aload_n 0, 1) (List.mem_of_getElem? (i := 0) rfl)
theorem dX7_at_69 : decode cX7_at 69 = .ok (.getfield 37, 3) := fchk_d fw_dX7_at_68_c (69, .getfield 37, 3) (List.mem_of_getElem? (i := 1) rfl)
theorem dX7_at_72 : decode cX7_at 72 = .ok (.getfield 190, 3) := fchk_d fw_dX7_at_68_c (72, .getfield 190, 3) (List.mem_of_getElem? (i := 2) rfl)
theorem dX7_at_75 : decode cX7_at 75 = .ok (.iload_n 1, 1) := fchk_d fw_dX7_at_68_c (75, .iload_n 1, 1) (List.mem_of_getElem? (i := 3) rfl)
theorem dX7_at_76 : decode cX7_at 76 = .ok (.iaload, 1) := fchk_d fw_dX7_at_68_c (76, .iaload, 1) (List.mem_of_getElem? (i := 4) rfl)
theorem dX7_at_77 : decode cX7_at 77 = .ok (.invokestatic 193, 3) := fchk_d fw_dX7_at_68_c (77, .invokestatic 193, 3) (List.mem_of_getElem? (i := 5) rfl)
theorem dX7_at_80 : decode cX7_at 80 = .ok (.ireturn, 1) := fchk_d fw_dX7_at_68_c (80, .ireturn, 1) (List.mem_of_getElem? (i := 6) rfl)
theorem dX7_at_81 : decode cX7_at 81 = .ok (.aload_n 0, 1) := fchk_d fw_dX7_at_68_c (81, .aload_n 0, 1) (List.mem_of_getElem? (i := 7) rfl)
theorem dX7_at_82 : decode cX7_at 82 = .ok (.getfield 37, 3) := fchk_d fw_dX7_at_68_c (82, .getfield 37, 3) (List.mem_of_getElem? (i := 8) rfl)
theorem dX7_at_85 : decode cX7_at 85 = .ok (.getfield 198, 3) := fchk_d fw_dX7_at_68_c (85, .getfield 198, 3) (List.mem_of_getElem? (i := 9) rfl)
theorem dX7_at_88 : decode cX7_at 88 = .ok (.iload_n 1, 1) := fchk_d fw_dX7_at_68_c (88, .iload_n 1, 1) (List.mem_of_getElem? (i := 10) rfl)
theorem dX7_at_89 : decode cX7_at 89 = .ok (.iaload, 1) := fchk_d fw_dX7_at_68_c (89, .iaload, 1) (List.mem_of_getElem? (i := 11) rfl)
theorem dX7_at_90 : decode cX7_at 90 = .ok (.ireturn, 1) := fchk_d fw_dX7_at_68_c (90, .ireturn, 1) (List.mem_of_getElem? (i := 12) rfl)
theorem dX7_at_91 : decode cX7_at 91 = .ok (.aload_n 0, 1) := fchk_d fw_dX7_at_68_c (91, .aload_n 0, 1) (List.mem_of_getElem? (i := 13) rfl)
theorem dX7_at_92 : decode cX7_at 92 = .ok (.getfield 37, 3) := fchk_d fw_dX7_at_68_c (92, .getfield 37, 3) (List.mem_of_getElem? (i := 14) rfl)
theorem dX7_at_95 : decode cX7_at 95 = .ok (.getfield 201, 3) := fchk_d fw_dX7_at_68_c (95, .getfield 201, 3) (List.mem_of_getElem? (i := 15) rfl)
theorem dX7_at_98 : decode cX7_at 98 = .ok (.iload_n 1, 1) := fchk_d fw_dX7_at_68_c (98, .iload_n 1, 1) (List.mem_of_getElem? (i := 16) rfl)
theorem dX7_at_99 : decode cX7_at 99 = .ok (.iaload, 1) := fchk_d fw_dX7_at_68_c (99, .iaload, 1) (List.mem_of_getElem? (i := 17) rfl)
theorem dX7_at_100 : decode cX7_at 100 = .ok (.ireturn, 1) := fchk_d fw_dX7_at_68_c (100, .ireturn, 1) (List.mem_of_getElem? (i := 18) rfl)
theorem dX7_at_101 : decode cX7_at 101 = .ok (.aload_n 0, 1) := fchk_d fw_dX7_at_68_c (101, .aload_n 0, 1) (List.mem_of_getElem? (i := 19) rfl)
theorem dX7_at_102 : decode cX7_at 102 = .ok (.bipush (-6), 2) := fchk_d fw_dX7_at_68_c (102, .bipush (-6), 2) (List.mem_of_getElem? (i := 20) rfl)
theorem dX7_at_104 : decode cX7_at 104 = .ok (.invokevirtual 91, 3) := fchk_d fw_dX7_at_68_c (104, .invokevirtual 91, 3) (List.mem_of_getElem? (i := 21) rfl)
theorem dX7_at_107 : decode cX7_at 107 = .ok (.ireturn, 1) := fchk_d fw_dX7_at_68_c (107, .ireturn, 1) (List.mem_of_getElem? (i := 22) rfl)
set_option maxRecDepth 20000 in
theorem ggX7_group_X7_refuse : GoodIn wsX7_group wsX7_refuse := goodIn_r _ [9, 10, 11, 12, 13, 14, 15, 16, 17, 18, 19, 20, 21, 22, 23, 24, 25, 26] rfl (by decide +kernel)
set_option maxRecDepth 20000 in
theorem gX7_group_X7_refuse : GoodIn wsX7_group (wsV RX7 91 RX7 yX7_refuse wsX7_refuse) := goodIn_app (goodIn_of _ (by decide +kernel)) ggX7_group_X7_refuse
def fw_dX7_group_0 : List (Nat × Instr × Nat) := [(0, .iload_n 1, 1), (1, .ifCond .lt 9, 3), (4, .iload_n 1, 1), (5, .bipush 7, 2), (7, .if_icmp .lt 10, 3), (10, .aload_n 0, 1), (11, .bipush (-3), 2), (13, .invokevirtual 91, 3), (16, .ireturn, 1), (17, .aload_n 0, 1), (18, .getfield 37, 3), (21, .getfield 161, 3), (24, .ifCond .ne 10, 3), (27, .aload_n 0, 1), (28, .bipush (-2), 2), (30, .invokevirtual 91, 3), (33, .ireturn, 1), (34, .aload_n 0, 1), (35, .getfield 46, 3), (38, .getfield 204, 3), (41, .iload_n 1, 1), (42, .iaload, 1), (43, .ireturn, 1)]
theorem fw_dX7_group_0_c : fchk 0 (cX7_group.data.toList.drop 0) fw_dX7_group_0 = true := by decide +kernel
theorem dX7_group_0 : decode cX7_group 0 = .ok (.iload_n 1, 1) := fchk_d fw_dX7_group_0_c (0, .iload_n 1, 1) (List.mem_of_getElem? (i := 0) rfl)
theorem dX7_group_1 : decode cX7_group 1 = .ok (.ifCond .lt 9, 3) := fchk_d fw_dX7_group_0_c (1, .ifCond .lt 9, 3) (List.mem_of_getElem? (i := 1) rfl)
theorem dX7_group_4 : decode cX7_group 4 = .ok (.iload_n 1, 1) := fchk_d fw_dX7_group_0_c (4, .iload_n 1, 1) (List.mem_of_getElem? (i := 2) rfl)
theorem dX7_group_5 : decode cX7_group 5 = .ok (.bipush 7, 2) := fchk_d fw_dX7_group_0_c (5, .bipush 7, 2) (List.mem_of_getElem? (i := 3) rfl)
theorem dX7_group_7 : decode cX7_group 7 = .ok (.if_icmp .lt 10, 3) := fchk_d fw_dX7_group_0_c (7, .if_icmp .lt 10, 3) (List.mem_of_getElem? (i := 4) rfl)
theorem dX7_group_10 : decode cX7_group 10 = .ok (.aload_n 0, 1) := fchk_d fw_dX7_group_0_c (10, .aload_n 0, 1) (List.mem_of_getElem? (i := 5) rfl)
theorem dX7_group_11 : decode cX7_group 11 = .ok (.bipush (-3), 2) := fchk_d fw_dX7_group_0_c (11, .bipush (-3), 2) (List.mem_of_getElem? (i := 6) rfl)
theorem dX7_group_13 : decode cX7_group 13 = .ok (.invokevirtual 91, 3) := fchk_d fw_dX7_group_0_c (13, .invokevirtual 91, 3) (List.mem_of_getElem? (i := 7) rfl)
theorem dX7_group_16 : decode cX7_group 16 = .ok (.ireturn, 1) := fchk_d fw_dX7_group_0_c (16, .ireturn, 1) (List.mem_of_getElem? (i := 8) rfl)
theorem dX7_group_17 : decode cX7_group 17 = .ok (.aload_n 0, 1) := fchk_d fw_dX7_group_0_c (17, .aload_n 0, 1) (List.mem_of_getElem? (i := 9) rfl)
theorem dX7_group_18 : decode cX7_group 18 = .ok (.getfield 37, 3) := fchk_d fw_dX7_group_0_c (18, .getfield 37, 3) (List.mem_of_getElem? (i := 10) rfl)
theorem dX7_group_21 : decode cX7_group 21 = .ok (.getfield 161, 3) := fchk_d fw_dX7_group_0_c (21, .getfield 161, 3) (List.mem_of_getElem? (i := 11) rfl)
theorem dX7_group_24 : decode cX7_group 24 = .ok (.ifCond .ne 10, 3) := fchk_d fw_dX7_group_0_c (24, .ifCond .ne 10, 3) (List.mem_of_getElem? (i := 12) rfl)
theorem dX7_group_27 : decode cX7_group 27 = .ok (.aload_n 0, 1) := fchk_d fw_dX7_group_0_c (27, .aload_n 0, 1) (List.mem_of_getElem? (i := 13) rfl)
theorem dX7_group_28 : decode cX7_group 28 = .ok (.bipush (-2), 2) := fchk_d fw_dX7_group_0_c (28, .bipush (-2), 2) (List.mem_of_getElem? (i := 14) rfl)
theorem dX7_group_30 : decode cX7_group 30 = .ok (.invokevirtual 91, 3) := fchk_d fw_dX7_group_0_c (30, .invokevirtual 91, 3) (List.mem_of_getElem? (i := 15) rfl)
theorem dX7_group_33 : decode cX7_group 33 = .ok (.ireturn, 1) := fchk_d fw_dX7_group_0_c (33, .ireturn, 1) (List.mem_of_getElem? (i := 16) rfl)
theorem dX7_group_34 : decode cX7_group 34 = .ok (.aload_n 0, 1) := fchk_d fw_dX7_group_0_c (34, .aload_n 0, 1) (List.mem_of_getElem? (i := 17) rfl)
theorem dX7_group_35 : decode cX7_group 35 = .ok (.getfield 46, 3) := fchk_d fw_dX7_group_0_c (35, .getfield 46, 3) (List.mem_of_getElem? (i := 18) rfl)
theorem dX7_group_38 : decode cX7_group 38 = .ok (.getfield 204, 3) := fchk_d fw_dX7_group_0_c (38, .getfield 204, 3) (List.mem_of_getElem? (i := 19) rfl)
theorem dX7_group_41 : decode cX7_group 41 = .ok (.iload_n 1, 1) := fchk_d fw_dX7_group_0_c (41, .iload_n 1, 1) (List.mem_of_getElem? (i := 20) rfl)
theorem dX7_group_42 : decode cX7_group 42 = .ok (.iaload, 1) := fchk_d fw_dX7_group_0_c (42, .iaload, 1) (List.mem_of_getElem? (i := 21) rfl)
theorem dX7_group_43 : decode cX7_group 43 = .ok (.ireturn, 1) := fchk_d fw_dX7_group_0_c (43, .ireturn, 1) (List.mem_of_getElem? (i := 22) rfl)
set_option maxRecDepth 20000 in
theorem ggX7_narrow_X7_refuse : GoodIn wsX7_narrow wsX7_refuse := goodIn_r _ [12, 13, 14, 15, 16, 17, 18, 19, 20, 21, 22, 23, 24, 25, 26, 27, 28, 29] rfl (by decide +kernel)
set_option maxRecDepth 20000 in
theorem gX7_narrow_X7_refuse : GoodIn wsX7_narrow (wsV RX7 91 RX7 yX7_refuse wsX7_refuse) := goodIn_app (goodIn_of _ (by decide +kernel)) ggX7_narrow_X7_refuse
def fw_dX7_narrow_0 : List (Nat × Instr × Nat) := [(0, .aload_n 0, 1), (1, .getfield 37, 3), (4, .getfield 161, 3), (7, .ifCond .ne 10, 3), (10, .aload_n 0, 1), (11, .bipush (-2), 2), (13, .invokevirtual 91, 3), (16, .ireturn, 1), (17, .iload_n 1, 1)]
theorem fw_dX7_narrow_0_c : fchk 0 (cX7_narrow.data.toList.drop 0) fw_dX7_narrow_0 = true := by decide +kernel
theorem dX7_narrow_0 : decode cX7_narrow 0 = .ok (.aload_n 0, 1) := fchk_d fw_dX7_narrow_0_c (0, .aload_n 0, 1) (List.mem_of_getElem? (i := 0) rfl)
theorem dX7_narrow_1 : decode cX7_narrow 1 = .ok (.getfield 37, 3) := fchk_d fw_dX7_narrow_0_c (1, .getfield 37, 3) (List.mem_of_getElem? (i := 1) rfl)
theorem dX7_narrow_4 : decode cX7_narrow 4 = .ok (.getfield 161, 3) := fchk_d fw_dX7_narrow_0_c (4, .getfield 161, 3) (List.mem_of_getElem? (i := 2) rfl)
theorem dX7_narrow_7 : decode cX7_narrow 7 = .ok (.ifCond .ne 10, 3) := fchk_d fw_dX7_narrow_0_c (7, .ifCond .ne 10, 3) (List.mem_of_getElem? (i := 3) rfl)
theorem dX7_narrow_10 : decode cX7_narrow 10 = .ok (.aload_n 0, 1) := fchk_d fw_dX7_narrow_0_c (10, .aload_n 0, 1) (List.mem_of_getElem? (i := 4) rfl)
theorem dX7_narrow_11 : decode cX7_narrow 11 = .ok (.bipush (-2), 2) := fchk_d fw_dX7_narrow_0_c (11, .bipush (-2), 2) (List.mem_of_getElem? (i := 5) rfl)
theorem dX7_narrow_13 : decode cX7_narrow 13 = .ok (.invokevirtual 91, 3) := fchk_d fw_dX7_narrow_0_c (13, .invokevirtual 91, 3) (List.mem_of_getElem? (i := 6) rfl)
theorem dX7_narrow_16 : decode cX7_narrow 16 = .ok (.ireturn, 1) := fchk_d fw_dX7_narrow_0_c (16, .ireturn, 1) (List.mem_of_getElem? (i := 7) rfl)
theorem dX7_narrow_17 : decode cX7_narrow 17 = .ok (.iload_n 1, 1) := fchk_d fw_dX7_narrow_0_c (17, .iload_n 1, 1) (List.mem_of_getElem? (i := 8) rfl)
theorem dX7_narrow_18 : decode cX7_narrow 18 = .ok (.tableswitch 70 0 3 #[30, 38, 54, 62], 30) := by decide +kernel
def fw_dX7_narrow_48 : List (Nat × Instr × Nat) := [(48, .aload_n 0, 1), (49, .getfield 46, 3), (52, .getfield 207, 3), (55, .ireturn, 1), (56, .aload_n 0, 1), (57, .getfield 46, 3), (60, .getfield 207, 3), (63, .aload_n 0, 1), (64, .getfield 37, 3), (67, .getfield 184, 3), (70, .imul, 1), (71, .ireturn, 1), (72, .aload_n 0, 1), (73, .getfield 46, 3), (76, .getfield 210, 3), (79, .ireturn, 1), (80, .aload_n 0, 1), (81, .getfield 46, 3), (84, .getfield 213, 3), (87, .ireturn, 1), (88, .aload_n 0, 1), (89, .bipush (-6), 2), (91, .invokevirtual 91, 3), (94, .ireturn, 1)]
theorem fw_dX7_narrow_48_c : fchk 48 (cX7_narrow.data.toList.drop 48) fw_dX7_narrow_48 = true := by decide +kernel
theorem dX7_narrow_48 : decode cX7_narrow 48 = .ok (.aload_n 0, 1) := fchk_d fw_dX7_narrow_48_c (48, .aload_n 0, 1) (List.mem_of_getElem? (i := 0) rfl)
theorem dX7_narrow_49 : decode cX7_narrow 49 = .ok (.getfield 46, 3) := fchk_d fw_dX7_narrow_48_c (49, .getfield 46, 3) (List.mem_of_getElem? (i := 1) rfl)
theorem dX7_narrow_52 : decode cX7_narrow 52 = .ok (.getfield 207, 3) := fchk_d fw_dX7_narrow_48_c (52, .getfield 207, 3) (List.mem_of_getElem? (i := 2) rfl)
theorem dX7_narrow_55 : decode cX7_narrow 55 = .ok (.ireturn, 1) := fchk_d fw_dX7_narrow_48_c (55, .ireturn, 1) (List.mem_of_getElem? (i := 3) rfl)
theorem dX7_narrow_56 : decode cX7_narrow 56 = .ok (.aload_n 0, 1) := fchk_d fw_dX7_narrow_48_c (56, .aload_n 0, 1) (List.mem_of_getElem? (i := 4) rfl)
theorem dX7_narrow_57 : decode cX7_narrow 57 = .ok (.getfield 46, 3) := fchk_d fw_dX7_narrow_48_c (57, .getfield 46, 3) (List.mem_of_getElem? (i := 5) rfl)
theorem dX7_narrow_60 : decode cX7_narrow 60 = .ok (.getfield 207, 3) := fchk_d fw_dX7_narrow_48_c (60, .getfield 207, 3) (List.mem_of_getElem? (i := 6) rfl)
theorem dX7_narrow_63 : decode cX7_narrow 63 = .ok (.aload_n 0, 1) := fchk_d fw_dX7_narrow_48_c (63, .aload_n 0, 1) (List.mem_of_getElem? (i := 7) rfl)
theorem dX7_narrow_64 : decode cX7_narrow 64 = .ok (.getfield 37, 3) := fchk_d fw_dX7_narrow_48_c (64, .getfield 37, 3) (List.mem_of_getElem? (i := 8) rfl)
theorem dX7_narrow_67 : decode cX7_narrow 67 = .ok (.getfield 184, 3) := fchk_d fw_dX7_narrow_48_c (67, .getfield 184, 3) (List.mem_of_getElem? (i := 9) rfl)
theorem dX7_narrow_70 : decode cX7_narrow 70 = .ok (.imul, 1) := fchk_d fw_dX7_narrow_48_c (70, .imul, 1) (List.mem_of_getElem? (i := 10) rfl)
theorem dX7_narrow_71 : decode cX7_narrow 71 = .ok (.ireturn, 1) := fchk_d fw_dX7_narrow_48_c (71, .ireturn, 1) (List.mem_of_getElem? (i := 11) rfl)
theorem dX7_narrow_72 : decode cX7_narrow 72 = .ok (.aload_n 0, 1) := fchk_d fw_dX7_narrow_48_c (72, .aload_n 0, 1) (List.mem_of_getElem? (i := 12) rfl)
theorem dX7_narrow_73 : decode cX7_narrow 73 = .ok (.getfield 46, 3) := fchk_d fw_dX7_narrow_48_c (73, .getfield 46, 3) (List.mem_of_getElem? (i := 13) rfl)
theorem dX7_narrow_76 : decode cX7_narrow 76 = .ok (.getfield 210, 3) := fchk_d fw_dX7_narrow_48_c (76, .getfield 210, 3) (List.mem_of_getElem? (i := 14) rfl)
theorem dX7_narrow_79 : decode cX7_narrow 79 = .ok (.ireturn, 1) := fchk_d fw_dX7_narrow_48_c (79, .ireturn, 1) (List.mem_of_getElem? (i := 15) rfl)
theorem dX7_narrow_80 : decode cX7_narrow 80 = .ok (.aload_n 0, 1) := fchk_d fw_dX7_narrow_48_c (80, .aload_n 0, 1) (List.mem_of_getElem? (i := 16) rfl)
theorem dX7_narrow_81 : decode cX7_narrow 81 = .ok (.getfield 46, 3) := fchk_d fw_dX7_narrow_48_c (81, .getfield 46, 3) (List.mem_of_getElem? (i := 17) rfl)
theorem dX7_narrow_84 : decode cX7_narrow 84 = .ok (.getfield 213, 3) := fchk_d fw_dX7_narrow_48_c (84, .getfield 213, 3) (List.mem_of_getElem? (i := 18) rfl)
theorem dX7_narrow_87 : decode cX7_narrow 87 = .ok (.ireturn, 1) := fchk_d fw_dX7_narrow_48_c (87, .ireturn, 1) (List.mem_of_getElem? (i := 19) rfl)
theorem dX7_narrow_88 : decode cX7_narrow 88 = .ok (.aload_n 0, 1) := fchk_d fw_dX7_narrow_48_c (88, .aload_n 0, 1) (List.mem_of_getElem? (i := 20) rfl)
theorem dX7_narrow_89 : decode cX7_narrow 89 = .ok (.bipush (-6), 2) := fchk_d fw_dX7_narrow_48_c (89, .bipush (-6), 2) (List.mem_of_getElem? (i := 21) rfl)
theorem dX7_narrow_91 : decode cX7_narrow 91 = .ok (.invokevirtual 91, 3) := fchk_d fw_dX7_narrow_48_c (91, .invokevirtual 91, 3) (List.mem_of_getElem? (i := 22) rfl)
theorem dX7_narrow_94 : decode cX7_narrow 94 = .ok (.ireturn, 1) := fchk_d fw_dX7_narrow_48_c (94, .ireturn, 1) (List.mem_of_getElem? (i := 23) rfl)
set_option maxRecDepth 20000 in
theorem ggX7_run_X7_isInstruction : GoodIn wsX7_run wsX7_isInstruction := goodIn_r _ [6] rfl (by decide +kernel)
set_option maxRecDepth 20000 in
theorem gX7_run_X7_isInstruction : GoodIn wsX7_run (va_wsS RX7 111 yX7_isInstruction wsX7_isInstruction) := goodIn_app (goodIn_of _ (by decide +kernel)) ggX7_run_X7_isInstruction
set_option maxRecDepth 20000 in
theorem ggX7_run_X7_refuse : GoodIn wsX7_run wsX7_refuse := goodIn_r _ [10, 11, 187, 188, 189, 190, 191, 192, 193, 194, 195, 196, 197, 198, 199, 200, 201, 202] rfl (by decide +kernel)
set_option maxRecDepth 20000 in
theorem gX7_run_X7_refuse : GoodIn wsX7_run (wsV RX7 91 RX7 yX7_refuse wsX7_refuse) := goodIn_app (goodIn_of _ (by decide +kernel)) ggX7_run_X7_refuse
set_option maxRecDepth 20000 in
theorem ggX7_run_X3_make : GoodIn wsX7_run wsX3_make := goodIn_r _ [16, 17, 18, 19, 20, 21, 22, 23, 24, 25, 26, 27, 28, 29, 30, 31, 32, 33, 34, 35, 36, 37, 38, 39, 40, 41, 42, 43, 44, 5, 45, 46, 47, 48, 49, 50, 51, 52, 53, 54, 55, 56, 57, 58, 59, 60, 61, 62, 63, 64, 65, 66, 67, 68, 69, 70, 71, 72, 73, 74, 75, 76, 77, 78, 79, 80, 81, 82, 83, 84, 85, 86, 87, 88, 89, 90, 91, 92, 93, 94, 95, 96, 97, 98, 99, 100, 101, 203, 204, 205, 206, 207, 208, 209, 210, 211, 212, 213, 214, 215, 216, 217, 218, 219, 220, 221, 222, 223, 224, 225, 226] rfl (by decide +kernel)
set_option maxRecDepth 20000 in
theorem gX7_run_X3_make : GoodIn wsX7_run (wsV RX7 168 RX3 yX3_make wsX3_make) := goodIn_app (goodIn_of _ (by decide +kernel)) ggX7_run_X3_make
set_option maxRecDepth 20000 in
theorem ggX7_run_X0_perform : GoodIn wsX7_run wsX0_perform := goodIn_r _ [106, 107, 108, 109, 110, 111, 112, 113, 114, 115, 116, 117, 118, 119, 120, 121, 44, 5, 45, 122, 123, 124, 105, 125, 126, 127, 128, 88, 89, 129, 130, 131, 132, 133, 134, 135, 136, 137, 138, 139, 140, 141, 142, 143, 144, 145, 146, 147, 148, 149, 150, 151, 152, 153, 154, 155, 156, 157, 158, 159, 160, 161, 162, 163, 164, 165, 166, 167, 168, 169, 170, 171, 172, 173, 174, 175, 176, 177, 178, 82, 83, 84, 85, 86, 87, 227, 228, 229, 230, 231, 232, 233, 234, 235, 236, 203, 204, 205, 206, 207, 208, 209, 220, 221, 222, 223, 224, 225, 226, 237, 238, 239, 240, 241] rfl (by decide +kernel)
set_option maxRecDepth 20000 in
theorem gX7_run_X0_perform : GoodIn wsX7_run (wsV RX7 216 RX0 yX0_perform wsX0_perform) := goodIn_app (goodIn_of _ (by decide +kernel)) ggX7_run_X0_perform
set_option maxRecDepth 20000 in
theorem ggX7_run_X7_keepTold : GoodIn wsX7_run wsX7_keepTold := goodIn_r _ [182, 183, 2, 184, 185, 186, 187, 188, 189, 190, 191, 192, 193, 194, 195, 196, 197, 198, 199, 200, 201, 202, 227, 228, 229, 230, 231, 232, 233, 234, 235, 236] rfl (by decide +kernel)
set_option maxRecDepth 20000 in
theorem gX7_run_X7_keepTold : GoodIn wsX7_run (wsV RX7 220 RX7 yX7_keepTold wsX7_keepTold) := goodIn_app (goodIn_of _ (by decide +kernel)) ggX7_run_X7_keepTold
def fw_dX7_run_0 : List (Nat × Instr × Nat) := [(0, .iload_n 1, 1), (1, .invokestatic 111, 3), (4, .ifCond .ne 10, 3), (7, .aload_n 0, 1), (8, .bipush (-3), 2), (10, .invokevirtual 91, 3), (13, .ireturn, 1), (14, .iload_n 2, 1), (15, .ifCond .eq 11, 3), (18, .aload_n 0, 1), (19, .getfield 28, 3), (22, .iload_n 1, 1), (23, .invokevirtual 168, 3), (26, .aload_n 0, 1), (27, .getfield 55, 3), (30, .iload_n 1, 1), (31, .iload_n 2, 1), (32, .invokevirtual 216, 3), (35, .istore_n 3, 1), (36, .aload_n 0, 1), (37, .invokevirtual 220, 3), (40, .iload_n 3, 1), (41, .ireturn, 1)]
theorem fw_dX7_run_0_c : fchk 0 (cX7_run.data.toList.drop 0) fw_dX7_run_0 = true := by decide +kernel
theorem dX7_run_0 : decode cX7_run 0 = .ok (.iload_n 1, 1) := fchk_d fw_dX7_run_0_c (0, .iload_n 1, 1) (List.mem_of_getElem? (i := 0) rfl)
theorem dX7_run_1 : decode cX7_run 1 = .ok (.invokestatic 111, 3) := fchk_d fw_dX7_run_0_c (1, .invokestatic 111, 3) (List.mem_of_getElem? (i := 1) rfl)
theorem dX7_run_4 : decode cX7_run 4 = .ok (.ifCond .ne 10, 3) := fchk_d fw_dX7_run_0_c (4, .ifCond .ne 10, 3) (List.mem_of_getElem? (i := 2) rfl)
theorem dX7_run_7 : decode cX7_run 7 = .ok (.aload_n 0, 1) := fchk_d fw_dX7_run_0_c (7, .aload_n 0, 1) (List.mem_of_getElem? (i := 3) rfl)
theorem dX7_run_8 : decode cX7_run 8 = .ok (.bipush (-3), 2) := fchk_d fw_dX7_run_0_c (8, .bipush (-3), 2) (List.mem_of_getElem? (i := 4) rfl)
theorem dX7_run_10 : decode cX7_run 10 = .ok (.invokevirtual 91, 3) := fchk_d fw_dX7_run_0_c (10, .invokevirtual 91, 3) (List.mem_of_getElem? (i := 5) rfl)
theorem dX7_run_13 : decode cX7_run 13 = .ok (.ireturn, 1) := fchk_d fw_dX7_run_0_c (13, .ireturn, 1) (List.mem_of_getElem? (i := 6) rfl)
theorem dX7_run_14 : decode cX7_run 14 = .ok (.iload_n 2, 1) := fchk_d fw_dX7_run_0_c (14, .iload_n 2, 1) (List.mem_of_getElem? (i := 7) rfl)
theorem dX7_run_15 : decode cX7_run 15 = .ok (.ifCond .eq 11, 3) := fchk_d fw_dX7_run_0_c (15, .ifCond .eq 11, 3) (List.mem_of_getElem? (i := 8) rfl)
theorem dX7_run_18 : decode cX7_run 18 = .ok (.aload_n 0, 1) := fchk_d fw_dX7_run_0_c (18, .aload_n 0, 1) (List.mem_of_getElem? (i := 9) rfl)
theorem dX7_run_19 : decode cX7_run 19 = .ok (.getfield 28, 3) := fchk_d fw_dX7_run_0_c (19, .getfield 28, 3) (List.mem_of_getElem? (i := 10) rfl)
theorem dX7_run_22 : decode cX7_run 22 = .ok (.iload_n 1, 1) := fchk_d fw_dX7_run_0_c (22, .iload_n 1, 1) (List.mem_of_getElem? (i := 11) rfl)
theorem dX7_run_23 : decode cX7_run 23 = .ok (.invokevirtual 168, 3) := fchk_d fw_dX7_run_0_c (23, .invokevirtual 168, 3) (List.mem_of_getElem? (i := 12) rfl)
theorem dX7_run_26 : decode cX7_run 26 = .ok (.aload_n 0, 1) := fchk_d fw_dX7_run_0_c (26, .aload_n 0, 1) (List.mem_of_getElem? (i := 13) rfl)
theorem dX7_run_27 : decode cX7_run 27 = .ok (.getfield 55, 3) := fchk_d fw_dX7_run_0_c (27, .getfield 55, 3) (List.mem_of_getElem? (i := 14) rfl)
theorem dX7_run_30 : decode cX7_run 30 = .ok (.iload_n 1, 1) := fchk_d fw_dX7_run_0_c (30, .iload_n 1, 1) (List.mem_of_getElem? (i := 15) rfl)
theorem dX7_run_31 : decode cX7_run 31 = .ok (.iload_n 2, 1) := fchk_d fw_dX7_run_0_c (31, .iload_n 2, 1) (List.mem_of_getElem? (i := 16) rfl)
theorem dX7_run_32 : decode cX7_run 32 = .ok (.invokevirtual 216, 3) := fchk_d fw_dX7_run_0_c (32, .invokevirtual 216, 3) (List.mem_of_getElem? (i := 17) rfl)
theorem dX7_run_35 : decode cX7_run 35 = .ok (.istore_n 3, 1) := fchk_d fw_dX7_run_0_c (35, .istore_n 3, 1) (List.mem_of_getElem? (i := 18) rfl)
theorem dX7_run_36 : decode cX7_run 36 = .ok (.aload_n 0, 1) := fchk_d fw_dX7_run_0_c (36, .aload_n 0, 1) (List.mem_of_getElem? (i := 19) rfl)
theorem dX7_run_37 : decode cX7_run 37 = .ok (.invokevirtual 220, 3) := fchk_d fw_dX7_run_0_c (37, .invokevirtual 220, 3) (List.mem_of_getElem? (i := 20) rfl)
theorem dX7_run_40 : decode cX7_run 40 = .ok (.iload_n 3, 1) := fchk_d fw_dX7_run_0_c (40, .iload_n 3, 1) (List.mem_of_getElem? (i := 21) rfl)
theorem dX7_run_41 : decode cX7_run 41 = .ok (.ireturn, 1) := fchk_d fw_dX7_run_0_c (41, .ireturn, 1) (List.mem_of_getElem? (i := 22) rfl)
set_option maxRecDepth 20000 in
theorem ggX7_told_X7_refuse : GoodIn wsX7_told wsX7_refuse := goodIn_r _ [6, 7, 8, 9, 10, 11, 12, 13, 14, 15, 16, 17, 18, 19, 20, 21, 22, 23] rfl (by decide +kernel)
set_option maxRecDepth 20000 in
theorem gX7_told_X7_refuse : GoodIn wsX7_told (wsV RX7 91 RX7 yX7_refuse wsX7_refuse) := goodIn_app (goodIn_of _ (by decide +kernel)) ggX7_told_X7_refuse
def fw_dX7_told_0 : List (Nat × Instr × Nat) := [(0, .iload_n 1, 1), (1, .ifCond .lt 12, 3), (4, .iload_n 1, 1), (5, .aload_n 0, 1), (6, .getfield 59, 3), (9, .arraylength, 1), (10, .if_icmp .lt 10, 3), (13, .aload_n 0, 1), (14, .bipush (-6), 2), (16, .invokevirtual 91, 3), (19, .ireturn, 1), (20, .aload_n 0, 1), (21, .getfield 59, 3), (24, .iload_n 1, 1), (25, .iaload, 1), (26, .ireturn, 1)]
theorem fw_dX7_told_0_c : fchk 0 (cX7_told.data.toList.drop 0) fw_dX7_told_0 = true := by decide +kernel
theorem dX7_told_0 : decode cX7_told 0 = .ok (.iload_n 1, 1) := fchk_d fw_dX7_told_0_c (0, .iload_n 1, 1) (List.mem_of_getElem? (i := 0) rfl)
theorem dX7_told_1 : decode cX7_told 1 = .ok (.ifCond .lt 12, 3) := fchk_d fw_dX7_told_0_c (1, .ifCond .lt 12, 3) (List.mem_of_getElem? (i := 1) rfl)
theorem dX7_told_4 : decode cX7_told 4 = .ok (.iload_n 1, 1) := fchk_d fw_dX7_told_0_c (4, .iload_n 1, 1) (List.mem_of_getElem? (i := 2) rfl)
theorem dX7_told_5 : decode cX7_told 5 = .ok (.aload_n 0, 1) := fchk_d fw_dX7_told_0_c (5, .aload_n 0, 1) (List.mem_of_getElem? (i := 3) rfl)
theorem dX7_told_6 : decode cX7_told 6 = .ok (.getfield 59, 3) := fchk_d fw_dX7_told_0_c (6, .getfield 59, 3) (List.mem_of_getElem? (i := 4) rfl)
theorem dX7_told_9 : decode cX7_told 9 = .ok (.arraylength, 1) := fchk_d fw_dX7_told_0_c (9, .arraylength, 1) (List.mem_of_getElem? (i := 5) rfl)
theorem dX7_told_10 : decode cX7_told 10 = .ok (.if_icmp .lt 10, 3) := fchk_d fw_dX7_told_0_c (10, .if_icmp .lt 10, 3) (List.mem_of_getElem? (i := 6) rfl)
theorem dX7_told_13 : decode cX7_told 13 = .ok (.aload_n 0, 1) := fchk_d fw_dX7_told_0_c (13, .aload_n 0, 1) (List.mem_of_getElem? (i := 7) rfl)
theorem dX7_told_14 : decode cX7_told 14 = .ok (.bipush (-6), 2) := fchk_d fw_dX7_told_0_c (14, .bipush (-6), 2) (List.mem_of_getElem? (i := 8) rfl)
theorem dX7_told_16 : decode cX7_told 16 = .ok (.invokevirtual 91, 3) := fchk_d fw_dX7_told_0_c (16, .invokevirtual 91, 3) (List.mem_of_getElem? (i := 9) rfl)
theorem dX7_told_19 : decode cX7_told 19 = .ok (.ireturn, 1) := fchk_d fw_dX7_told_0_c (19, .ireturn, 1) (List.mem_of_getElem? (i := 10) rfl)
theorem dX7_told_20 : decode cX7_told 20 = .ok (.aload_n 0, 1) := fchk_d fw_dX7_told_0_c (20, .aload_n 0, 1) (List.mem_of_getElem? (i := 11) rfl)
theorem dX7_told_21 : decode cX7_told 21 = .ok (.getfield 59, 3) := fchk_d fw_dX7_told_0_c (21, .getfield 59, 3) (List.mem_of_getElem? (i := 12) rfl)
theorem dX7_told_24 : decode cX7_told 24 = .ok (.iload_n 1, 1) := fchk_d fw_dX7_told_0_c (24, .iload_n 1, 1) (List.mem_of_getElem? (i := 13) rfl)
theorem dX7_told_25 : decode cX7_told 25 = .ok (.iaload, 1) := fchk_d fw_dX7_told_0_c (25, .iaload, 1) (List.mem_of_getElem? (i := 14) rfl)
theorem dX7_told_26 : decode cX7_told 26 = .ok (.ireturn, 1) := fchk_d fw_dX7_told_0_c (26, .ireturn, 1) (List.mem_of_getElem? (i := 15) rfl)
set_option maxRecDepth 20000 in
theorem ggX7_beside_X7_isInstruction : GoodIn wsX7_beside wsX7_isInstruction := goodIn_r _ [7] rfl (by decide +kernel)
set_option maxRecDepth 20000 in
theorem gX7_beside_X7_isInstruction : GoodIn wsX7_beside (va_wsS RX7 111 yX7_isInstruction wsX7_isInstruction) := goodIn_app (goodIn_of _ (by decide +kernel)) ggX7_beside_X7_isInstruction
set_option maxRecDepth 20000 in
theorem ggX7_beside_X7_refuse : GoodIn wsX7_beside wsX7_refuse := goodIn_r _ [11, 12, 193, 194, 195, 196, 197, 198, 199, 200, 201, 202, 203, 204, 205, 206, 207, 208] rfl (by decide +kernel)
set_option maxRecDepth 20000 in
theorem gX7_beside_X7_refuse : GoodIn wsX7_beside (wsV RX7 91 RX7 yX7_refuse wsX7_refuse) := goodIn_app (goodIn_of _ (by decide +kernel)) ggX7_beside_X7_refuse
set_option maxRecDepth 20000 in
theorem ggX7_beside_X3_make : GoodIn wsX7_beside wsX3_make := goodIn_r _ [17, 18, 19, 20, 21, 22, 23, 24, 25, 26, 27, 28, 29, 30, 31, 32, 33, 34, 35, 36, 37, 38, 39, 40, 41, 42, 43, 44, 45, 6, 46, 47, 48, 49, 50, 51, 52, 53, 54, 55, 56, 57, 58, 59, 60, 61, 62, 63, 64, 65, 66, 67, 68, 69, 70, 71, 72, 73, 74, 75, 76, 77, 78, 79, 80, 81, 82, 83, 84, 85, 86, 87, 88, 89, 90, 91, 92, 93, 94, 95, 96, 97, 98, 99, 100, 101, 102, 209, 210, 211, 212, 213, 214, 215, 216, 217, 218, 219, 220, 221, 222, 223, 224, 225, 226, 227, 228, 229, 230, 231, 232] rfl (by decide +kernel)
set_option maxRecDepth 20000 in
theorem gX7_beside_X3_make : GoodIn wsX7_beside (wsV RX7 168 RX3 yX3_make wsX3_make) := goodIn_app (goodIn_of _ (by decide +kernel)) ggX7_beside_X3_make
set_option maxRecDepth 20000 in
theorem ggX7_beside_X0_endsAlike : GoodIn wsX7_beside wsX0_endsAlike := goodIn_r _ [107, 108, 109, 110, 111, 112, 113, 114, 115, 116, 117, 106, 118, 119, 120, 121, 122, 123, 124, 125, 126, 127, 128, 129, 130, 131, 132, 45, 6, 46, 133, 134, 135, 136, 137, 138, 139, 89, 90, 140, 141, 142, 143, 144, 145, 146, 147, 148, 149, 150, 151, 152, 153, 154, 155, 156, 157, 158, 159, 160, 161, 162, 163, 164, 165, 166, 167, 168, 169, 170, 171, 172, 173, 174, 175, 176, 177, 178, 179, 180, 181, 182, 183, 184, 185, 186, 187, 188, 83, 84, 85, 86, 87, 88, 189, 190, 191, 192, 233, 234, 235, 236, 237, 238, 239, 240, 241, 242, 243, 244, 245, 246, 247, 209, 210, 211, 212, 213, 214, 215, 226, 227, 228, 229, 230, 231, 232] rfl (by decide +kernel)
set_option maxRecDepth 20000 in
theorem gX7_beside_X0_endsAlike : GoodIn wsX7_beside (wsV RX7 223 RX0 yX0_endsAlike wsX0_endsAlike) := goodIn_app (goodIn_of _ (by decide +kernel)) ggX7_beside_X0_endsAlike
def fw_dX7_beside_0 : List (Nat × Instr × Nat) := [(0, .iload_n 1, 1), (1, .invokestatic 111, 3), (4, .ifCond .ne 10, 3), (7, .aload_n 0, 1), (8, .bipush (-3), 2), (10, .invokevirtual 91, 3), (13, .ireturn, 1), (14, .aload_n 0, 1), (15, .getfield 28, 3), (18, .getfield 172, 3), (21, .iload_n 1, 1), (22, .baload, 1), (23, .istore_n 2, 1), (24, .aload_n 0, 1), (25, .getfield 28, 3), (28, .iload_n 1, 1), (29, .invokevirtual 168, 3), (32, .aload_n 0, 1), (33, .getfield 55, 3), (36, .iload_n 1, 1), (37, .invokevirtual 223, 3), (40, .istore_n 3, 1), (41, .aload_n 0, 1), (42, .getfield 28, 3), (45, .getfield 172, 3), (48, .iload_n 1, 1), (49, .iload_n 2, 1), (50, .bastore, 1), (51, .iload_n 3, 1), (52, .ifCond .eq 7, 3), (55, .iconst 0, 1), (56, .goto 4, 3), (59, .iconst 1, 1), (60, .ireturn, 1)]
theorem fw_dX7_beside_0_c : fchk 0 (cX7_beside.data.toList.drop 0) fw_dX7_beside_0 = true := by decide +kernel
theorem dX7_beside_0 : decode cX7_beside 0 = .ok (.iload_n 1, 1) := fchk_d fw_dX7_beside_0_c (0, .iload_n 1, 1) (List.mem_of_getElem? (i := 0) rfl)
theorem dX7_beside_1 : decode cX7_beside 1 = .ok (.invokestatic 111, 3) := fchk_d fw_dX7_beside_0_c (1, .invokestatic 111, 3) (List.mem_of_getElem? (i := 1) rfl)
theorem dX7_beside_4 : decode cX7_beside 4 = .ok (.ifCond .ne 10, 3) := fchk_d fw_dX7_beside_0_c (4, .ifCond .ne 10, 3) (List.mem_of_getElem? (i := 2) rfl)
theorem dX7_beside_7 : decode cX7_beside 7 = .ok (.aload_n 0, 1) := fchk_d fw_dX7_beside_0_c (7, .aload_n 0, 1) (List.mem_of_getElem? (i := 3) rfl)
theorem dX7_beside_8 : decode cX7_beside 8 = .ok (.bipush (-3), 2) := fchk_d fw_dX7_beside_0_c (8, .bipush (-3), 2) (List.mem_of_getElem? (i := 4) rfl)
theorem dX7_beside_10 : decode cX7_beside 10 = .ok (.invokevirtual 91, 3) := fchk_d fw_dX7_beside_0_c (10, .invokevirtual 91, 3) (List.mem_of_getElem? (i := 5) rfl)
theorem dX7_beside_13 : decode cX7_beside 13 = .ok (.ireturn, 1) := fchk_d fw_dX7_beside_0_c (13, .ireturn, 1) (List.mem_of_getElem? (i := 6) rfl)
theorem dX7_beside_14 : decode cX7_beside 14 = .ok (.aload_n 0, 1) := fchk_d fw_dX7_beside_0_c (14, .aload_n 0, 1) (List.mem_of_getElem? (i := 7) rfl)
theorem dX7_beside_15 : decode cX7_beside 15 = .ok (.getfield 28, 3) := fchk_d fw_dX7_beside_0_c (15, .getfield 28, 3) (List.mem_of_getElem? (i := 8) rfl)
theorem dX7_beside_18 : decode cX7_beside 18 = .ok (.getfield 172, 3) := fchk_d fw_dX7_beside_0_c (18, .getfield 172, 3) (List.mem_of_getElem? (i := 9) rfl)
theorem dX7_beside_21 : decode cX7_beside 21 = .ok (.iload_n 1, 1) := fchk_d fw_dX7_beside_0_c (21, .iload_n 1, 1) (List.mem_of_getElem? (i := 10) rfl)
theorem dX7_beside_22 : decode cX7_beside 22 = .ok (.baload, 1) := fchk_d fw_dX7_beside_0_c (22, .baload, 1) (List.mem_of_getElem? (i := 11) rfl)
theorem dX7_beside_23 : decode cX7_beside 23 = .ok (.istore_n 2, 1) := fchk_d fw_dX7_beside_0_c (23, .istore_n 2, 1) (List.mem_of_getElem? (i := 12) rfl)
theorem dX7_beside_24 : decode cX7_beside 24 = .ok (.aload_n 0, 1) := fchk_d fw_dX7_beside_0_c (24, .aload_n 0, 1) (List.mem_of_getElem? (i := 13) rfl)
theorem dX7_beside_25 : decode cX7_beside 25 = .ok (.getfield 28, 3) := fchk_d fw_dX7_beside_0_c (25, .getfield 28, 3) (List.mem_of_getElem? (i := 14) rfl)
theorem dX7_beside_28 : decode cX7_beside 28 = .ok (.iload_n 1, 1) := fchk_d fw_dX7_beside_0_c (28, .iload_n 1, 1) (List.mem_of_getElem? (i := 15) rfl)
theorem dX7_beside_29 : decode cX7_beside 29 = .ok (.invokevirtual 168, 3) := fchk_d fw_dX7_beside_0_c (29, .invokevirtual 168, 3) (List.mem_of_getElem? (i := 16) rfl)
theorem dX7_beside_32 : decode cX7_beside 32 = .ok (.aload_n 0, 1) := fchk_d fw_dX7_beside_0_c (32, .aload_n 0, 1) (List.mem_of_getElem? (i := 17) rfl)
theorem dX7_beside_33 : decode cX7_beside 33 = .ok (.getfield 55, 3) := fchk_d fw_dX7_beside_0_c (33, .getfield 55, 3) (List.mem_of_getElem? (i := 18) rfl)
theorem dX7_beside_36 : decode cX7_beside 36 = .ok (.iload_n 1, 1) := fchk_d fw_dX7_beside_0_c (36, .iload_n 1, 1) (List.mem_of_getElem? (i := 19) rfl)
theorem dX7_beside_37 : decode cX7_beside 37 = .ok (.invokevirtual 223, 3) := fchk_d fw_dX7_beside_0_c (37, .invokevirtual 223, 3) (List.mem_of_getElem? (i := 20) rfl)
theorem dX7_beside_40 : decode cX7_beside 40 = .ok (.istore_n 3, 1) := fchk_d fw_dX7_beside_0_c (40, .istore_n 3, 1) (List.mem_of_getElem? (i := 21) rfl)
theorem dX7_beside_41 : decode cX7_beside 41 = .ok (.aload_n 0, 1) := fchk_d fw_dX7_beside_0_c (41, .aload_n 0, 1) (List.mem_of_getElem? (i := 22) rfl)
theorem dX7_beside_42 : decode cX7_beside 42 = .ok (.getfield 28, 3) := fchk_d fw_dX7_beside_0_c (42, .getfield 28, 3) (List.mem_of_getElem? (i := 23) rfl)
theorem dX7_beside_45 : decode cX7_beside 45 = .ok (.getfield 172, 3) := fchk_d fw_dX7_beside_0_c (45, .getfield 172, 3) (List.mem_of_getElem? (i := 24) rfl)
theorem dX7_beside_48 : decode cX7_beside 48 = .ok (.iload_n 1, 1) := fchk_d fw_dX7_beside_0_c (48, .iload_n 1, 1) (List.mem_of_getElem? (i := 25) rfl)
theorem dX7_beside_49 : decode cX7_beside 49 = .ok (.iload_n 2, 1) := fchk_d fw_dX7_beside_0_c (49, .iload_n 2, 1) (List.mem_of_getElem? (i := 26) rfl)
theorem dX7_beside_50 : decode cX7_beside 50 = .ok (.bastore, 1) := fchk_d fw_dX7_beside_0_c (50, .bastore, 1) (List.mem_of_getElem? (i := 27) rfl)
theorem dX7_beside_51 : decode cX7_beside 51 = .ok (.iload_n 3, 1) := fchk_d fw_dX7_beside_0_c (51, .iload_n 3, 1) (List.mem_of_getElem? (i := 28) rfl)
theorem dX7_beside_52 : decode cX7_beside 52 = .ok (.ifCond .eq 7, 3) := fchk_d fw_dX7_beside_0_c (52, .ifCond .eq 7, 3) (List.mem_of_getElem? (i := 29) rfl)
theorem dX7_beside_55 : decode cX7_beside 55 = .ok (.iconst 0, 1) := fchk_d fw_dX7_beside_0_c (55, .iconst 0, 1) (List.mem_of_getElem? (i := 30) rfl)
theorem dX7_beside_56 : decode cX7_beside 56 = .ok (.goto 4, 3) := fchk_d fw_dX7_beside_0_c (56, .goto 4, 3) (List.mem_of_getElem? (i := 31) rfl)
theorem dX7_beside_59 : decode cX7_beside 59 = .ok (.iconst 1, 1) := fchk_d fw_dX7_beside_0_c (59, .iconst 1, 1) (List.mem_of_getElem? (i := 32) rfl)
theorem dX7_beside_60 : decode cX7_beside 60 = .ok (.ireturn, 1) := fchk_d fw_dX7_beside_0_c (60, .ireturn, 1) (List.mem_of_getElem? (i := 33) rfl)
set_option maxRecDepth 20000 in
theorem ggX7_code_X7_refuse : GoodIn wsX7_code wsX7_refuse := goodIn_r _ [6, 7, 11, 12, 13, 14, 15, 16, 17, 18, 19, 20, 21, 22, 23, 24, 25, 26] rfl (by decide +kernel)
set_option maxRecDepth 20000 in
theorem gX7_code_X7_refuse : GoodIn wsX7_code (wsV RX7 91 RX7 yX7_refuse wsX7_refuse) := goodIn_app (goodIn_of _ (by decide +kernel)) ggX7_code_X7_refuse
set_option maxRecDepth 20000 in
theorem ggX7_code_X7_isInstruction : GoodIn wsX7_code wsX7_isInstruction := goodIn_r _ [10] rfl (by decide +kernel)
set_option maxRecDepth 20000 in
theorem gX7_code_X7_isInstruction : GoodIn wsX7_code (va_wsS RX7 111 yX7_isInstruction wsX7_isInstruction) := goodIn_app (goodIn_of _ (by decide +kernel)) ggX7_code_X7_isInstruction
def fw_dX7_code_0 : List (Nat × Instr × Nat) := [(0, .iload_n 1, 1), (1, .ifCond .lt 9, 3), (4, .iload_n 1, 1), (5, .bipush 16, 2), (7, .if_icmp .lt 10, 3), (10, .aload_n 0, 1), (11, .bipush (-3), 2), (13, .invokevirtual 91, 3), (16, .ireturn, 1), (17, .iload_n 2, 1), (18, .iconst (-1), 1), (19, .if_icmp .eq 17, 3), (22, .iload_n 2, 1), (23, .invokestatic 111, 3), (26, .ifCond .ne 10, 3), (29, .aload_n 0, 1), (30, .bipush (-3), 2), (32, .invokevirtual 91, 3), (35, .ireturn, 1), (36, .aload_n 0, 1), (37, .getfield 63, 3), (40, .iload_n 1, 1), (41, .iaload, 1), (42, .istore_n 3, 1), (43, .aload_n 0, 1), (44, .getfield 63, 3), (47, .iload_n 1, 1), (48, .iload_n 2, 1), (49, .iastore, 1), (50, .iload_n 3, 1), (51, .ireturn, 1)]
theorem fw_dX7_code_0_c : fchk 0 (cX7_code.data.toList.drop 0) fw_dX7_code_0 = true := by decide +kernel
theorem dX7_code_0 : decode cX7_code 0 = .ok (.iload_n 1, 1) := fchk_d fw_dX7_code_0_c (0, .iload_n 1, 1) (List.mem_of_getElem? (i := 0) rfl)
theorem dX7_code_1 : decode cX7_code 1 = .ok (.ifCond .lt 9, 3) := fchk_d fw_dX7_code_0_c (1, .ifCond .lt 9, 3) (List.mem_of_getElem? (i := 1) rfl)
theorem dX7_code_4 : decode cX7_code 4 = .ok (.iload_n 1, 1) := fchk_d fw_dX7_code_0_c (4, .iload_n 1, 1) (List.mem_of_getElem? (i := 2) rfl)
theorem dX7_code_5 : decode cX7_code 5 = .ok (.bipush 16, 2) := fchk_d fw_dX7_code_0_c (5, .bipush 16, 2) (List.mem_of_getElem? (i := 3) rfl)
theorem dX7_code_7 : decode cX7_code 7 = .ok (.if_icmp .lt 10, 3) := fchk_d fw_dX7_code_0_c (7, .if_icmp .lt 10, 3) (List.mem_of_getElem? (i := 4) rfl)
theorem dX7_code_10 : decode cX7_code 10 = .ok (.aload_n 0, 1) := fchk_d fw_dX7_code_0_c (10, .aload_n 0, 1) (List.mem_of_getElem? (i := 5) rfl)
theorem dX7_code_11 : decode cX7_code 11 = .ok (.bipush (-3), 2) := fchk_d fw_dX7_code_0_c (11, .bipush (-3), 2) (List.mem_of_getElem? (i := 6) rfl)
theorem dX7_code_13 : decode cX7_code 13 = .ok (.invokevirtual 91, 3) := fchk_d fw_dX7_code_0_c (13, .invokevirtual 91, 3) (List.mem_of_getElem? (i := 7) rfl)
theorem dX7_code_16 : decode cX7_code 16 = .ok (.ireturn, 1) := fchk_d fw_dX7_code_0_c (16, .ireturn, 1) (List.mem_of_getElem? (i := 8) rfl)
theorem dX7_code_17 : decode cX7_code 17 = .ok (.iload_n 2, 1) := fchk_d fw_dX7_code_0_c (17, .iload_n 2, 1) (List.mem_of_getElem? (i := 9) rfl)
theorem dX7_code_18 : decode cX7_code 18 = .ok (.iconst (-1), 1) := fchk_d fw_dX7_code_0_c (18, .iconst (-1), 1) (List.mem_of_getElem? (i := 10) rfl)
theorem dX7_code_19 : decode cX7_code 19 = .ok (.if_icmp .eq 17, 3) := fchk_d fw_dX7_code_0_c (19, .if_icmp .eq 17, 3) (List.mem_of_getElem? (i := 11) rfl)
theorem dX7_code_22 : decode cX7_code 22 = .ok (.iload_n 2, 1) := fchk_d fw_dX7_code_0_c (22, .iload_n 2, 1) (List.mem_of_getElem? (i := 12) rfl)
theorem dX7_code_23 : decode cX7_code 23 = .ok (.invokestatic 111, 3) := fchk_d fw_dX7_code_0_c (23, .invokestatic 111, 3) (List.mem_of_getElem? (i := 13) rfl)
theorem dX7_code_26 : decode cX7_code 26 = .ok (.ifCond .ne 10, 3) := fchk_d fw_dX7_code_0_c (26, .ifCond .ne 10, 3) (List.mem_of_getElem? (i := 14) rfl)
theorem dX7_code_29 : decode cX7_code 29 = .ok (.aload_n 0, 1) := fchk_d fw_dX7_code_0_c (29, .aload_n 0, 1) (List.mem_of_getElem? (i := 15) rfl)
theorem dX7_code_30 : decode cX7_code 30 = .ok (.bipush (-3), 2) := fchk_d fw_dX7_code_0_c (30, .bipush (-3), 2) (List.mem_of_getElem? (i := 16) rfl)
theorem dX7_code_32 : decode cX7_code 32 = .ok (.invokevirtual 91, 3) := fchk_d fw_dX7_code_0_c (32, .invokevirtual 91, 3) (List.mem_of_getElem? (i := 17) rfl)
theorem dX7_code_35 : decode cX7_code 35 = .ok (.ireturn, 1) := fchk_d fw_dX7_code_0_c (35, .ireturn, 1) (List.mem_of_getElem? (i := 18) rfl)
theorem dX7_code_36 : decode cX7_code 36 = .ok (.aload_n 0, 1) := fchk_d fw_dX7_code_0_c (36, .aload_n 0, 1) (List.mem_of_getElem? (i := 19) rfl)
theorem dX7_code_37 : decode cX7_code 37 = .ok (.getfield 63, 3) := fchk_d fw_dX7_code_0_c (37, .getfield 63, 3) (List.mem_of_getElem? (i := 20) rfl)
theorem dX7_code_40 : decode cX7_code 40 = .ok (.iload_n 1, 1) := fchk_d fw_dX7_code_0_c (40, .iload_n 1, 1) (List.mem_of_getElem? (i := 21) rfl)
theorem dX7_code_41 : decode cX7_code 41 = .ok (.iaload, 1) := fchk_d fw_dX7_code_0_c (41, .iaload, 1) (List.mem_of_getElem? (i := 22) rfl)
theorem dX7_code_42 : decode cX7_code 42 = .ok (.istore_n 3, 1) := fchk_d fw_dX7_code_0_c (42, .istore_n 3, 1) (List.mem_of_getElem? (i := 23) rfl)
theorem dX7_code_43 : decode cX7_code 43 = .ok (.aload_n 0, 1) := fchk_d fw_dX7_code_0_c (43, .aload_n 0, 1) (List.mem_of_getElem? (i := 24) rfl)
theorem dX7_code_44 : decode cX7_code 44 = .ok (.getfield 63, 3) := fchk_d fw_dX7_code_0_c (44, .getfield 63, 3) (List.mem_of_getElem? (i := 25) rfl)
theorem dX7_code_47 : decode cX7_code 47 = .ok (.iload_n 1, 1) := fchk_d fw_dX7_code_0_c (47, .iload_n 1, 1) (List.mem_of_getElem? (i := 26) rfl)
theorem dX7_code_48 : decode cX7_code 48 = .ok (.iload_n 2, 1) := fchk_d fw_dX7_code_0_c (48, .iload_n 2, 1) (List.mem_of_getElem? (i := 27) rfl)
theorem dX7_code_49 : decode cX7_code 49 = .ok (.iastore, 1) := fchk_d fw_dX7_code_0_c (49, .iastore, 1) (List.mem_of_getElem? (i := 28) rfl)
theorem dX7_code_50 : decode cX7_code 50 = .ok (.iload_n 3, 1) := fchk_d fw_dX7_code_0_c (50, .iload_n 3, 1) (List.mem_of_getElem? (i := 29) rfl)
theorem dX7_code_51 : decode cX7_code 51 = .ok (.ireturn, 1) := fchk_d fw_dX7_code_0_c (51, .ireturn, 1) (List.mem_of_getElem? (i := 30) rfl)
set_option maxRecDepth 20000 in
theorem ggX7_step_X7_refuse : GoodIn wsX7_step wsX7_refuse := goodIn_r _ [7, 8, 196, 197, 198, 199, 200, 201, 202, 203, 204, 205, 206, 207, 208, 209, 210, 211] rfl (by decide +kernel)
set_option maxRecDepth 20000 in
theorem gX7_step_X7_refuse : GoodIn wsX7_step (wsV RX7 91 RX7 yX7_refuse wsX7_refuse) := goodIn_app (goodIn_of _ (by decide +kernel)) ggX7_step_X7_refuse
set_option maxRecDepth 20000 in
theorem ggX7_step_X7_doStep : GoodIn wsX7_step wsX7_doStep := goodIn_r _ [12, 13, 14, 15, 16, 17, 18, 19, 20, 21, 22, 23, 24, 25, 26, 27, 28, 29, 30, 31, 32, 33, 34, 35, 36, 37, 38, 39, 40, 41, 42, 43, 44, 45, 46, 47, 48, 49, 50, 51, 52, 53, 6, 54, 55, 56, 57, 58, 59, 60, 61, 62, 63, 64, 65, 66, 67, 68, 69, 70, 71, 72, 73, 74, 75, 76, 77, 78, 79, 80, 81, 82, 83, 84, 85, 86, 87, 88, 89, 90, 91, 92, 93, 94, 95, 96, 97, 98, 99, 100, 101, 102, 103, 104, 105, 106, 107, 108, 109, 110, 111, 112, 113, 114, 115, 116, 117, 118, 119, 120, 121, 122, 123, 124, 125, 126, 127, 128, 129, 130, 131, 132, 133, 134, 135, 136, 137, 138, 139, 140, 141, 142, 143, 144, 145, 146, 147, 148, 149, 150, 151, 152, 153, 154, 155, 156, 157, 158, 159, 160, 161, 162, 163, 164, 165, 166, 167, 168, 169, 170, 171, 172, 173, 174, 175, 176, 177, 178, 179, 180, 181, 182, 183, 184, 185, 186, 187, 188, 189, 190, 191, 192, 193, 194, 195, 196, 197, 198, 199, 200, 201, 202, 203, 204, 205, 206, 207, 208, 209, 210, 211, 212, 213, 214, 215, 216, 217, 218, 219, 220, 221, 222, 223, 224, 225, 226, 227, 228, 229, 230, 231, 232, 233, 234, 235, 236, 237, 238, 239, 240, 241, 242, 243, 244, 245, 246, 247, 248, 249, 250] rfl (by decide +kernel)
set_option maxRecDepth 20000 in
theorem gX7_step_X7_doStep : GoodIn wsX7_step (wsV RX7 229 RX7 yX7_doStep wsX7_doStep) := goodIn_app (goodIn_of _ (by decide +kernel)) ggX7_step_X7_doStep
def fw_dX7_step_0 : List (Nat × Instr × Nat) := [(0, .iload_n 1, 1), (1, .ifCond .ge 10, 3), (4, .aload_n 0, 1), (5, .bipush (-4), 2), (7, .invokevirtual 91, 3), (10, .ireturn, 1), (11, .iload_n 1, 1), (12, .ifCond .eq 10, 3), (15, .iload_n 1, 1), (16, .sipush 1000, 3), (19, .if_icmp .le 10, 3), (22, .aload_n 0, 1), (23, .bipush (-6), 2), (25, .invokevirtual 91, 3), (28, .ireturn, 1), (29, .iconst 0, 1), (30, .istore_n 2, 1), (31, .aload_n 0, 1), (32, .iconst 0, 1), (33, .putfield 226, 3), (36, .iconst 0, 1), (37, .istore_n 3, 1), (38, .iload_n 3, 1), (39, .iload_n 1, 1), (40, .if_icmp .ge 34, 3), (43, .aload_n 0, 1), (44, .getfield 226, 3), (47, .ifCond .ne 27, 3), (50, .aload_n 0, 1), (51, .aload_n 0, 1), (52, .invokevirtual 229, 3), (55, .putfield 226, 3), (58, .aload_n 0, 1), (59, .getfield 226, 3), (62, .ifCond .ne 6, 3)]
theorem fw_dX7_step_0_c : fchk 0 (cX7_step.data.toList.drop 0) fw_dX7_step_0 = true := by decide +kernel
theorem dX7_step_0 : decode cX7_step 0 = .ok (.iload_n 1, 1) := fchk_d fw_dX7_step_0_c (0, .iload_n 1, 1) (List.mem_of_getElem? (i := 0) rfl)
theorem dX7_step_1 : decode cX7_step 1 = .ok (.ifCond .ge 10, 3) := fchk_d fw_dX7_step_0_c (1, .ifCond .ge 10, 3) (List.mem_of_getElem? (i := 1) rfl)
theorem dX7_step_4 : decode cX7_step 4 = .ok (.aload_n 0, 1) := fchk_d fw_dX7_step_0_c (4, .aload_n 0, 1) (List.mem_of_getElem? (i := 2) rfl)
theorem dX7_step_5 : decode cX7_step 5 = .ok (.bipush (-4), 2) := fchk_d fw_dX7_step_0_c (5, .bipush (-4), 2) (List.mem_of_getElem? (i := 3) rfl)
theorem dX7_step_7 : decode cX7_step 7 = .ok (.invokevirtual 91, 3) := fchk_d fw_dX7_step_0_c (7, .invokevirtual 91, 3) (List.mem_of_getElem? (i := 4) rfl)
theorem dX7_step_10 : decode cX7_step 10 = .ok (.ireturn, 1) := fchk_d fw_dX7_step_0_c (10, .ireturn, 1) (List.mem_of_getElem? (i := 5) rfl)
theorem dX7_step_11 : decode cX7_step 11 = .ok (.iload_n 1, 1) := fchk_d fw_dX7_step_0_c (11, .iload_n 1, 1) (List.mem_of_getElem? (i := 6) rfl)
theorem dX7_step_12 : decode cX7_step 12 = .ok (.ifCond .eq 10, 3) := fchk_d fw_dX7_step_0_c (12, .ifCond .eq 10, 3) (List.mem_of_getElem? (i := 7) rfl)
theorem dX7_step_15 : decode cX7_step 15 = .ok (.iload_n 1, 1) := fchk_d fw_dX7_step_0_c (15, .iload_n 1, 1) (List.mem_of_getElem? (i := 8) rfl)
theorem dX7_step_16 : decode cX7_step 16 = .ok (.sipush 1000, 3) := fchk_d fw_dX7_step_0_c (16, .sipush 1000, 3) (List.mem_of_getElem? (i := 9) rfl)
theorem dX7_step_19 : decode cX7_step 19 = .ok (.if_icmp .le 10, 3) := fchk_d fw_dX7_step_0_c (19, .if_icmp .le 10, 3) (List.mem_of_getElem? (i := 10) rfl)
theorem dX7_step_22 : decode cX7_step 22 = .ok (.aload_n 0, 1) := fchk_d fw_dX7_step_0_c (22, .aload_n 0, 1) (List.mem_of_getElem? (i := 11) rfl)
theorem dX7_step_23 : decode cX7_step 23 = .ok (.bipush (-6), 2) := fchk_d fw_dX7_step_0_c (23, .bipush (-6), 2) (List.mem_of_getElem? (i := 12) rfl)
theorem dX7_step_25 : decode cX7_step 25 = .ok (.invokevirtual 91, 3) := fchk_d fw_dX7_step_0_c (25, .invokevirtual 91, 3) (List.mem_of_getElem? (i := 13) rfl)
theorem dX7_step_28 : decode cX7_step 28 = .ok (.ireturn, 1) := fchk_d fw_dX7_step_0_c (28, .ireturn, 1) (List.mem_of_getElem? (i := 14) rfl)
theorem dX7_step_29 : decode cX7_step 29 = .ok (.iconst 0, 1) := fchk_d fw_dX7_step_0_c (29, .iconst 0, 1) (List.mem_of_getElem? (i := 15) rfl)
theorem dX7_step_30 : decode cX7_step 30 = .ok (.istore_n 2, 1) := fchk_d fw_dX7_step_0_c (30, .istore_n 2, 1) (List.mem_of_getElem? (i := 16) rfl)
theorem dX7_step_31 : decode cX7_step 31 = .ok (.aload_n 0, 1) := fchk_d fw_dX7_step_0_c (31, .aload_n 0, 1) (List.mem_of_getElem? (i := 17) rfl)
theorem dX7_step_32 : decode cX7_step 32 = .ok (.iconst 0, 1) := fchk_d fw_dX7_step_0_c (32, .iconst 0, 1) (List.mem_of_getElem? (i := 18) rfl)
theorem dX7_step_33 : decode cX7_step 33 = .ok (.putfield 226, 3) := fchk_d fw_dX7_step_0_c (33, .putfield 226, 3) (List.mem_of_getElem? (i := 19) rfl)
theorem dX7_step_36 : decode cX7_step 36 = .ok (.iconst 0, 1) := fchk_d fw_dX7_step_0_c (36, .iconst 0, 1) (List.mem_of_getElem? (i := 20) rfl)
theorem dX7_step_37 : decode cX7_step 37 = .ok (.istore_n 3, 1) := fchk_d fw_dX7_step_0_c (37, .istore_n 3, 1) (List.mem_of_getElem? (i := 21) rfl)
theorem dX7_step_38 : decode cX7_step 38 = .ok (.iload_n 3, 1) := fchk_d fw_dX7_step_0_c (38, .iload_n 3, 1) (List.mem_of_getElem? (i := 22) rfl)
theorem dX7_step_39 : decode cX7_step 39 = .ok (.iload_n 1, 1) := fchk_d fw_dX7_step_0_c (39, .iload_n 1, 1) (List.mem_of_getElem? (i := 23) rfl)
theorem dX7_step_40 : decode cX7_step 40 = .ok (.if_icmp .ge 34, 3) := fchk_d fw_dX7_step_0_c (40, .if_icmp .ge 34, 3) (List.mem_of_getElem? (i := 24) rfl)
theorem dX7_step_43 : decode cX7_step 43 = .ok (.aload_n 0, 1) := fchk_d fw_dX7_step_0_c (43, .aload_n 0, 1) (List.mem_of_getElem? (i := 25) rfl)
theorem dX7_step_44 : decode cX7_step 44 = .ok (.getfield 226, 3) := fchk_d fw_dX7_step_0_c (44, .getfield 226, 3) (List.mem_of_getElem? (i := 26) rfl)
theorem dX7_step_47 : decode cX7_step 47 = .ok (.ifCond .ne 27, 3) := fchk_d fw_dX7_step_0_c (47, .ifCond .ne 27, 3) (List.mem_of_getElem? (i := 27) rfl)
theorem dX7_step_50 : decode cX7_step 50 = .ok (.aload_n 0, 1) := fchk_d fw_dX7_step_0_c (50, .aload_n 0, 1) (List.mem_of_getElem? (i := 28) rfl)
theorem dX7_step_51 : decode cX7_step 51 = .ok (.aload_n 0, 1) := fchk_d fw_dX7_step_0_c (51, .aload_n 0, 1) (List.mem_of_getElem? (i := 29) rfl)
theorem dX7_step_52 : decode cX7_step 52 = .ok (.invokevirtual 229, 3) := fchk_d fw_dX7_step_0_c (52, .invokevirtual 229, 3) (List.mem_of_getElem? (i := 30) rfl)
theorem dX7_step_55 : decode cX7_step 55 = .ok (.putfield 226, 3) := fchk_d fw_dX7_step_0_c (55, .putfield 226, 3) (List.mem_of_getElem? (i := 31) rfl)
theorem dX7_step_58 : decode cX7_step 58 = .ok (.aload_n 0, 1) := fchk_d fw_dX7_step_0_c (58, .aload_n 0, 1) (List.mem_of_getElem? (i := 32) rfl)
theorem dX7_step_59 : decode cX7_step 59 = .ok (.getfield 226, 3) := fchk_d fw_dX7_step_0_c (59, .getfield 226, 3) (List.mem_of_getElem? (i := 33) rfl)
theorem dX7_step_62 : decode cX7_step 62 = .ok (.ifCond .ne 6, 3) := fchk_d fw_dX7_step_0_c (62, .ifCond .ne 6, 3) (List.mem_of_getElem? (i := 34) rfl)
theorem dX7_step_65 : decode cX7_step 65 = .ok (.iinc 2 1, 3) := by decide +kernel
theorem dX7_step_68 : decode cX7_step 68 = .ok (.iinc 3 1, 3) := by decide +kernel
def fw_dX7_step_71 : List (Nat × Instr × Nat) := [(71, .goto (-33), 3), (74, .aload_n 0, 1), (75, .dup, 1), (76, .getfield 233, 3), (79, .iload_n 2, 1), (80, .iadd, 1), (81, .putfield 233, 3), (84, .iload_n 2, 1), (85, .ireturn, 1)]
theorem fw_dX7_step_71_c : fchk 71 (cX7_step.data.toList.drop 71) fw_dX7_step_71 = true := by decide +kernel
theorem dX7_step_71 : decode cX7_step 71 = .ok (.goto (-33), 3) := fchk_d fw_dX7_step_71_c (71, .goto (-33), 3) (List.mem_of_getElem? (i := 0) rfl)
theorem dX7_step_74 : decode cX7_step 74 = .ok (.aload_n 0, 1) := fchk_d fw_dX7_step_71_c (74, .aload_n 0, 1) (List.mem_of_getElem? (i := 1) rfl)
theorem dX7_step_75 : decode cX7_step 75 = .ok (.dup, 1) := fchk_d fw_dX7_step_71_c (75, .dup, 1) (List.mem_of_getElem? (i := 2) rfl)
theorem dX7_step_76 : decode cX7_step 76 = .ok (.getfield 233, 3) := fchk_d fw_dX7_step_71_c (76, .getfield 233, 3) (List.mem_of_getElem? (i := 3) rfl)
theorem dX7_step_79 : decode cX7_step 79 = .ok (.iload_n 2, 1) := fchk_d fw_dX7_step_71_c (79, .iload_n 2, 1) (List.mem_of_getElem? (i := 4) rfl)
theorem dX7_step_80 : decode cX7_step 80 = .ok (.iadd, 1) := fchk_d fw_dX7_step_71_c (80, .iadd, 1) (List.mem_of_getElem? (i := 5) rfl)
theorem dX7_step_81 : decode cX7_step 81 = .ok (.putfield 233, 3) := fchk_d fw_dX7_step_71_c (81, .putfield 233, 3) (List.mem_of_getElem? (i := 6) rfl)
theorem dX7_step_84 : decode cX7_step 84 = .ok (.iload_n 2, 1) := fchk_d fw_dX7_step_71_c (84, .iload_n 2, 1) (List.mem_of_getElem? (i := 7) rfl)
theorem dX7_step_85 : decode cX7_step 85 = .ok (.ireturn, 1) := fchk_d fw_dX7_step_71_c (85, .ireturn, 1) (List.mem_of_getElem? (i := 8) rfl)
set_option maxRecDepth 20000 in
theorem ggX7_count_X7_refuse : GoodIn wsX7_count wsX7_refuse := goodIn_r _ [8, 9, 10, 11, 12, 13, 14, 15, 16, 17, 18, 19, 20, 21, 22, 23, 24, 25] rfl (by decide +kernel)
set_option maxRecDepth 20000 in
theorem gX7_count_X7_refuse : GoodIn wsX7_count (wsV RX7 91 RX7 yX7_refuse wsX7_refuse) := goodIn_app (goodIn_of _ (by decide +kernel)) ggX7_count_X7_refuse
def fw_dX7_count_0 : List (Nat × Instr × Nat) := [(0, .iload_n 1, 1)]
theorem fw_dX7_count_0_c : fchk 0 (cX7_count.data.toList.drop 0) fw_dX7_count_0 = true := by decide +kernel
theorem dX7_count_0 : decode cX7_count 0 = .ok (.iload_n 1, 1) := fchk_d fw_dX7_count_0_c (0, .iload_n 1, 1) (List.mem_of_getElem? (i := 0) rfl)
theorem dX7_count_1 : decode cX7_count 1 = .ok (.tableswitch 42 0 2 #[27, 32, 37], 27) := by decide +kernel
def fw_dX7_count_28 : List (Nat × Instr × Nat) := [(28, .aload_n 0, 1), (29, .getfield 233, 3), (32, .ireturn, 1), (33, .aload_n 0, 1), (34, .getfield 236, 3), (37, .ireturn, 1), (38, .aload_n 0, 1), (39, .getfield 226, 3), (42, .ireturn, 1), (43, .aload_n 0, 1), (44, .bipush (-6), 2), (46, .invokevirtual 91, 3), (49, .ireturn, 1)]
theorem fw_dX7_count_28_c : fchk 28 (cX7_count.data.toList.drop 28) fw_dX7_count_28 = true := by decide +kernel
theorem dX7_count_28 : decode cX7_count 28 = .ok (.aload_n 0, 1) := fchk_d fw_dX7_count_28_c (28, .aload_n 0, 1) (List.mem_of_getElem? (i := 0) rfl)
theorem dX7_count_29 : decode cX7_count 29 = .ok (.getfield 233, 3) := fchk_d fw_dX7_count_28_c (29, .getfield 233, 3) (List.mem_of_getElem? (i := 1) rfl)
theorem dX7_count_32 : decode cX7_count 32 = .ok (.ireturn, 1) := fchk_d fw_dX7_count_28_c (32, .ireturn, 1) (List.mem_of_getElem? (i := 2) rfl)
theorem dX7_count_33 : decode cX7_count 33 = .ok (.aload_n 0, 1) := fchk_d fw_dX7_count_28_c (33, .aload_n 0, 1) (List.mem_of_getElem? (i := 3) rfl)
theorem dX7_count_34 : decode cX7_count 34 = .ok (.getfield 236, 3) := fchk_d fw_dX7_count_28_c (34, .getfield 236, 3) (List.mem_of_getElem? (i := 4) rfl)
theorem dX7_count_37 : decode cX7_count 37 = .ok (.ireturn, 1) := fchk_d fw_dX7_count_28_c (37, .ireturn, 1) (List.mem_of_getElem? (i := 5) rfl)
theorem dX7_count_38 : decode cX7_count 38 = .ok (.aload_n 0, 1) := fchk_d fw_dX7_count_28_c (38, .aload_n 0, 1) (List.mem_of_getElem? (i := 6) rfl)
theorem dX7_count_39 : decode cX7_count 39 = .ok (.getfield 226, 3) := fchk_d fw_dX7_count_28_c (39, .getfield 226, 3) (List.mem_of_getElem? (i := 7) rfl)
theorem dX7_count_42 : decode cX7_count 42 = .ok (.ireturn, 1) := fchk_d fw_dX7_count_28_c (42, .ireturn, 1) (List.mem_of_getElem? (i := 8) rfl)
theorem dX7_count_43 : decode cX7_count 43 = .ok (.aload_n 0, 1) := fchk_d fw_dX7_count_28_c (43, .aload_n 0, 1) (List.mem_of_getElem? (i := 9) rfl)
theorem dX7_count_44 : decode cX7_count 44 = .ok (.bipush (-6), 2) := fchk_d fw_dX7_count_28_c (44, .bipush (-6), 2) (List.mem_of_getElem? (i := 10) rfl)
theorem dX7_count_46 : decode cX7_count 46 = .ok (.invokevirtual 91, 3) := fchk_d fw_dX7_count_28_c (46, .invokevirtual 91, 3) (List.mem_of_getElem? (i := 11) rfl)
theorem dX7_count_49 : decode cX7_count 49 = .ok (.ireturn, 1) := fchk_d fw_dX7_count_28_c (49, .ireturn, 1) (List.mem_of_getElem? (i := 12) rfl)
def fw_dX7_image_0 : List (Nat × Instr × Nat) := [(0, .iconst 0, 1), (1, .istore_n 1, 1), (2, .iconst 0, 1), (3, .istore_n 2, 1), (4, .iload_n 2, 1), (5, .bipush 74, 2), (7, .if_icmp .ge 38, 3), (10, .aload_n 0, 1), (11, .getfield 66, 3), (14, .iload_n 2, 1), (15, .aload_n 0, 1), (16, .getfield 12, 3), (19, .getfield 98, 3), (22, .iload_n 2, 1), (23, .laload, 1), (24, .lastore, 1), (25, .aload_n 0, 1), (26, .getfield 66, 3), (29, .iload_n 2, 1), (30, .laload, 1), (31, .lconst 0, 1), (32, .lcmp, 1), (33, .ifCond .eq 6, 3)]
theorem fw_dX7_image_0_c : fchk 0 (cX7_image.data.toList.drop 0) fw_dX7_image_0 = true := by decide +kernel
theorem dX7_image_0 : decode cX7_image 0 = .ok (.iconst 0, 1) := fchk_d fw_dX7_image_0_c (0, .iconst 0, 1) (List.mem_of_getElem? (i := 0) rfl)
theorem dX7_image_1 : decode cX7_image 1 = .ok (.istore_n 1, 1) := fchk_d fw_dX7_image_0_c (1, .istore_n 1, 1) (List.mem_of_getElem? (i := 1) rfl)
theorem dX7_image_2 : decode cX7_image 2 = .ok (.iconst 0, 1) := fchk_d fw_dX7_image_0_c (2, .iconst 0, 1) (List.mem_of_getElem? (i := 2) rfl)
theorem dX7_image_3 : decode cX7_image 3 = .ok (.istore_n 2, 1) := fchk_d fw_dX7_image_0_c (3, .istore_n 2, 1) (List.mem_of_getElem? (i := 3) rfl)
theorem dX7_image_4 : decode cX7_image 4 = .ok (.iload_n 2, 1) := fchk_d fw_dX7_image_0_c (4, .iload_n 2, 1) (List.mem_of_getElem? (i := 4) rfl)
theorem dX7_image_5 : decode cX7_image 5 = .ok (.bipush 74, 2) := fchk_d fw_dX7_image_0_c (5, .bipush 74, 2) (List.mem_of_getElem? (i := 5) rfl)
theorem dX7_image_7 : decode cX7_image 7 = .ok (.if_icmp .ge 38, 3) := fchk_d fw_dX7_image_0_c (7, .if_icmp .ge 38, 3) (List.mem_of_getElem? (i := 6) rfl)
theorem dX7_image_10 : decode cX7_image 10 = .ok (.aload_n 0, 1) := fchk_d fw_dX7_image_0_c (10, .aload_n 0, 1) (List.mem_of_getElem? (i := 7) rfl)
theorem dX7_image_11 : decode cX7_image 11 = .ok (.getfield 66, 3) := fchk_d fw_dX7_image_0_c (11, .getfield 66, 3) (List.mem_of_getElem? (i := 8) rfl)
theorem dX7_image_14 : decode cX7_image 14 = .ok (.iload_n 2, 1) := fchk_d fw_dX7_image_0_c (14, .iload_n 2, 1) (List.mem_of_getElem? (i := 9) rfl)
theorem dX7_image_15 : decode cX7_image 15 = .ok (.aload_n 0, 1) := fchk_d fw_dX7_image_0_c (15, .aload_n 0, 1) (List.mem_of_getElem? (i := 10) rfl)
theorem dX7_image_16 : decode cX7_image 16 = .ok (.getfield 12, 3) := fchk_d fw_dX7_image_0_c (16, .getfield 12, 3) (List.mem_of_getElem? (i := 11) rfl)
theorem dX7_image_19 : decode cX7_image 19 = .ok (.getfield 98, 3) := fchk_d fw_dX7_image_0_c (19, .getfield 98, 3) (List.mem_of_getElem? (i := 12) rfl)
theorem dX7_image_22 : decode cX7_image 22 = .ok (.iload_n 2, 1) := fchk_d fw_dX7_image_0_c (22, .iload_n 2, 1) (List.mem_of_getElem? (i := 13) rfl)
theorem dX7_image_23 : decode cX7_image 23 = .ok (.laload, 1) := fchk_d fw_dX7_image_0_c (23, .laload, 1) (List.mem_of_getElem? (i := 14) rfl)
theorem dX7_image_24 : decode cX7_image 24 = .ok (.lastore, 1) := fchk_d fw_dX7_image_0_c (24, .lastore, 1) (List.mem_of_getElem? (i := 15) rfl)
theorem dX7_image_25 : decode cX7_image 25 = .ok (.aload_n 0, 1) := fchk_d fw_dX7_image_0_c (25, .aload_n 0, 1) (List.mem_of_getElem? (i := 16) rfl)
theorem dX7_image_26 : decode cX7_image 26 = .ok (.getfield 66, 3) := fchk_d fw_dX7_image_0_c (26, .getfield 66, 3) (List.mem_of_getElem? (i := 17) rfl)
theorem dX7_image_29 : decode cX7_image 29 = .ok (.iload_n 2, 1) := fchk_d fw_dX7_image_0_c (29, .iload_n 2, 1) (List.mem_of_getElem? (i := 18) rfl)
theorem dX7_image_30 : decode cX7_image 30 = .ok (.laload, 1) := fchk_d fw_dX7_image_0_c (30, .laload, 1) (List.mem_of_getElem? (i := 19) rfl)
theorem dX7_image_31 : decode cX7_image 31 = .ok (.lconst 0, 1) := fchk_d fw_dX7_image_0_c (31, .lconst 0, 1) (List.mem_of_getElem? (i := 20) rfl)
theorem dX7_image_32 : decode cX7_image 32 = .ok (.lcmp, 1) := fchk_d fw_dX7_image_0_c (32, .lcmp, 1) (List.mem_of_getElem? (i := 21) rfl)
theorem dX7_image_33 : decode cX7_image 33 = .ok (.ifCond .eq 6, 3) := fchk_d fw_dX7_image_0_c (33, .ifCond .eq 6, 3) (List.mem_of_getElem? (i := 22) rfl)
theorem dX7_image_36 : decode cX7_image 36 = .ok (.iinc 1 1, 3) := by decide +kernel
theorem dX7_image_39 : decode cX7_image 39 = .ok (.iinc 2 1, 3) := by decide +kernel
def fw_dX7_image_42 : List (Nat × Instr × Nat) := [(42, .goto (-38), 3), (45, .aload_n 0, 1), (46, .iconst 1, 1), (47, .putfield 239, 3), (50, .iload_n 1, 1), (51, .ireturn, 1)]
theorem fw_dX7_image_42_c : fchk 42 (cX7_image.data.toList.drop 42) fw_dX7_image_42 = true := by decide +kernel
theorem dX7_image_42 : decode cX7_image 42 = .ok (.goto (-38), 3) := fchk_d fw_dX7_image_42_c (42, .goto (-38), 3) (List.mem_of_getElem? (i := 0) rfl)
theorem dX7_image_45 : decode cX7_image 45 = .ok (.aload_n 0, 1) := fchk_d fw_dX7_image_42_c (45, .aload_n 0, 1) (List.mem_of_getElem? (i := 1) rfl)
theorem dX7_image_46 : decode cX7_image 46 = .ok (.iconst 1, 1) := fchk_d fw_dX7_image_42_c (46, .iconst 1, 1) (List.mem_of_getElem? (i := 2) rfl)
theorem dX7_image_47 : decode cX7_image 47 = .ok (.putfield 239, 3) := fchk_d fw_dX7_image_42_c (47, .putfield 239, 3) (List.mem_of_getElem? (i := 3) rfl)
theorem dX7_image_50 : decode cX7_image 50 = .ok (.iload_n 1, 1) := fchk_d fw_dX7_image_42_c (50, .iload_n 1, 1) (List.mem_of_getElem? (i := 4) rfl)
theorem dX7_image_51 : decode cX7_image 51 = .ok (.ireturn, 1) := fchk_d fw_dX7_image_42_c (51, .ireturn, 1) (List.mem_of_getElem? (i := 5) rfl)
set_option maxRecDepth 20000 in
theorem ggX7_restore_X7_refuse : GoodIn wsX7_restore wsX7_refuse := goodIn_r _ [8, 9, 21, 22, 23, 24, 25, 26, 27, 28, 29, 30, 31, 32, 33, 34, 35, 36] rfl (by decide +kernel)
set_option maxRecDepth 20000 in
theorem gX7_restore_X7_refuse : GoodIn wsX7_restore (wsV RX7 91 RX7 yX7_refuse wsX7_refuse) := goodIn_app (goodIn_of _ (by decide +kernel)) ggX7_restore_X7_refuse
set_option maxRecDepth 20000 in
theorem ggX7_restore_X2_put : GoodIn wsX7_restore wsX2_put := goodIn_r _ [14, 15, 16, 17, 18, 13, 19, 20, 37, 38, 39, 40, 41] rfl (by decide +kernel)
set_option maxRecDepth 20000 in
theorem gX7_restore_X2_put : GoodIn wsX7_restore (wsV RX7 101 RX2 yX2_put wsX2_put) := goodIn_app (goodIn_of _ (by decide +kernel)) ggX7_restore_X2_put
def fw_dX7_restore_0 : List (Nat × Instr × Nat) := [(0, .aload_n 0, 1), (1, .getfield 239, 3), (4, .ifCond .ne 10, 3), (7, .aload_n 0, 1), (8, .bipush (-2), 2), (10, .invokevirtual 91, 3), (13, .ireturn, 1), (14, .iconst 0, 1), (15, .istore_n 1, 1), (16, .iconst 0, 1), (17, .istore_n 2, 1), (18, .iload_n 2, 1), (19, .bipush 74, 2), (21, .if_icmp .ge 26, 3), (24, .iload_n 1, 1), (25, .aload_n 0, 1), (26, .getfield 12, 3), (29, .iload_n 2, 1), (30, .aload_n 0, 1), (31, .getfield 66, 3), (34, .iload_n 2, 1), (35, .laload, 1), (36, .invokevirtual 101, 3), (39, .iadd, 1), (40, .istore_n 1, 1)]
theorem fw_dX7_restore_0_c : fchk 0 (cX7_restore.data.toList.drop 0) fw_dX7_restore_0 = true := by decide +kernel
theorem dX7_restore_0 : decode cX7_restore 0 = .ok (.aload_n 0, 1) := fchk_d fw_dX7_restore_0_c (0, .aload_n 0, 1) (List.mem_of_getElem? (i := 0) rfl)
theorem dX7_restore_1 : decode cX7_restore 1 = .ok (.getfield 239, 3) := fchk_d fw_dX7_restore_0_c (1, .getfield 239, 3) (List.mem_of_getElem? (i := 1) rfl)
theorem dX7_restore_4 : decode cX7_restore 4 = .ok (.ifCond .ne 10, 3) := fchk_d fw_dX7_restore_0_c (4, .ifCond .ne 10, 3) (List.mem_of_getElem? (i := 2) rfl)
theorem dX7_restore_7 : decode cX7_restore 7 = .ok (.aload_n 0, 1) := fchk_d fw_dX7_restore_0_c (7, .aload_n 0, 1) (List.mem_of_getElem? (i := 3) rfl)
theorem dX7_restore_8 : decode cX7_restore 8 = .ok (.bipush (-2), 2) := fchk_d fw_dX7_restore_0_c (8, .bipush (-2), 2) (List.mem_of_getElem? (i := 4) rfl)
theorem dX7_restore_10 : decode cX7_restore 10 = .ok (.invokevirtual 91, 3) := fchk_d fw_dX7_restore_0_c (10, .invokevirtual 91, 3) (List.mem_of_getElem? (i := 5) rfl)
theorem dX7_restore_13 : decode cX7_restore 13 = .ok (.ireturn, 1) := fchk_d fw_dX7_restore_0_c (13, .ireturn, 1) (List.mem_of_getElem? (i := 6) rfl)
theorem dX7_restore_14 : decode cX7_restore 14 = .ok (.iconst 0, 1) := fchk_d fw_dX7_restore_0_c (14, .iconst 0, 1) (List.mem_of_getElem? (i := 7) rfl)
theorem dX7_restore_15 : decode cX7_restore 15 = .ok (.istore_n 1, 1) := fchk_d fw_dX7_restore_0_c (15, .istore_n 1, 1) (List.mem_of_getElem? (i := 8) rfl)
theorem dX7_restore_16 : decode cX7_restore 16 = .ok (.iconst 0, 1) := fchk_d fw_dX7_restore_0_c (16, .iconst 0, 1) (List.mem_of_getElem? (i := 9) rfl)
theorem dX7_restore_17 : decode cX7_restore 17 = .ok (.istore_n 2, 1) := fchk_d fw_dX7_restore_0_c (17, .istore_n 2, 1) (List.mem_of_getElem? (i := 10) rfl)
theorem dX7_restore_18 : decode cX7_restore 18 = .ok (.iload_n 2, 1) := fchk_d fw_dX7_restore_0_c (18, .iload_n 2, 1) (List.mem_of_getElem? (i := 11) rfl)
theorem dX7_restore_19 : decode cX7_restore 19 = .ok (.bipush 74, 2) := fchk_d fw_dX7_restore_0_c (19, .bipush 74, 2) (List.mem_of_getElem? (i := 12) rfl)
theorem dX7_restore_21 : decode cX7_restore 21 = .ok (.if_icmp .ge 26, 3) := fchk_d fw_dX7_restore_0_c (21, .if_icmp .ge 26, 3) (List.mem_of_getElem? (i := 13) rfl)
theorem dX7_restore_24 : decode cX7_restore 24 = .ok (.iload_n 1, 1) := fchk_d fw_dX7_restore_0_c (24, .iload_n 1, 1) (List.mem_of_getElem? (i := 14) rfl)
theorem dX7_restore_25 : decode cX7_restore 25 = .ok (.aload_n 0, 1) := fchk_d fw_dX7_restore_0_c (25, .aload_n 0, 1) (List.mem_of_getElem? (i := 15) rfl)
theorem dX7_restore_26 : decode cX7_restore 26 = .ok (.getfield 12, 3) := fchk_d fw_dX7_restore_0_c (26, .getfield 12, 3) (List.mem_of_getElem? (i := 16) rfl)
theorem dX7_restore_29 : decode cX7_restore 29 = .ok (.iload_n 2, 1) := fchk_d fw_dX7_restore_0_c (29, .iload_n 2, 1) (List.mem_of_getElem? (i := 17) rfl)
theorem dX7_restore_30 : decode cX7_restore 30 = .ok (.aload_n 0, 1) := fchk_d fw_dX7_restore_0_c (30, .aload_n 0, 1) (List.mem_of_getElem? (i := 18) rfl)
theorem dX7_restore_31 : decode cX7_restore 31 = .ok (.getfield 66, 3) := fchk_d fw_dX7_restore_0_c (31, .getfield 66, 3) (List.mem_of_getElem? (i := 19) rfl)
theorem dX7_restore_34 : decode cX7_restore 34 = .ok (.iload_n 2, 1) := fchk_d fw_dX7_restore_0_c (34, .iload_n 2, 1) (List.mem_of_getElem? (i := 20) rfl)
theorem dX7_restore_35 : decode cX7_restore 35 = .ok (.laload, 1) := fchk_d fw_dX7_restore_0_c (35, .laload, 1) (List.mem_of_getElem? (i := 21) rfl)
theorem dX7_restore_36 : decode cX7_restore 36 = .ok (.invokevirtual 101, 3) := fchk_d fw_dX7_restore_0_c (36, .invokevirtual 101, 3) (List.mem_of_getElem? (i := 22) rfl)
theorem dX7_restore_39 : decode cX7_restore 39 = .ok (.iadd, 1) := fchk_d fw_dX7_restore_0_c (39, .iadd, 1) (List.mem_of_getElem? (i := 23) rfl)
theorem dX7_restore_40 : decode cX7_restore 40 = .ok (.istore_n 1, 1) := fchk_d fw_dX7_restore_0_c (40, .istore_n 1, 1) (List.mem_of_getElem? (i := 24) rfl)
theorem dX7_restore_41 : decode cX7_restore 41 = .ok (.iinc 2 1, 3) := by decide +kernel
def fw_dX7_restore_44 : List (Nat × Instr × Nat) := [(44, .goto (-26), 3), (47, .iload_n 1, 1), (48, .ireturn, 1)]
theorem fw_dX7_restore_44_c : fchk 44 (cX7_restore.data.toList.drop 44) fw_dX7_restore_44 = true := by decide +kernel
theorem dX7_restore_44 : decode cX7_restore 44 = .ok (.goto (-26), 3) := fchk_d fw_dX7_restore_44_c (44, .goto (-26), 3) (List.mem_of_getElem? (i := 0) rfl)
theorem dX7_restore_47 : decode cX7_restore 47 = .ok (.iload_n 1, 1) := fchk_d fw_dX7_restore_44_c (47, .iload_n 1, 1) (List.mem_of_getElem? (i := 1) rfl)
theorem dX7_restore_48 : decode cX7_restore 48 = .ok (.ireturn, 1) := fchk_d fw_dX7_restore_44_c (48, .ireturn, 1) (List.mem_of_getElem? (i := 2) rfl)
set_option maxRecDepth 20000 in
theorem ggX7_lay_X7_refuse : GoodIn wsX7_lay wsX7_refuse := goodIn_r _ [9, 10, 11, 12, 13, 14, 15, 16, 17, 18, 19, 20, 21, 22, 23, 24, 25, 26] rfl (by decide +kernel)
set_option maxRecDepth 20000 in
theorem gX7_lay_X7_refuse : GoodIn wsX7_lay (wsV RX7 91 RX7 yX7_refuse wsX7_refuse) := goodIn_app (goodIn_of _ (by decide +kernel)) ggX7_lay_X7_refuse
def fw_dX7_lay_0 : List (Nat × Instr × Nat) := [(0, .iload_n 2, 1), (1, .ifCond .ge 10, 3), (4, .aload_n 0, 1), (5, .bipush (-4), 2), (7, .invokevirtual 91, 3), (10, .ireturn, 1), (11, .iload_n 2, 1), (12, .bipush 64, 2), (14, .if_icmp .gt 15, 3), (17, .iload_n 1, 1), (18, .ifCond .lt 11, 3), (21, .iload_n 1, 1), (22, .bipush 64, 2), (24, .iload_n 2, 1), (25, .isub, 1), (26, .if_icmp .le 10, 3), (29, .aload_n 0, 1), (30, .bipush (-3), 2), (32, .invokevirtual 91, 3), (35, .ireturn, 1), (36, .iconst 0, 1), (37, .istore_n 3, 1), (38, .iload_n 3, 1), (39, .iload_n 2, 1), (40, .if_icmp .ge 31, 3), (43, .aload_n 0, 1), (44, .getfield 70, 3), (47, .iload_n 3, 1), (48, .aload_n 0, 1), (49, .getfield 12, 3), (52, .getfield 98, 3), (55, .bipush 10, 2), (57, .iload_n 1, 1), (58, .iadd, 1), (59, .iload_n 3, 1), (60, .iadd, 1), (61, .laload, 1), (62, .l2i, 1), (63, .i2s, 1), (64, .sastore, 1)]
theorem fw_dX7_lay_0_c : fchk 0 (cX7_lay.data.toList.drop 0) fw_dX7_lay_0 = true := by decide +kernel
theorem dX7_lay_0 : decode cX7_lay 0 = .ok (.iload_n 2, 1) := fchk_d fw_dX7_lay_0_c (0, .iload_n 2, 1) (List.mem_of_getElem? (i := 0) rfl)
theorem dX7_lay_1 : decode cX7_lay 1 = .ok (.ifCond .ge 10, 3) := fchk_d fw_dX7_lay_0_c (1, .ifCond .ge 10, 3) (List.mem_of_getElem? (i := 1) rfl)
theorem dX7_lay_4 : decode cX7_lay 4 = .ok (.aload_n 0, 1) := fchk_d fw_dX7_lay_0_c (4, .aload_n 0, 1) (List.mem_of_getElem? (i := 2) rfl)
theorem dX7_lay_5 : decode cX7_lay 5 = .ok (.bipush (-4), 2) := fchk_d fw_dX7_lay_0_c (5, .bipush (-4), 2) (List.mem_of_getElem? (i := 3) rfl)
theorem dX7_lay_7 : decode cX7_lay 7 = .ok (.invokevirtual 91, 3) := fchk_d fw_dX7_lay_0_c (7, .invokevirtual 91, 3) (List.mem_of_getElem? (i := 4) rfl)
theorem dX7_lay_10 : decode cX7_lay 10 = .ok (.ireturn, 1) := fchk_d fw_dX7_lay_0_c (10, .ireturn, 1) (List.mem_of_getElem? (i := 5) rfl)
theorem dX7_lay_11 : decode cX7_lay 11 = .ok (.iload_n 2, 1) := fchk_d fw_dX7_lay_0_c (11, .iload_n 2, 1) (List.mem_of_getElem? (i := 6) rfl)
theorem dX7_lay_12 : decode cX7_lay 12 = .ok (.bipush 64, 2) := fchk_d fw_dX7_lay_0_c (12, .bipush 64, 2) (List.mem_of_getElem? (i := 7) rfl)
theorem dX7_lay_14 : decode cX7_lay 14 = .ok (.if_icmp .gt 15, 3) := fchk_d fw_dX7_lay_0_c (14, .if_icmp .gt 15, 3) (List.mem_of_getElem? (i := 8) rfl)
theorem dX7_lay_17 : decode cX7_lay 17 = .ok (.iload_n 1, 1) := fchk_d fw_dX7_lay_0_c (17, .iload_n 1, 1) (List.mem_of_getElem? (i := 9) rfl)
theorem dX7_lay_18 : decode cX7_lay 18 = .ok (.ifCond .lt 11, 3) := fchk_d fw_dX7_lay_0_c (18, .ifCond .lt 11, 3) (List.mem_of_getElem? (i := 10) rfl)
theorem dX7_lay_21 : decode cX7_lay 21 = .ok (.iload_n 1, 1) := fchk_d fw_dX7_lay_0_c (21, .iload_n 1, 1) (List.mem_of_getElem? (i := 11) rfl)
theorem dX7_lay_22 : decode cX7_lay 22 = .ok (.bipush 64, 2) := fchk_d fw_dX7_lay_0_c (22, .bipush 64, 2) (List.mem_of_getElem? (i := 12) rfl)
theorem dX7_lay_24 : decode cX7_lay 24 = .ok (.iload_n 2, 1) := fchk_d fw_dX7_lay_0_c (24, .iload_n 2, 1) (List.mem_of_getElem? (i := 13) rfl)
theorem dX7_lay_25 : decode cX7_lay 25 = .ok (.isub, 1) := fchk_d fw_dX7_lay_0_c (25, .isub, 1) (List.mem_of_getElem? (i := 14) rfl)
theorem dX7_lay_26 : decode cX7_lay 26 = .ok (.if_icmp .le 10, 3) := fchk_d fw_dX7_lay_0_c (26, .if_icmp .le 10, 3) (List.mem_of_getElem? (i := 15) rfl)
theorem dX7_lay_29 : decode cX7_lay 29 = .ok (.aload_n 0, 1) := fchk_d fw_dX7_lay_0_c (29, .aload_n 0, 1) (List.mem_of_getElem? (i := 16) rfl)
theorem dX7_lay_30 : decode cX7_lay 30 = .ok (.bipush (-3), 2) := fchk_d fw_dX7_lay_0_c (30, .bipush (-3), 2) (List.mem_of_getElem? (i := 17) rfl)
theorem dX7_lay_32 : decode cX7_lay 32 = .ok (.invokevirtual 91, 3) := fchk_d fw_dX7_lay_0_c (32, .invokevirtual 91, 3) (List.mem_of_getElem? (i := 18) rfl)
theorem dX7_lay_35 : decode cX7_lay 35 = .ok (.ireturn, 1) := fchk_d fw_dX7_lay_0_c (35, .ireturn, 1) (List.mem_of_getElem? (i := 19) rfl)
theorem dX7_lay_36 : decode cX7_lay 36 = .ok (.iconst 0, 1) := fchk_d fw_dX7_lay_0_c (36, .iconst 0, 1) (List.mem_of_getElem? (i := 20) rfl)
theorem dX7_lay_37 : decode cX7_lay 37 = .ok (.istore_n 3, 1) := fchk_d fw_dX7_lay_0_c (37, .istore_n 3, 1) (List.mem_of_getElem? (i := 21) rfl)
theorem dX7_lay_38 : decode cX7_lay 38 = .ok (.iload_n 3, 1) := fchk_d fw_dX7_lay_0_c (38, .iload_n 3, 1) (List.mem_of_getElem? (i := 22) rfl)
theorem dX7_lay_39 : decode cX7_lay 39 = .ok (.iload_n 2, 1) := fchk_d fw_dX7_lay_0_c (39, .iload_n 2, 1) (List.mem_of_getElem? (i := 23) rfl)
theorem dX7_lay_40 : decode cX7_lay 40 = .ok (.if_icmp .ge 31, 3) := fchk_d fw_dX7_lay_0_c (40, .if_icmp .ge 31, 3) (List.mem_of_getElem? (i := 24) rfl)
theorem dX7_lay_43 : decode cX7_lay 43 = .ok (.aload_n 0, 1) := fchk_d fw_dX7_lay_0_c (43, .aload_n 0, 1) (List.mem_of_getElem? (i := 25) rfl)
theorem dX7_lay_44 : decode cX7_lay 44 = .ok (.getfield 70, 3) := fchk_d fw_dX7_lay_0_c (44, .getfield 70, 3) (List.mem_of_getElem? (i := 26) rfl)
theorem dX7_lay_47 : decode cX7_lay 47 = .ok (.iload_n 3, 1) := fchk_d fw_dX7_lay_0_c (47, .iload_n 3, 1) (List.mem_of_getElem? (i := 27) rfl)
theorem dX7_lay_48 : decode cX7_lay 48 = .ok (.aload_n 0, 1) := fchk_d fw_dX7_lay_0_c (48, .aload_n 0, 1) (List.mem_of_getElem? (i := 28) rfl)
theorem dX7_lay_49 : decode cX7_lay 49 = .ok (.getfield 12, 3) := fchk_d fw_dX7_lay_0_c (49, .getfield 12, 3) (List.mem_of_getElem? (i := 29) rfl)
theorem dX7_lay_52 : decode cX7_lay 52 = .ok (.getfield 98, 3) := fchk_d fw_dX7_lay_0_c (52, .getfield 98, 3) (List.mem_of_getElem? (i := 30) rfl)
theorem dX7_lay_55 : decode cX7_lay 55 = .ok (.bipush 10, 2) := fchk_d fw_dX7_lay_0_c (55, .bipush 10, 2) (List.mem_of_getElem? (i := 31) rfl)
theorem dX7_lay_57 : decode cX7_lay 57 = .ok (.iload_n 1, 1) := fchk_d fw_dX7_lay_0_c (57, .iload_n 1, 1) (List.mem_of_getElem? (i := 32) rfl)
theorem dX7_lay_58 : decode cX7_lay 58 = .ok (.iadd, 1) := fchk_d fw_dX7_lay_0_c (58, .iadd, 1) (List.mem_of_getElem? (i := 33) rfl)
theorem dX7_lay_59 : decode cX7_lay 59 = .ok (.iload_n 3, 1) := fchk_d fw_dX7_lay_0_c (59, .iload_n 3, 1) (List.mem_of_getElem? (i := 34) rfl)
theorem dX7_lay_60 : decode cX7_lay 60 = .ok (.iadd, 1) := fchk_d fw_dX7_lay_0_c (60, .iadd, 1) (List.mem_of_getElem? (i := 35) rfl)
theorem dX7_lay_61 : decode cX7_lay 61 = .ok (.laload, 1) := fchk_d fw_dX7_lay_0_c (61, .laload, 1) (List.mem_of_getElem? (i := 36) rfl)
theorem dX7_lay_62 : decode cX7_lay 62 = .ok (.l2i, 1) := fchk_d fw_dX7_lay_0_c (62, .l2i, 1) (List.mem_of_getElem? (i := 37) rfl)
theorem dX7_lay_63 : decode cX7_lay 63 = .ok (.i2s, 1) := fchk_d fw_dX7_lay_0_c (63, .i2s, 1) (List.mem_of_getElem? (i := 38) rfl)
theorem dX7_lay_64 : decode cX7_lay 64 = .ok (.sastore, 1) := fchk_d fw_dX7_lay_0_c (64, .sastore, 1) (List.mem_of_getElem? (i := 39) rfl)
theorem dX7_lay_65 : decode cX7_lay 65 = .ok (.iinc 3 1, 3) := by decide +kernel
def fw_dX7_lay_68 : List (Nat × Instr × Nat) := [(68, .goto (-30), 3), (71, .aload_n 0, 1), (72, .iload_n 2, 1), (73, .putfield 83, 3), (76, .iload_n 2, 1), (77, .ireturn, 1)]
theorem fw_dX7_lay_68_c : fchk 68 (cX7_lay.data.toList.drop 68) fw_dX7_lay_68 = true := by decide +kernel
theorem dX7_lay_68 : decode cX7_lay 68 = .ok (.goto (-30), 3) := fchk_d fw_dX7_lay_68_c (68, .goto (-30), 3) (List.mem_of_getElem? (i := 0) rfl)
theorem dX7_lay_71 : decode cX7_lay 71 = .ok (.aload_n 0, 1) := fchk_d fw_dX7_lay_68_c (71, .aload_n 0, 1) (List.mem_of_getElem? (i := 1) rfl)
theorem dX7_lay_72 : decode cX7_lay 72 = .ok (.iload_n 2, 1) := fchk_d fw_dX7_lay_68_c (72, .iload_n 2, 1) (List.mem_of_getElem? (i := 2) rfl)
theorem dX7_lay_73 : decode cX7_lay 73 = .ok (.putfield 83, 3) := fchk_d fw_dX7_lay_68_c (73, .putfield 83, 3) (List.mem_of_getElem? (i := 3) rfl)
theorem dX7_lay_76 : decode cX7_lay 76 = .ok (.iload_n 2, 1) := fchk_d fw_dX7_lay_68_c (76, .iload_n 2, 1) (List.mem_of_getElem? (i := 4) rfl)
theorem dX7_lay_77 : decode cX7_lay 77 = .ok (.ireturn, 1) := fchk_d fw_dX7_lay_68_c (77, .ireturn, 1) (List.mem_of_getElem? (i := 5) rfl)
def fw_dX7_tear_0 : List (Nat × Instr × Nat) := [(0, .aload_n 0, 1), (1, .getfield 83, 3), (4, .iconst (-1), 1), (5, .if_icmp .ne 7, 3), (8, .iconst 0, 1), (9, .goto 4, 3), (12, .iconst 1, 1), (13, .istore_n 1, 1), (14, .aload_n 0, 1), (15, .iconst (-1), 1), (16, .putfield 83, 3), (19, .iload_n 1, 1), (20, .ireturn, 1)]
theorem fw_dX7_tear_0_c : fchk 0 (cX7_tear.data.toList.drop 0) fw_dX7_tear_0 = true := by decide +kernel
theorem dX7_tear_0 : decode cX7_tear 0 = .ok (.aload_n 0, 1) := fchk_d fw_dX7_tear_0_c (0, .aload_n 0, 1) (List.mem_of_getElem? (i := 0) rfl)
theorem dX7_tear_1 : decode cX7_tear 1 = .ok (.getfield 83, 3) := fchk_d fw_dX7_tear_0_c (1, .getfield 83, 3) (List.mem_of_getElem? (i := 1) rfl)
theorem dX7_tear_4 : decode cX7_tear 4 = .ok (.iconst (-1), 1) := fchk_d fw_dX7_tear_0_c (4, .iconst (-1), 1) (List.mem_of_getElem? (i := 2) rfl)
theorem dX7_tear_5 : decode cX7_tear 5 = .ok (.if_icmp .ne 7, 3) := fchk_d fw_dX7_tear_0_c (5, .if_icmp .ne 7, 3) (List.mem_of_getElem? (i := 3) rfl)
theorem dX7_tear_8 : decode cX7_tear 8 = .ok (.iconst 0, 1) := fchk_d fw_dX7_tear_0_c (8, .iconst 0, 1) (List.mem_of_getElem? (i := 4) rfl)
theorem dX7_tear_9 : decode cX7_tear 9 = .ok (.goto 4, 3) := fchk_d fw_dX7_tear_0_c (9, .goto 4, 3) (List.mem_of_getElem? (i := 5) rfl)
theorem dX7_tear_12 : decode cX7_tear 12 = .ok (.iconst 1, 1) := fchk_d fw_dX7_tear_0_c (12, .iconst 1, 1) (List.mem_of_getElem? (i := 6) rfl)
theorem dX7_tear_13 : decode cX7_tear 13 = .ok (.istore_n 1, 1) := fchk_d fw_dX7_tear_0_c (13, .istore_n 1, 1) (List.mem_of_getElem? (i := 7) rfl)
theorem dX7_tear_14 : decode cX7_tear 14 = .ok (.aload_n 0, 1) := fchk_d fw_dX7_tear_0_c (14, .aload_n 0, 1) (List.mem_of_getElem? (i := 8) rfl)
theorem dX7_tear_15 : decode cX7_tear 15 = .ok (.iconst (-1), 1) := fchk_d fw_dX7_tear_0_c (15, .iconst (-1), 1) (List.mem_of_getElem? (i := 9) rfl)
theorem dX7_tear_16 : decode cX7_tear 16 = .ok (.putfield 83, 3) := fchk_d fw_dX7_tear_0_c (16, .putfield 83, 3) (List.mem_of_getElem? (i := 10) rfl)
theorem dX7_tear_19 : decode cX7_tear 19 = .ok (.iload_n 1, 1) := fchk_d fw_dX7_tear_0_c (19, .iload_n 1, 1) (List.mem_of_getElem? (i := 11) rfl)
theorem dX7_tear_20 : decode cX7_tear 20 = .ok (.ireturn, 1) := fchk_d fw_dX7_tear_0_c (20, .ireturn, 1) (List.mem_of_getElem? (i := 12) rfl)
set_option maxRecDepth 20000 in
theorem ggX7_row_X7_refuse : GoodIn wsX7_row wsX7_refuse := goodIn_r _ [7, 8, 9, 10, 11, 12, 13, 14, 15, 16, 17, 18, 19, 20, 21, 22, 23, 24] rfl (by decide +kernel)
set_option maxRecDepth 20000 in
theorem gX7_row_X7_refuse : GoodIn wsX7_row (wsV RX7 91 RX7 yX7_refuse wsX7_refuse) := goodIn_app (goodIn_of _ (by decide +kernel)) ggX7_row_X7_refuse
def fw_dX7_row_0 : List (Nat × Instr × Nat) := [(0, .aload_n 0, 1), (1, .getfield 83, 3), (4, .iconst (-1), 1), (5, .if_icmp .ne 10, 3), (8, .aload_n 0, 1), (9, .bipush (-2), 2), (11, .invokevirtual 91, 3), (14, .ireturn, 1), (15, .iload_n 1, 1), (16, .ifCond .lt 11, 3), (19, .iload_n 1, 1), (20, .aload_n 0, 1), (21, .getfield 83, 3), (24, .if_icmp .lt 10, 3), (27, .aload_n 0, 1), (28, .bipush (-3), 2), (30, .invokevirtual 91, 3), (33, .ireturn, 1), (34, .aload_n 0, 1), (35, .getfield 70, 3), (38, .iload_n 1, 1), (39, .saload, 1), (40, .ireturn, 1)]
theorem fw_dX7_row_0_c : fchk 0 (cX7_row.data.toList.drop 0) fw_dX7_row_0 = true := by decide +kernel
theorem dX7_row_0 : decode cX7_row 0 = .ok (.aload_n 0, 1) := fchk_d fw_dX7_row_0_c (0, .aload_n 0, 1) (List.mem_of_getElem? (i := 0) rfl)
theorem dX7_row_1 : decode cX7_row 1 = .ok (.getfield 83, 3) := fchk_d fw_dX7_row_0_c (1, .getfield 83, 3) (List.mem_of_getElem? (i := 1) rfl)
theorem dX7_row_4 : decode cX7_row 4 = .ok (.iconst (-1), 1) := fchk_d fw_dX7_row_0_c (4, .iconst (-1), 1) (List.mem_of_getElem? (i := 2) rfl)
theorem dX7_row_5 : decode cX7_row 5 = .ok (.if_icmp .ne 10, 3) := fchk_d fw_dX7_row_0_c (5, .if_icmp .ne 10, 3) (List.mem_of_getElem? (i := 3) rfl)
theorem dX7_row_8 : decode cX7_row 8 = .ok (.aload_n 0, 1) := fchk_d fw_dX7_row_0_c (8, .aload_n 0, 1) (List.mem_of_getElem? (i := 4) rfl)
theorem dX7_row_9 : decode cX7_row 9 = .ok (.bipush (-2), 2) := fchk_d fw_dX7_row_0_c (9, .bipush (-2), 2) (List.mem_of_getElem? (i := 5) rfl)
theorem dX7_row_11 : decode cX7_row 11 = .ok (.invokevirtual 91, 3) := fchk_d fw_dX7_row_0_c (11, .invokevirtual 91, 3) (List.mem_of_getElem? (i := 6) rfl)
theorem dX7_row_14 : decode cX7_row 14 = .ok (.ireturn, 1) := fchk_d fw_dX7_row_0_c (14, .ireturn, 1) (List.mem_of_getElem? (i := 7) rfl)
theorem dX7_row_15 : decode cX7_row 15 = .ok (.iload_n 1, 1) := fchk_d fw_dX7_row_0_c (15, .iload_n 1, 1) (List.mem_of_getElem? (i := 8) rfl)
theorem dX7_row_16 : decode cX7_row 16 = .ok (.ifCond .lt 11, 3) := fchk_d fw_dX7_row_0_c (16, .ifCond .lt 11, 3) (List.mem_of_getElem? (i := 9) rfl)
theorem dX7_row_19 : decode cX7_row 19 = .ok (.iload_n 1, 1) := fchk_d fw_dX7_row_0_c (19, .iload_n 1, 1) (List.mem_of_getElem? (i := 10) rfl)
theorem dX7_row_20 : decode cX7_row 20 = .ok (.aload_n 0, 1) := fchk_d fw_dX7_row_0_c (20, .aload_n 0, 1) (List.mem_of_getElem? (i := 11) rfl)
theorem dX7_row_21 : decode cX7_row 21 = .ok (.getfield 83, 3) := fchk_d fw_dX7_row_0_c (21, .getfield 83, 3) (List.mem_of_getElem? (i := 12) rfl)
theorem dX7_row_24 : decode cX7_row 24 = .ok (.if_icmp .lt 10, 3) := fchk_d fw_dX7_row_0_c (24, .if_icmp .lt 10, 3) (List.mem_of_getElem? (i := 13) rfl)
theorem dX7_row_27 : decode cX7_row 27 = .ok (.aload_n 0, 1) := fchk_d fw_dX7_row_0_c (27, .aload_n 0, 1) (List.mem_of_getElem? (i := 14) rfl)
theorem dX7_row_28 : decode cX7_row 28 = .ok (.bipush (-3), 2) := fchk_d fw_dX7_row_0_c (28, .bipush (-3), 2) (List.mem_of_getElem? (i := 15) rfl)
theorem dX7_row_30 : decode cX7_row 30 = .ok (.invokevirtual 91, 3) := fchk_d fw_dX7_row_0_c (30, .invokevirtual 91, 3) (List.mem_of_getElem? (i := 16) rfl)
theorem dX7_row_33 : decode cX7_row 33 = .ok (.ireturn, 1) := fchk_d fw_dX7_row_0_c (33, .ireturn, 1) (List.mem_of_getElem? (i := 17) rfl)
theorem dX7_row_34 : decode cX7_row 34 = .ok (.aload_n 0, 1) := fchk_d fw_dX7_row_0_c (34, .aload_n 0, 1) (List.mem_of_getElem? (i := 18) rfl)
theorem dX7_row_35 : decode cX7_row 35 = .ok (.getfield 70, 3) := fchk_d fw_dX7_row_0_c (35, .getfield 70, 3) (List.mem_of_getElem? (i := 19) rfl)
theorem dX7_row_38 : decode cX7_row 38 = .ok (.iload_n 1, 1) := fchk_d fw_dX7_row_0_c (38, .iload_n 1, 1) (List.mem_of_getElem? (i := 20) rfl)
theorem dX7_row_39 : decode cX7_row 39 = .ok (.saload, 1) := fchk_d fw_dX7_row_0_c (39, .saload, 1) (List.mem_of_getElem? (i := 21) rfl)
theorem dX7_row_40 : decode cX7_row 40 = .ok (.ireturn, 1) := fchk_d fw_dX7_row_0_c (40, .ireturn, 1) (List.mem_of_getElem? (i := 22) rfl)
set_option maxRecDepth 20000 in
theorem ggX7_copy_X7_refuse : GoodIn wsX7_copy wsX7_refuse := goodIn_r _ [11, 12, 13, 14, 15, 16, 17, 18, 19, 20, 21, 22, 23, 24, 25, 26, 27, 28] rfl (by decide +kernel)
set_option maxRecDepth 20000 in
theorem gX7_copy_X7_refuse : GoodIn wsX7_copy (wsV RX7 91 RX7 yX7_refuse wsX7_refuse) := goodIn_app (goodIn_of _ (by decide +kernel)) ggX7_copy_X7_refuse
def fw_dX7_copy_0 : List (Nat × Instr × Nat) := [(0, .aload_n 0, 1), (1, .getfield 83, 3), (4, .iconst (-1), 1), (5, .if_icmp .ne 10, 3), (8, .aload_n 0, 1), (9, .bipush (-2), 2), (11, .invokevirtual 91, 3), (14, .ireturn, 1), (15, .iload_n 3, 1), (16, .ifCond .ge 10, 3), (19, .aload_n 0, 1), (20, .bipush (-4), 2), (22, .invokevirtual 91, 3), (25, .ireturn, 1), (26, .iload_n 3, 1), (27, .aload_n 0, 1), (28, .getfield 83, 3), (31, .if_icmp .gt 31, 3), (34, .iload_n 1, 1), (35, .ifCond .lt 27, 3), (38, .iload_n 1, 1), (39, .aload_n 0, 1), (40, .getfield 83, 3), (43, .iload_n 3, 1), (44, .isub, 1), (45, .if_icmp .gt 17, 3), (48, .iload_n 2, 1), (49, .ifCond .lt 13, 3), (52, .iload_n 2, 1), (53, .aload_n 0, 1), (54, .getfield 83, 3), (57, .iload_n 3, 1), (58, .isub, 1), (59, .if_icmp .le 10, 3), (62, .aload_n 0, 1), (63, .bipush (-5), 2), (65, .invokevirtual 91, 3), (68, .ireturn, 1), (69, .aload_n 0, 1), (70, .getfield 70, 3)]
theorem fw_dX7_copy_0_c : fchk 0 (cX7_copy.data.toList.drop 0) fw_dX7_copy_0 = true := by decide +kernel
theorem dX7_copy_0 : decode cX7_copy 0 = .ok (.aload_n 0, 1) := fchk_d fw_dX7_copy_0_c (0, .aload_n 0, 1) (List.mem_of_getElem? (i := 0) rfl)
theorem dX7_copy_1 : decode cX7_copy 1 = .ok (.getfield 83, 3) := fchk_d fw_dX7_copy_0_c (1, .getfield 83, 3) (List.mem_of_getElem? (i := 1) rfl)
theorem dX7_copy_4 : decode cX7_copy 4 = .ok (.iconst (-1), 1) := fchk_d fw_dX7_copy_0_c (4, .iconst (-1), 1) (List.mem_of_getElem? (i := 2) rfl)
theorem dX7_copy_5 : decode cX7_copy 5 = .ok (.if_icmp .ne 10, 3) := fchk_d fw_dX7_copy_0_c (5, .if_icmp .ne 10, 3) (List.mem_of_getElem? (i := 3) rfl)
theorem dX7_copy_8 : decode cX7_copy 8 = .ok (.aload_n 0, 1) := fchk_d fw_dX7_copy_0_c (8, .aload_n 0, 1) (List.mem_of_getElem? (i := 4) rfl)
theorem dX7_copy_9 : decode cX7_copy 9 = .ok (.bipush (-2), 2) := fchk_d fw_dX7_copy_0_c (9, .bipush (-2), 2) (List.mem_of_getElem? (i := 5) rfl)
theorem dX7_copy_11 : decode cX7_copy 11 = .ok (.invokevirtual 91, 3) := fchk_d fw_dX7_copy_0_c (11, .invokevirtual 91, 3) (List.mem_of_getElem? (i := 6) rfl)
theorem dX7_copy_14 : decode cX7_copy 14 = .ok (.ireturn, 1) := fchk_d fw_dX7_copy_0_c (14, .ireturn, 1) (List.mem_of_getElem? (i := 7) rfl)
theorem dX7_copy_15 : decode cX7_copy 15 = .ok (.iload_n 3, 1) := fchk_d fw_dX7_copy_0_c (15, .iload_n 3, 1) (List.mem_of_getElem? (i := 8) rfl)
theorem dX7_copy_16 : decode cX7_copy 16 = .ok (.ifCond .ge 10, 3) := fchk_d fw_dX7_copy_0_c (16, .ifCond .ge 10, 3) (List.mem_of_getElem? (i := 9) rfl)
theorem dX7_copy_19 : decode cX7_copy 19 = .ok (.aload_n 0, 1) := fchk_d fw_dX7_copy_0_c (19, .aload_n 0, 1) (List.mem_of_getElem? (i := 10) rfl)
theorem dX7_copy_20 : decode cX7_copy 20 = .ok (.bipush (-4), 2) := fchk_d fw_dX7_copy_0_c (20, .bipush (-4), 2) (List.mem_of_getElem? (i := 11) rfl)
theorem dX7_copy_22 : decode cX7_copy 22 = .ok (.invokevirtual 91, 3) := fchk_d fw_dX7_copy_0_c (22, .invokevirtual 91, 3) (List.mem_of_getElem? (i := 12) rfl)
theorem dX7_copy_25 : decode cX7_copy 25 = .ok (.ireturn, 1) := fchk_d fw_dX7_copy_0_c (25, .ireturn, 1) (List.mem_of_getElem? (i := 13) rfl)
theorem dX7_copy_26 : decode cX7_copy 26 = .ok (.iload_n 3, 1) := fchk_d fw_dX7_copy_0_c (26, .iload_n 3, 1) (List.mem_of_getElem? (i := 14) rfl)
theorem dX7_copy_27 : decode cX7_copy 27 = .ok (.aload_n 0, 1) := fchk_d fw_dX7_copy_0_c (27, .aload_n 0, 1) (List.mem_of_getElem? (i := 15) rfl)
theorem dX7_copy_28 : decode cX7_copy 28 = .ok (.getfield 83, 3) := fchk_d fw_dX7_copy_0_c (28, .getfield 83, 3) (List.mem_of_getElem? (i := 16) rfl)
theorem dX7_copy_31 : decode cX7_copy 31 = .ok (.if_icmp .gt 31, 3) := fchk_d fw_dX7_copy_0_c (31, .if_icmp .gt 31, 3) (List.mem_of_getElem? (i := 17) rfl)
theorem dX7_copy_34 : decode cX7_copy 34 = .ok (.iload_n 1, 1) := fchk_d fw_dX7_copy_0_c (34, .iload_n 1, 1) (List.mem_of_getElem? (i := 18) rfl)
theorem dX7_copy_35 : decode cX7_copy 35 = .ok (.ifCond .lt 27, 3) := fchk_d fw_dX7_copy_0_c (35, .ifCond .lt 27, 3) (List.mem_of_getElem? (i := 19) rfl)
theorem dX7_copy_38 : decode cX7_copy 38 = .ok (.iload_n 1, 1) := fchk_d fw_dX7_copy_0_c (38, .iload_n 1, 1) (List.mem_of_getElem? (i := 20) rfl)
theorem dX7_copy_39 : decode cX7_copy 39 = .ok (.aload_n 0, 1) := fchk_d fw_dX7_copy_0_c (39, .aload_n 0, 1) (List.mem_of_getElem? (i := 21) rfl)
theorem dX7_copy_40 : decode cX7_copy 40 = .ok (.getfield 83, 3) := fchk_d fw_dX7_copy_0_c (40, .getfield 83, 3) (List.mem_of_getElem? (i := 22) rfl)
theorem dX7_copy_43 : decode cX7_copy 43 = .ok (.iload_n 3, 1) := fchk_d fw_dX7_copy_0_c (43, .iload_n 3, 1) (List.mem_of_getElem? (i := 23) rfl)
theorem dX7_copy_44 : decode cX7_copy 44 = .ok (.isub, 1) := fchk_d fw_dX7_copy_0_c (44, .isub, 1) (List.mem_of_getElem? (i := 24) rfl)
theorem dX7_copy_45 : decode cX7_copy 45 = .ok (.if_icmp .gt 17, 3) := fchk_d fw_dX7_copy_0_c (45, .if_icmp .gt 17, 3) (List.mem_of_getElem? (i := 25) rfl)
theorem dX7_copy_48 : decode cX7_copy 48 = .ok (.iload_n 2, 1) := fchk_d fw_dX7_copy_0_c (48, .iload_n 2, 1) (List.mem_of_getElem? (i := 26) rfl)
theorem dX7_copy_49 : decode cX7_copy 49 = .ok (.ifCond .lt 13, 3) := fchk_d fw_dX7_copy_0_c (49, .ifCond .lt 13, 3) (List.mem_of_getElem? (i := 27) rfl)
theorem dX7_copy_52 : decode cX7_copy 52 = .ok (.iload_n 2, 1) := fchk_d fw_dX7_copy_0_c (52, .iload_n 2, 1) (List.mem_of_getElem? (i := 28) rfl)
theorem dX7_copy_53 : decode cX7_copy 53 = .ok (.aload_n 0, 1) := fchk_d fw_dX7_copy_0_c (53, .aload_n 0, 1) (List.mem_of_getElem? (i := 29) rfl)
theorem dX7_copy_54 : decode cX7_copy 54 = .ok (.getfield 83, 3) := fchk_d fw_dX7_copy_0_c (54, .getfield 83, 3) (List.mem_of_getElem? (i := 30) rfl)
theorem dX7_copy_57 : decode cX7_copy 57 = .ok (.iload_n 3, 1) := fchk_d fw_dX7_copy_0_c (57, .iload_n 3, 1) (List.mem_of_getElem? (i := 31) rfl)
theorem dX7_copy_58 : decode cX7_copy 58 = .ok (.isub, 1) := fchk_d fw_dX7_copy_0_c (58, .isub, 1) (List.mem_of_getElem? (i := 32) rfl)
theorem dX7_copy_59 : decode cX7_copy 59 = .ok (.if_icmp .le 10, 3) := fchk_d fw_dX7_copy_0_c (59, .if_icmp .le 10, 3) (List.mem_of_getElem? (i := 33) rfl)
theorem dX7_copy_62 : decode cX7_copy 62 = .ok (.aload_n 0, 1) := fchk_d fw_dX7_copy_0_c (62, .aload_n 0, 1) (List.mem_of_getElem? (i := 34) rfl)
theorem dX7_copy_63 : decode cX7_copy 63 = .ok (.bipush (-5), 2) := fchk_d fw_dX7_copy_0_c (63, .bipush (-5), 2) (List.mem_of_getElem? (i := 35) rfl)
theorem dX7_copy_65 : decode cX7_copy 65 = .ok (.invokevirtual 91, 3) := fchk_d fw_dX7_copy_0_c (65, .invokevirtual 91, 3) (List.mem_of_getElem? (i := 36) rfl)
theorem dX7_copy_68 : decode cX7_copy 68 = .ok (.ireturn, 1) := fchk_d fw_dX7_copy_0_c (68, .ireturn, 1) (List.mem_of_getElem? (i := 37) rfl)
theorem dX7_copy_69 : decode cX7_copy 69 = .ok (.aload_n 0, 1) := fchk_d fw_dX7_copy_0_c (69, .aload_n 0, 1) (List.mem_of_getElem? (i := 38) rfl)
theorem dX7_copy_70 : decode cX7_copy 70 = .ok (.getfield 70, 3) := fchk_d fw_dX7_copy_0_c (70, .getfield 70, 3) (List.mem_of_getElem? (i := 39) rfl)
def fw_dX7_copy_73 : List (Nat × Instr × Nat) := [(73, .iload_n 1, 1), (74, .aload_n 0, 1), (75, .getfield 70, 3), (78, .iload_n 2, 1), (79, .iload_n 3, 1), (80, .invokestatic 242, 3), (83, .iload_n 3, 1), (84, .ireturn, 1)]
theorem fw_dX7_copy_73_c : fchk 73 (cX7_copy.data.toList.drop 73) fw_dX7_copy_73 = true := by decide +kernel
theorem dX7_copy_73 : decode cX7_copy 73 = .ok (.iload_n 1, 1) := fchk_d fw_dX7_copy_73_c (73, .iload_n 1, 1) (List.mem_of_getElem? (i := 0) rfl)
theorem dX7_copy_74 : decode cX7_copy 74 = .ok (.aload_n 0, 1) := fchk_d fw_dX7_copy_73_c (74, .aload_n 0, 1) (List.mem_of_getElem? (i := 1) rfl)
theorem dX7_copy_75 : decode cX7_copy 75 = .ok (.getfield 70, 3) := fchk_d fw_dX7_copy_73_c (75, .getfield 70, 3) (List.mem_of_getElem? (i := 2) rfl)
theorem dX7_copy_78 : decode cX7_copy 78 = .ok (.iload_n 2, 1) := fchk_d fw_dX7_copy_73_c (78, .iload_n 2, 1) (List.mem_of_getElem? (i := 3) rfl)
theorem dX7_copy_79 : decode cX7_copy 79 = .ok (.iload_n 3, 1) := fchk_d fw_dX7_copy_73_c (79, .iload_n 3, 1) (List.mem_of_getElem? (i := 4) rfl)
theorem dX7_copy_80 : decode cX7_copy 80 = .ok (.invokestatic 242, 3) := fchk_d fw_dX7_copy_73_c (80, .invokestatic 242, 3) (List.mem_of_getElem? (i := 5) rfl)
theorem dX7_copy_83 : decode cX7_copy 83 = .ok (.iload_n 3, 1) := fchk_d fw_dX7_copy_73_c (83, .iload_n 3, 1) (List.mem_of_getElem? (i := 6) rfl)
theorem dX7_copy_84 : decode cX7_copy 84 = .ok (.ireturn, 1) := fchk_d fw_dX7_copy_73_c (84, .ireturn, 1) (List.mem_of_getElem? (i := 7) rfl)
set_option maxRecDepth 20000 in
theorem ggX7_status_X7_refuse : GoodIn wsX7_status wsX7_refuse := goodIn_r _ [6, 1, 7, 8, 9, 10, 11, 12, 13, 14, 15, 16, 17, 18, 19, 20, 21, 22] rfl (by decide +kernel)
set_option maxRecDepth 20000 in
theorem gX7_status_X7_refuse : GoodIn wsX7_status (wsV RX7 91 RX7 yX7_refuse wsX7_refuse) := goodIn_app (goodIn_of _ (by decide +kernel)) ggX7_status_X7_refuse
def fw_dX7_status_0 : List (Nat × Instr × Nat) := [(0, .iload_n 1, 1), (1, .bipush (-2), 2), (3, .if_icmp .gt 9, 3), (6, .iload_n 1, 1), (7, .bipush (-7), 2), (9, .if_icmp .ge 10, 3), (12, .aload_n 0, 1), (13, .bipush (-6), 2), (15, .invokevirtual 91, 3), (18, .ireturn, 1), (19, .aload_n 0, 1), (20, .getfield 74, 3), (23, .iload_n 1, 1), (24, .ineg, 1), (25, .iaload, 1), (26, .ireturn, 1)]
theorem fw_dX7_status_0_c : fchk 0 (cX7_status.data.toList.drop 0) fw_dX7_status_0 = true := by decide +kernel
theorem dX7_status_0 : decode cX7_status 0 = .ok (.iload_n 1, 1) := fchk_d fw_dX7_status_0_c (0, .iload_n 1, 1) (List.mem_of_getElem? (i := 0) rfl)
theorem dX7_status_1 : decode cX7_status 1 = .ok (.bipush (-2), 2) := fchk_d fw_dX7_status_0_c (1, .bipush (-2), 2) (List.mem_of_getElem? (i := 1) rfl)
theorem dX7_status_3 : decode cX7_status 3 = .ok (.if_icmp .gt 9, 3) := fchk_d fw_dX7_status_0_c (3, .if_icmp .gt 9, 3) (List.mem_of_getElem? (i := 2) rfl)
theorem dX7_status_6 : decode cX7_status 6 = .ok (.iload_n 1, 1) := fchk_d fw_dX7_status_0_c (6, .iload_n 1, 1) (List.mem_of_getElem? (i := 3) rfl)
theorem dX7_status_7 : decode cX7_status 7 = .ok (.bipush (-7), 2) := fchk_d fw_dX7_status_0_c (7, .bipush (-7), 2) (List.mem_of_getElem? (i := 4) rfl)
theorem dX7_status_9 : decode cX7_status 9 = .ok (.if_icmp .ge 10, 3) := fchk_d fw_dX7_status_0_c (9, .if_icmp .ge 10, 3) (List.mem_of_getElem? (i := 5) rfl)
theorem dX7_status_12 : decode cX7_status 12 = .ok (.aload_n 0, 1) := fchk_d fw_dX7_status_0_c (12, .aload_n 0, 1) (List.mem_of_getElem? (i := 6) rfl)
theorem dX7_status_13 : decode cX7_status 13 = .ok (.bipush (-6), 2) := fchk_d fw_dX7_status_0_c (13, .bipush (-6), 2) (List.mem_of_getElem? (i := 7) rfl)
theorem dX7_status_15 : decode cX7_status 15 = .ok (.invokevirtual 91, 3) := fchk_d fw_dX7_status_0_c (15, .invokevirtual 91, 3) (List.mem_of_getElem? (i := 8) rfl)
theorem dX7_status_18 : decode cX7_status 18 = .ok (.ireturn, 1) := fchk_d fw_dX7_status_0_c (18, .ireturn, 1) (List.mem_of_getElem? (i := 9) rfl)
theorem dX7_status_19 : decode cX7_status 19 = .ok (.aload_n 0, 1) := fchk_d fw_dX7_status_0_c (19, .aload_n 0, 1) (List.mem_of_getElem? (i := 10) rfl)
theorem dX7_status_20 : decode cX7_status 20 = .ok (.getfield 74, 3) := fchk_d fw_dX7_status_0_c (20, .getfield 74, 3) (List.mem_of_getElem? (i := 11) rfl)
theorem dX7_status_23 : decode cX7_status 23 = .ok (.iload_n 1, 1) := fchk_d fw_dX7_status_0_c (23, .iload_n 1, 1) (List.mem_of_getElem? (i := 12) rfl)
theorem dX7_status_24 : decode cX7_status 24 = .ok (.ineg, 1) := fchk_d fw_dX7_status_0_c (24, .ineg, 1) (List.mem_of_getElem? (i := 13) rfl)
theorem dX7_status_25 : decode cX7_status 25 = .ok (.iaload, 1) := fchk_d fw_dX7_status_0_c (25, .iaload, 1) (List.mem_of_getElem? (i := 14) rfl)
theorem dX7_status_26 : decode cX7_status 26 = .ok (.ireturn, 1) := fchk_d fw_dX7_status_0_c (26, .ireturn, 1) (List.mem_of_getElem? (i := 15) rfl)
def fw_dX7_refuse_0 : List (Nat × Instr × Nat) := [(0, .aload_n 0, 1), (1, .getfield 74, 3), (4, .iload_n 1, 1), (5, .ineg, 1), (6, .dup2, 1), (7, .iaload, 1), (8, .iconst 1, 1), (9, .iadd, 1), (10, .iastore, 1), (11, .iload_n 1, 1), (12, .ireturn, 1)]
theorem fw_dX7_refuse_0_c : fchk 0 (cX7_refuse.data.toList.drop 0) fw_dX7_refuse_0 = true := by decide +kernel
theorem dX7_refuse_0 : decode cX7_refuse 0 = .ok (.aload_n 0, 1) := fchk_d fw_dX7_refuse_0_c (0, .aload_n 0, 1) (List.mem_of_getElem? (i := 0) rfl)
theorem dX7_refuse_1 : decode cX7_refuse 1 = .ok (.getfield 74, 3) := fchk_d fw_dX7_refuse_0_c (1, .getfield 74, 3) (List.mem_of_getElem? (i := 1) rfl)
theorem dX7_refuse_4 : decode cX7_refuse 4 = .ok (.iload_n 1, 1) := fchk_d fw_dX7_refuse_0_c (4, .iload_n 1, 1) (List.mem_of_getElem? (i := 2) rfl)
theorem dX7_refuse_5 : decode cX7_refuse 5 = .ok (.ineg, 1) := fchk_d fw_dX7_refuse_0_c (5, .ineg, 1) (List.mem_of_getElem? (i := 3) rfl)
theorem dX7_refuse_6 : decode cX7_refuse 6 = .ok (.dup2, 1) := fchk_d fw_dX7_refuse_0_c (6, .dup2, 1) (List.mem_of_getElem? (i := 4) rfl)
theorem dX7_refuse_7 : decode cX7_refuse 7 = .ok (.iaload, 1) := fchk_d fw_dX7_refuse_0_c (7, .iaload, 1) (List.mem_of_getElem? (i := 5) rfl)
theorem dX7_refuse_8 : decode cX7_refuse 8 = .ok (.iconst 1, 1) := fchk_d fw_dX7_refuse_0_c (8, .iconst 1, 1) (List.mem_of_getElem? (i := 6) rfl)
theorem dX7_refuse_9 : decode cX7_refuse 9 = .ok (.iadd, 1) := fchk_d fw_dX7_refuse_0_c (9, .iadd, 1) (List.mem_of_getElem? (i := 7) rfl)
theorem dX7_refuse_10 : decode cX7_refuse 10 = .ok (.iastore, 1) := fchk_d fw_dX7_refuse_0_c (10, .iastore, 1) (List.mem_of_getElem? (i := 8) rfl)
theorem dX7_refuse_11 : decode cX7_refuse 11 = .ok (.iload_n 1, 1) := fchk_d fw_dX7_refuse_0_c (11, .iload_n 1, 1) (List.mem_of_getElem? (i := 9) rfl)
theorem dX7_refuse_12 : decode cX7_refuse 12 = .ok (.ireturn, 1) := fchk_d fw_dX7_refuse_0_c (12, .ireturn, 1) (List.mem_of_getElem? (i := 10) rfl)
set_option maxRecDepth 20000 in
theorem ggX7_hasAct_X7_isInstruction : GoodIn wsX7_hasAct wsX7_isInstruction := goodIn_r _ [6] rfl (by decide +kernel)
set_option maxRecDepth 20000 in
theorem gX7_hasAct_X7_isInstruction : GoodIn wsX7_hasAct (va_wsS RX7 111 yX7_isInstruction wsX7_isInstruction) := goodIn_app (goodIn_of _ (by decide +kernel)) ggX7_hasAct_X7_isInstruction
def fw_dX7_hasAct_0 : List (Nat × Instr × Nat) := [(0, .iload_n 1, 1), (1, .invokestatic 111, 3), (4, .ifCond .eq 24, 3), (7, .iload_n 2, 1), (8, .ifCond .lt 20, 3), (11, .iload_n 2, 1), (12, .aload_n 0, 1), (13, .getfield 19, 3), (16, .getfield 118, 3), (19, .iload_n 1, 1), (20, .iaload, 1), (21, .if_icmp .ge 7, 3), (24, .iconst 1, 1), (25, .goto 4, 3), (28, .iconst 0, 1), (29, .ireturn, 1)]
theorem fw_dX7_hasAct_0_c : fchk 0 (cX7_hasAct.data.toList.drop 0) fw_dX7_hasAct_0 = true := by decide +kernel
theorem dX7_hasAct_0 : decode cX7_hasAct 0 = .ok (.iload_n 1, 1) := fchk_d fw_dX7_hasAct_0_c (0, .iload_n 1, 1) (List.mem_of_getElem? (i := 0) rfl)
theorem dX7_hasAct_1 : decode cX7_hasAct 1 = .ok (.invokestatic 111, 3) := fchk_d fw_dX7_hasAct_0_c (1, .invokestatic 111, 3) (List.mem_of_getElem? (i := 1) rfl)
theorem dX7_hasAct_4 : decode cX7_hasAct 4 = .ok (.ifCond .eq 24, 3) := fchk_d fw_dX7_hasAct_0_c (4, .ifCond .eq 24, 3) (List.mem_of_getElem? (i := 2) rfl)
theorem dX7_hasAct_7 : decode cX7_hasAct 7 = .ok (.iload_n 2, 1) := fchk_d fw_dX7_hasAct_0_c (7, .iload_n 2, 1) (List.mem_of_getElem? (i := 3) rfl)
theorem dX7_hasAct_8 : decode cX7_hasAct 8 = .ok (.ifCond .lt 20, 3) := fchk_d fw_dX7_hasAct_0_c (8, .ifCond .lt 20, 3) (List.mem_of_getElem? (i := 4) rfl)
theorem dX7_hasAct_11 : decode cX7_hasAct 11 = .ok (.iload_n 2, 1) := fchk_d fw_dX7_hasAct_0_c (11, .iload_n 2, 1) (List.mem_of_getElem? (i := 5) rfl)
theorem dX7_hasAct_12 : decode cX7_hasAct 12 = .ok (.aload_n 0, 1) := fchk_d fw_dX7_hasAct_0_c (12, .aload_n 0, 1) (List.mem_of_getElem? (i := 6) rfl)
theorem dX7_hasAct_13 : decode cX7_hasAct 13 = .ok (.getfield 19, 3) := fchk_d fw_dX7_hasAct_0_c (13, .getfield 19, 3) (List.mem_of_getElem? (i := 7) rfl)
theorem dX7_hasAct_16 : decode cX7_hasAct 16 = .ok (.getfield 118, 3) := fchk_d fw_dX7_hasAct_0_c (16, .getfield 118, 3) (List.mem_of_getElem? (i := 8) rfl)
theorem dX7_hasAct_19 : decode cX7_hasAct 19 = .ok (.iload_n 1, 1) := fchk_d fw_dX7_hasAct_0_c (19, .iload_n 1, 1) (List.mem_of_getElem? (i := 9) rfl)
theorem dX7_hasAct_20 : decode cX7_hasAct 20 = .ok (.iaload, 1) := fchk_d fw_dX7_hasAct_0_c (20, .iaload, 1) (List.mem_of_getElem? (i := 10) rfl)
theorem dX7_hasAct_21 : decode cX7_hasAct 21 = .ok (.if_icmp .ge 7, 3) := fchk_d fw_dX7_hasAct_0_c (21, .if_icmp .ge 7, 3) (List.mem_of_getElem? (i := 11) rfl)
theorem dX7_hasAct_24 : decode cX7_hasAct 24 = .ok (.iconst 1, 1) := fchk_d fw_dX7_hasAct_0_c (24, .iconst 1, 1) (List.mem_of_getElem? (i := 12) rfl)
theorem dX7_hasAct_25 : decode cX7_hasAct 25 = .ok (.goto 4, 3) := fchk_d fw_dX7_hasAct_0_c (25, .goto 4, 3) (List.mem_of_getElem? (i := 13) rfl)
theorem dX7_hasAct_28 : decode cX7_hasAct 28 = .ok (.iconst 0, 1) := fchk_d fw_dX7_hasAct_0_c (28, .iconst 0, 1) (List.mem_of_getElem? (i := 14) rfl)
theorem dX7_hasAct_29 : decode cX7_hasAct 29 = .ok (.ireturn, 1) := fchk_d fw_dX7_hasAct_0_c (29, .ireturn, 1) (List.mem_of_getElem? (i := 15) rfl)
def fw_dX7_takeAwayPackedOf_0 : List (Nat × Instr × Nat) := [(0, .aload_n 0, 1), (1, .getfield 28, 3), (4, .getfield 172, 3), (7, .iload_n 1, 1), (8, .iconst 0, 1), (9, .bastore, 1), (10, .aload_n 0, 1), (11, .getfield 37, 3), (14, .iconst 0, 1), (15, .putfield 161, 3), (18, .return_, 1)]
theorem fw_dX7_takeAwayPackedOf_0_c : fchk 0 (cX7_takeAwayPackedOf.data.toList.drop 0) fw_dX7_takeAwayPackedOf_0 = true := by decide +kernel
theorem dX7_takeAwayPackedOf_0 : decode cX7_takeAwayPackedOf 0 = .ok (.aload_n 0, 1) := fchk_d fw_dX7_takeAwayPackedOf_0_c (0, .aload_n 0, 1) (List.mem_of_getElem? (i := 0) rfl)
theorem dX7_takeAwayPackedOf_1 : decode cX7_takeAwayPackedOf 1 = .ok (.getfield 28, 3) := fchk_d fw_dX7_takeAwayPackedOf_0_c (1, .getfield 28, 3) (List.mem_of_getElem? (i := 1) rfl)
theorem dX7_takeAwayPackedOf_4 : decode cX7_takeAwayPackedOf 4 = .ok (.getfield 172, 3) := fchk_d fw_dX7_takeAwayPackedOf_0_c (4, .getfield 172, 3) (List.mem_of_getElem? (i := 2) rfl)
theorem dX7_takeAwayPackedOf_7 : decode cX7_takeAwayPackedOf 7 = .ok (.iload_n 1, 1) := fchk_d fw_dX7_takeAwayPackedOf_0_c (7, .iload_n 1, 1) (List.mem_of_getElem? (i := 3) rfl)
theorem dX7_takeAwayPackedOf_8 : decode cX7_takeAwayPackedOf 8 = .ok (.iconst 0, 1) := fchk_d fw_dX7_takeAwayPackedOf_0_c (8, .iconst 0, 1) (List.mem_of_getElem? (i := 4) rfl)
theorem dX7_takeAwayPackedOf_9 : decode cX7_takeAwayPackedOf 9 = .ok (.bastore, 1) := fchk_d fw_dX7_takeAwayPackedOf_0_c (9, .bastore, 1) (List.mem_of_getElem? (i := 5) rfl)
theorem dX7_takeAwayPackedOf_10 : decode cX7_takeAwayPackedOf 10 = .ok (.aload_n 0, 1) := fchk_d fw_dX7_takeAwayPackedOf_0_c (10, .aload_n 0, 1) (List.mem_of_getElem? (i := 6) rfl)
theorem dX7_takeAwayPackedOf_11 : decode cX7_takeAwayPackedOf 11 = .ok (.getfield 37, 3) := fchk_d fw_dX7_takeAwayPackedOf_0_c (11, .getfield 37, 3) (List.mem_of_getElem? (i := 7) rfl)
theorem dX7_takeAwayPackedOf_14 : decode cX7_takeAwayPackedOf 14 = .ok (.iconst 0, 1) := fchk_d fw_dX7_takeAwayPackedOf_0_c (14, .iconst 0, 1) (List.mem_of_getElem? (i := 8) rfl)
theorem dX7_takeAwayPackedOf_15 : decode cX7_takeAwayPackedOf 15 = .ok (.putfield 161, 3) := fchk_d fw_dX7_takeAwayPackedOf_0_c (15, .putfield 161, 3) (List.mem_of_getElem? (i := 9) rfl)
theorem dX7_takeAwayPackedOf_18 : decode cX7_takeAwayPackedOf 18 = .ok (.return_, 1) := fchk_d fw_dX7_takeAwayPackedOf_0_c (18, .return_, 1) (List.mem_of_getElem? (i := 10) rfl)
def fw_dX7_keepTold_0 : List (Nat × Instr × Nat) := [(0, .aload_n 0, 1), (1, .getfield 59, 3), (4, .iconst 0, 1), (5, .aload_n 0, 1), (6, .getfield 55, 3), (9, .getfield 248, 3), (12, .iastore, 1), (13, .aload_n 0, 1), (14, .getfield 59, 3), (17, .iconst 1, 1), (18, .aload_n 0, 1), (19, .getfield 55, 3), (22, .getfield 251, 3), (25, .iastore, 1), (26, .aload_n 0, 1), (27, .getfield 59, 3), (30, .iconst 2, 1), (31, .aload_n 0, 1), (32, .getfield 55, 3), (35, .getfield 254, 3), (38, .iastore, 1), (39, .return_, 1)]
theorem fw_dX7_keepTold_0_c : fchk 0 (cX7_keepTold.data.toList.drop 0) fw_dX7_keepTold_0 = true := by decide +kernel
theorem dX7_keepTold_0 : decode cX7_keepTold 0 = .ok (.aload_n 0, 1) := fchk_d fw_dX7_keepTold_0_c (0, .aload_n 0, 1) (List.mem_of_getElem? (i := 0) rfl)
theorem dX7_keepTold_1 : decode cX7_keepTold 1 = .ok (.getfield 59, 3) := fchk_d fw_dX7_keepTold_0_c (1, .getfield 59, 3) (List.mem_of_getElem? (i := 1) rfl)
theorem dX7_keepTold_4 : decode cX7_keepTold 4 = .ok (.iconst 0, 1) := fchk_d fw_dX7_keepTold_0_c (4, .iconst 0, 1) (List.mem_of_getElem? (i := 2) rfl)
theorem dX7_keepTold_5 : decode cX7_keepTold 5 = .ok (.aload_n 0, 1) := fchk_d fw_dX7_keepTold_0_c (5, .aload_n 0, 1) (List.mem_of_getElem? (i := 3) rfl)
theorem dX7_keepTold_6 : decode cX7_keepTold 6 = .ok (.getfield 55, 3) := fchk_d fw_dX7_keepTold_0_c (6, .getfield 55, 3) (List.mem_of_getElem? (i := 4) rfl)
theorem dX7_keepTold_9 : decode cX7_keepTold 9 = .ok (.getfield 248, 3) := fchk_d fw_dX7_keepTold_0_c (9, .getfield 248, 3) (List.mem_of_getElem? (i := 5) rfl)
theorem dX7_keepTold_12 : decode cX7_keepTold 12 = .ok (.iastore, 1) := fchk_d fw_dX7_keepTold_0_c (12, .iastore, 1) (List.mem_of_getElem? (i := 6) rfl)
theorem dX7_keepTold_13 : decode cX7_keepTold 13 = .ok (.aload_n 0, 1) := fchk_d fw_dX7_keepTold_0_c (13, .aload_n 0, 1) (List.mem_of_getElem? (i := 7) rfl)
theorem dX7_keepTold_14 : decode cX7_keepTold 14 = .ok (.getfield 59, 3) := fchk_d fw_dX7_keepTold_0_c (14, .getfield 59, 3) (List.mem_of_getElem? (i := 8) rfl)
theorem dX7_keepTold_17 : decode cX7_keepTold 17 = .ok (.iconst 1, 1) := fchk_d fw_dX7_keepTold_0_c (17, .iconst 1, 1) (List.mem_of_getElem? (i := 9) rfl)
theorem dX7_keepTold_18 : decode cX7_keepTold 18 = .ok (.aload_n 0, 1) := fchk_d fw_dX7_keepTold_0_c (18, .aload_n 0, 1) (List.mem_of_getElem? (i := 10) rfl)
theorem dX7_keepTold_19 : decode cX7_keepTold 19 = .ok (.getfield 55, 3) := fchk_d fw_dX7_keepTold_0_c (19, .getfield 55, 3) (List.mem_of_getElem? (i := 11) rfl)
theorem dX7_keepTold_22 : decode cX7_keepTold 22 = .ok (.getfield 251, 3) := fchk_d fw_dX7_keepTold_0_c (22, .getfield 251, 3) (List.mem_of_getElem? (i := 12) rfl)
theorem dX7_keepTold_25 : decode cX7_keepTold 25 = .ok (.iastore, 1) := fchk_d fw_dX7_keepTold_0_c (25, .iastore, 1) (List.mem_of_getElem? (i := 13) rfl)
theorem dX7_keepTold_26 : decode cX7_keepTold 26 = .ok (.aload_n 0, 1) := fchk_d fw_dX7_keepTold_0_c (26, .aload_n 0, 1) (List.mem_of_getElem? (i := 14) rfl)
theorem dX7_keepTold_27 : decode cX7_keepTold 27 = .ok (.getfield 59, 3) := fchk_d fw_dX7_keepTold_0_c (27, .getfield 59, 3) (List.mem_of_getElem? (i := 15) rfl)
theorem dX7_keepTold_30 : decode cX7_keepTold 30 = .ok (.iconst 2, 1) := fchk_d fw_dX7_keepTold_0_c (30, .iconst 2, 1) (List.mem_of_getElem? (i := 16) rfl)
theorem dX7_keepTold_31 : decode cX7_keepTold 31 = .ok (.aload_n 0, 1) := fchk_d fw_dX7_keepTold_0_c (31, .aload_n 0, 1) (List.mem_of_getElem? (i := 17) rfl)
theorem dX7_keepTold_32 : decode cX7_keepTold 32 = .ok (.getfield 55, 3) := fchk_d fw_dX7_keepTold_0_c (32, .getfield 55, 3) (List.mem_of_getElem? (i := 18) rfl)
theorem dX7_keepTold_35 : decode cX7_keepTold 35 = .ok (.getfield 254, 3) := fchk_d fw_dX7_keepTold_0_c (35, .getfield 254, 3) (List.mem_of_getElem? (i := 19) rfl)
theorem dX7_keepTold_38 : decode cX7_keepTold 38 = .ok (.iastore, 1) := fchk_d fw_dX7_keepTold_0_c (38, .iastore, 1) (List.mem_of_getElem? (i := 20) rfl)
theorem dX7_keepTold_39 : decode cX7_keepTold 39 = .ok (.return_, 1) := fchk_d fw_dX7_keepTold_0_c (39, .return_, 1) (List.mem_of_getElem? (i := 21) rfl)
set_option maxRecDepth 20000 in
theorem ggX7_doStep_X3_make : GoodIn wsX7_doStep wsX3_make := goodIn_r _ [13, 14, 15, 16, 17, 18, 19, 20, 21, 22, 23, 24, 25, 26, 27, 28, 29, 30, 31, 32, 33, 34, 35, 36, 37, 38, 39, 40, 41, 42, 43, 44, 45, 46, 47, 48, 49, 50, 51, 52, 53, 54, 55, 56, 57, 58, 59, 60, 61, 62, 63, 64, 65, 66, 67, 68, 69, 70, 71, 72, 73, 74, 75, 76, 77, 78, 79, 80, 81, 82, 83, 84, 85, 86, 87, 88, 89, 90, 91, 92, 93, 94, 95, 96, 97, 98, 99, 206, 207, 208, 209, 210, 211, 212, 213, 214, 215, 216, 217, 218, 219, 220, 221, 222, 223, 224, 225, 226, 227, 228, 229] rfl (by decide +kernel)
set_option maxRecDepth 20000 in
theorem gX7_doStep_X3_make : GoodIn wsX7_doStep (wsV RX7 168 RX3 yX3_make wsX3_make) := goodIn_app (goodIn_of _ (by decide +kernel)) ggX7_doStep_X3_make
set_option maxRecDepth 20000 in
theorem ggX7_doStep_X2_put : GoodIn wsX7_doStep wsX2_put := goodIn_r _ [104, 105, 106, 107, 108, 103, 109, 110, 201, 202, 203, 204, 205] rfl (by decide +kernel)
set_option maxRecDepth 20000 in
theorem gX7_doStep_X2_put : GoodIn wsX7_doStep (wsV RX7 101 RX2 yX2_put wsX2_put) := goodIn_app (goodIn_of _ (by decide +kernel)) ggX7_doStep_X2_put
set_option maxRecDepth 20000 in
theorem ggX7_doStep_X0_perform : GoodIn wsX7_doStep wsX0_perform := goodIn_r _ [115, 116, 117, 118, 119, 120, 121, 122, 123, 124, 125, 126, 127, 103, 128, 129, 41, 42, 43, 130, 131, 132, 114, 133, 134, 135, 136, 86, 87, 137, 138, 139, 140, 141, 142, 143, 144, 145, 146, 147, 148, 149, 150, 151, 152, 153, 154, 155, 3, 156, 157, 158, 159, 160, 161, 162, 163, 164, 107, 108, 109, 110, 165, 166, 167, 168, 105, 169, 170, 171, 172, 173, 174, 175, 101, 102, 104, 106, 176, 80, 81, 82, 83, 84, 85, 230, 231, 232, 233, 234, 235, 236, 237, 238, 239, 206, 207, 208, 209, 210, 211, 212, 223, 224, 225, 226, 227, 228, 229, 201, 202, 203, 204, 205] rfl (by decide +kernel)
set_option maxRecDepth 20000 in
theorem gX7_doStep_X0_perform : GoodIn wsX7_doStep (wsV RX7 216 RX0 yX0_perform wsX0_perform) := goodIn_app (goodIn_of _ (by decide +kernel)) ggX7_doStep_X0_perform
set_option maxRecDepth 20000 in
theorem ggX7_doStep_X7_keepTold : GoodIn wsX7_doStep wsX7_keepTold := goodIn_r _ [180, 181, 7, 182, 183, 184, 185, 186, 187, 188, 189, 190, 191, 192, 193, 194, 195, 196, 197, 198, 199, 200, 230, 231, 232, 233, 234, 235, 236, 237, 238, 239] rfl (by decide +kernel)
set_option maxRecDepth 20000 in
theorem gX7_doStep_X7_keepTold : GoodIn wsX7_doStep (wsV RX7 220 RX7 yX7_keepTold wsX7_keepTold) := goodIn_app (goodIn_of _ (by decide +kernel)) ggX7_doStep_X7_keepTold
def fw_dX7_doStep_0 : List (Nat × Instr × Nat) := [(0, .aload_n 0, 1), (1, .getfield 12, 3), (4, .getfield 98, 3), (7, .bipush 7, 2), (9, .laload, 1), (10, .lstore_n 1, 1), (11, .lload_n 1, 1), (12, .ldc2_w 257, 3), (15, .lcmp, 1), (16, .ifCond .lt 5, 3), (19, .iconst 1, 1), (20, .ireturn, 1), (21, .aload_n 0, 1), (22, .getfield 63, 3), (25, .aload_n 0, 1), (26, .getfield 12, 3), (29, .getfield 98, 3), (32, .bipush 10, 2), (34, .lload_n 1, 1), (35, .l2i, 1), (36, .iadd, 1), (37, .laload, 1), (38, .ldc2_w 259, 3), (41, .lrem, 1), (42, .l2i, 1), (43, .iaload, 1), (44, .istore_n 3, 1), (45, .iload_n 3, 1), (46, .iconst (-1), 1), (47, .if_icmp .ne 5, 3), (50, .iconst 2, 1), (51, .ireturn, 1), (52, .aload_n 0, 1), (53, .getfield 28, 3), (56, .iload_n 3, 1), (57, .invokevirtual 168, 3), (60, .aload_n 0, 1), (61, .getfield 12, 3), (64, .bipush 7, 2), (66, .lload_n 1, 1)]
theorem fw_dX7_doStep_0_c : fchk 0 (cX7_doStep.data.toList.drop 0) fw_dX7_doStep_0 = true := by decide +kernel
theorem dX7_doStep_0 : decode cX7_doStep 0 = .ok (.aload_n 0, 1) := fchk_d fw_dX7_doStep_0_c (0, .aload_n 0, 1) (List.mem_of_getElem? (i := 0) rfl)
theorem dX7_doStep_1 : decode cX7_doStep 1 = .ok (.getfield 12, 3) := fchk_d fw_dX7_doStep_0_c (1, .getfield 12, 3) (List.mem_of_getElem? (i := 1) rfl)
theorem dX7_doStep_4 : decode cX7_doStep 4 = .ok (.getfield 98, 3) := fchk_d fw_dX7_doStep_0_c (4, .getfield 98, 3) (List.mem_of_getElem? (i := 2) rfl)
theorem dX7_doStep_7 : decode cX7_doStep 7 = .ok (.bipush 7, 2) := fchk_d fw_dX7_doStep_0_c (7, .bipush 7, 2) (List.mem_of_getElem? (i := 3) rfl)
theorem dX7_doStep_9 : decode cX7_doStep 9 = .ok (.laload, 1) := fchk_d fw_dX7_doStep_0_c (9, .laload, 1) (List.mem_of_getElem? (i := 4) rfl)
theorem dX7_doStep_10 : decode cX7_doStep 10 = .ok (.lstore_n 1, 1) := fchk_d fw_dX7_doStep_0_c (10, .lstore_n 1, 1) (List.mem_of_getElem? (i := 5) rfl)
theorem dX7_doStep_11 : decode cX7_doStep 11 = .ok (.lload_n 1, 1) := fchk_d fw_dX7_doStep_0_c (11, .lload_n 1, 1) (List.mem_of_getElem? (i := 6) rfl)
theorem dX7_doStep_12 : decode cX7_doStep 12 = .ok (.ldc2_w 257, 3) := fchk_d fw_dX7_doStep_0_c (12, .ldc2_w 257, 3) (List.mem_of_getElem? (i := 7) rfl)
theorem dX7_doStep_15 : decode cX7_doStep 15 = .ok (.lcmp, 1) := fchk_d fw_dX7_doStep_0_c (15, .lcmp, 1) (List.mem_of_getElem? (i := 8) rfl)
theorem dX7_doStep_16 : decode cX7_doStep 16 = .ok (.ifCond .lt 5, 3) := fchk_d fw_dX7_doStep_0_c (16, .ifCond .lt 5, 3) (List.mem_of_getElem? (i := 9) rfl)
theorem dX7_doStep_19 : decode cX7_doStep 19 = .ok (.iconst 1, 1) := fchk_d fw_dX7_doStep_0_c (19, .iconst 1, 1) (List.mem_of_getElem? (i := 10) rfl)
theorem dX7_doStep_20 : decode cX7_doStep 20 = .ok (.ireturn, 1) := fchk_d fw_dX7_doStep_0_c (20, .ireturn, 1) (List.mem_of_getElem? (i := 11) rfl)
theorem dX7_doStep_21 : decode cX7_doStep 21 = .ok (.aload_n 0, 1) := fchk_d fw_dX7_doStep_0_c (21, .aload_n 0, 1) (List.mem_of_getElem? (i := 12) rfl)
theorem dX7_doStep_22 : decode cX7_doStep 22 = .ok (.getfield 63, 3) := fchk_d fw_dX7_doStep_0_c (22, .getfield 63, 3) (List.mem_of_getElem? (i := 13) rfl)
theorem dX7_doStep_25 : decode cX7_doStep 25 = .ok (.aload_n 0, 1) := fchk_d fw_dX7_doStep_0_c (25, .aload_n 0, 1) (List.mem_of_getElem? (i := 14) rfl)
theorem dX7_doStep_26 : decode cX7_doStep 26 = .ok (.getfield 12, 3) := fchk_d fw_dX7_doStep_0_c (26, .getfield 12, 3) (List.mem_of_getElem? (i := 15) rfl)
theorem dX7_doStep_29 : decode cX7_doStep 29 = .ok (.getfield 98, 3) := fchk_d fw_dX7_doStep_0_c (29, .getfield 98, 3) (List.mem_of_getElem? (i := 16) rfl)
theorem dX7_doStep_32 : decode cX7_doStep 32 = .ok (.bipush 10, 2) := fchk_d fw_dX7_doStep_0_c (32, .bipush 10, 2) (List.mem_of_getElem? (i := 17) rfl)
theorem dX7_doStep_34 : decode cX7_doStep 34 = .ok (.lload_n 1, 1) := fchk_d fw_dX7_doStep_0_c (34, .lload_n 1, 1) (List.mem_of_getElem? (i := 18) rfl)
theorem dX7_doStep_35 : decode cX7_doStep 35 = .ok (.l2i, 1) := fchk_d fw_dX7_doStep_0_c (35, .l2i, 1) (List.mem_of_getElem? (i := 19) rfl)
theorem dX7_doStep_36 : decode cX7_doStep 36 = .ok (.iadd, 1) := fchk_d fw_dX7_doStep_0_c (36, .iadd, 1) (List.mem_of_getElem? (i := 20) rfl)
theorem dX7_doStep_37 : decode cX7_doStep 37 = .ok (.laload, 1) := fchk_d fw_dX7_doStep_0_c (37, .laload, 1) (List.mem_of_getElem? (i := 21) rfl)
theorem dX7_doStep_38 : decode cX7_doStep 38 = .ok (.ldc2_w 259, 3) := fchk_d fw_dX7_doStep_0_c (38, .ldc2_w 259, 3) (List.mem_of_getElem? (i := 22) rfl)
theorem dX7_doStep_41 : decode cX7_doStep 41 = .ok (.lrem, 1) := fchk_d fw_dX7_doStep_0_c (41, .lrem, 1) (List.mem_of_getElem? (i := 23) rfl)
theorem dX7_doStep_42 : decode cX7_doStep 42 = .ok (.l2i, 1) := fchk_d fw_dX7_doStep_0_c (42, .l2i, 1) (List.mem_of_getElem? (i := 24) rfl)
theorem dX7_doStep_43 : decode cX7_doStep 43 = .ok (.iaload, 1) := fchk_d fw_dX7_doStep_0_c (43, .iaload, 1) (List.mem_of_getElem? (i := 25) rfl)
theorem dX7_doStep_44 : decode cX7_doStep 44 = .ok (.istore_n 3, 1) := fchk_d fw_dX7_doStep_0_c (44, .istore_n 3, 1) (List.mem_of_getElem? (i := 26) rfl)
theorem dX7_doStep_45 : decode cX7_doStep 45 = .ok (.iload_n 3, 1) := fchk_d fw_dX7_doStep_0_c (45, .iload_n 3, 1) (List.mem_of_getElem? (i := 27) rfl)
theorem dX7_doStep_46 : decode cX7_doStep 46 = .ok (.iconst (-1), 1) := fchk_d fw_dX7_doStep_0_c (46, .iconst (-1), 1) (List.mem_of_getElem? (i := 28) rfl)
theorem dX7_doStep_47 : decode cX7_doStep 47 = .ok (.if_icmp .ne 5, 3) := fchk_d fw_dX7_doStep_0_c (47, .if_icmp .ne 5, 3) (List.mem_of_getElem? (i := 29) rfl)
theorem dX7_doStep_50 : decode cX7_doStep 50 = .ok (.iconst 2, 1) := fchk_d fw_dX7_doStep_0_c (50, .iconst 2, 1) (List.mem_of_getElem? (i := 30) rfl)
theorem dX7_doStep_51 : decode cX7_doStep 51 = .ok (.ireturn, 1) := fchk_d fw_dX7_doStep_0_c (51, .ireturn, 1) (List.mem_of_getElem? (i := 31) rfl)
theorem dX7_doStep_52 : decode cX7_doStep 52 = .ok (.aload_n 0, 1) := fchk_d fw_dX7_doStep_0_c (52, .aload_n 0, 1) (List.mem_of_getElem? (i := 32) rfl)
theorem dX7_doStep_53 : decode cX7_doStep 53 = .ok (.getfield 28, 3) := fchk_d fw_dX7_doStep_0_c (53, .getfield 28, 3) (List.mem_of_getElem? (i := 33) rfl)
theorem dX7_doStep_56 : decode cX7_doStep 56 = .ok (.iload_n 3, 1) := fchk_d fw_dX7_doStep_0_c (56, .iload_n 3, 1) (List.mem_of_getElem? (i := 34) rfl)
theorem dX7_doStep_57 : decode cX7_doStep 57 = .ok (.invokevirtual 168, 3) := fchk_d fw_dX7_doStep_0_c (57, .invokevirtual 168, 3) (List.mem_of_getElem? (i := 35) rfl)
theorem dX7_doStep_60 : decode cX7_doStep 60 = .ok (.aload_n 0, 1) := fchk_d fw_dX7_doStep_0_c (60, .aload_n 0, 1) (List.mem_of_getElem? (i := 36) rfl)
theorem dX7_doStep_61 : decode cX7_doStep 61 = .ok (.getfield 12, 3) := fchk_d fw_dX7_doStep_0_c (61, .getfield 12, 3) (List.mem_of_getElem? (i := 37) rfl)
theorem dX7_doStep_64 : decode cX7_doStep 64 = .ok (.bipush 7, 2) := fchk_d fw_dX7_doStep_0_c (64, .bipush 7, 2) (List.mem_of_getElem? (i := 38) rfl)
theorem dX7_doStep_66 : decode cX7_doStep 66 = .ok (.lload_n 1, 1) := fchk_d fw_dX7_doStep_0_c (66, .lload_n 1, 1) (List.mem_of_getElem? (i := 39) rfl)
def fw_dX7_doStep_67 : List (Nat × Instr × Nat) := [(67, .lconst 1, 1), (68, .ladd, 1), (69, .invokevirtual 101, 3), (72, .pop, 1), (73, .aload_n 0, 1), (74, .getfield 55, 3), (77, .iload_n 3, 1), (78, .iconst 1, 1), (79, .invokevirtual 216, 3), (82, .iconst 2, 1), (83, .if_icmp .ne 13, 3), (86, .aload_n 0, 1), (87, .dup, 1), (88, .getfield 236, 3), (91, .iconst 1, 1), (92, .iadd, 1), (93, .putfield 236, 3), (96, .aload_n 0, 1), (97, .invokevirtual 220, 3), (100, .iconst 0, 1), (101, .ireturn, 1)]
theorem fw_dX7_doStep_67_c : fchk 67 (cX7_doStep.data.toList.drop 67) fw_dX7_doStep_67 = true := by decide +kernel
theorem dX7_doStep_67 : decode cX7_doStep 67 = .ok (.lconst 1, 1) := fchk_d fw_dX7_doStep_67_c (67, .lconst 1, 1) (List.mem_of_getElem? (i := 0) rfl)
theorem dX7_doStep_68 : decode cX7_doStep 68 = .ok (.ladd, 1) := fchk_d fw_dX7_doStep_67_c (68, .ladd, 1) (List.mem_of_getElem? (i := 1) rfl)
theorem dX7_doStep_69 : decode cX7_doStep 69 = .ok (.invokevirtual 101, 3) := fchk_d fw_dX7_doStep_67_c (69, .invokevirtual 101, 3) (List.mem_of_getElem? (i := 2) rfl)
theorem dX7_doStep_72 : decode cX7_doStep 72 = .ok (.pop, 1) := fchk_d fw_dX7_doStep_67_c (72, .pop, 1) (List.mem_of_getElem? (i := 3) rfl)
theorem dX7_doStep_73 : decode cX7_doStep 73 = .ok (.aload_n 0, 1) := fchk_d fw_dX7_doStep_67_c (73, .aload_n 0, 1) (List.mem_of_getElem? (i := 4) rfl)
theorem dX7_doStep_74 : decode cX7_doStep 74 = .ok (.getfield 55, 3) := fchk_d fw_dX7_doStep_67_c (74, .getfield 55, 3) (List.mem_of_getElem? (i := 5) rfl)
theorem dX7_doStep_77 : decode cX7_doStep 77 = .ok (.iload_n 3, 1) := fchk_d fw_dX7_doStep_67_c (77, .iload_n 3, 1) (List.mem_of_getElem? (i := 6) rfl)
theorem dX7_doStep_78 : decode cX7_doStep 78 = .ok (.iconst 1, 1) := fchk_d fw_dX7_doStep_67_c (78, .iconst 1, 1) (List.mem_of_getElem? (i := 7) rfl)
theorem dX7_doStep_79 : decode cX7_doStep 79 = .ok (.invokevirtual 216, 3) := fchk_d fw_dX7_doStep_67_c (79, .invokevirtual 216, 3) (List.mem_of_getElem? (i := 8) rfl)
theorem dX7_doStep_82 : decode cX7_doStep 82 = .ok (.iconst 2, 1) := fchk_d fw_dX7_doStep_67_c (82, .iconst 2, 1) (List.mem_of_getElem? (i := 9) rfl)
theorem dX7_doStep_83 : decode cX7_doStep 83 = .ok (.if_icmp .ne 13, 3) := fchk_d fw_dX7_doStep_67_c (83, .if_icmp .ne 13, 3) (List.mem_of_getElem? (i := 10) rfl)
theorem dX7_doStep_86 : decode cX7_doStep 86 = .ok (.aload_n 0, 1) := fchk_d fw_dX7_doStep_67_c (86, .aload_n 0, 1) (List.mem_of_getElem? (i := 11) rfl)
theorem dX7_doStep_87 : decode cX7_doStep 87 = .ok (.dup, 1) := fchk_d fw_dX7_doStep_67_c (87, .dup, 1) (List.mem_of_getElem? (i := 12) rfl)
theorem dX7_doStep_88 : decode cX7_doStep 88 = .ok (.getfield 236, 3) := fchk_d fw_dX7_doStep_67_c (88, .getfield 236, 3) (List.mem_of_getElem? (i := 13) rfl)
theorem dX7_doStep_91 : decode cX7_doStep 91 = .ok (.iconst 1, 1) := fchk_d fw_dX7_doStep_67_c (91, .iconst 1, 1) (List.mem_of_getElem? (i := 14) rfl)
theorem dX7_doStep_92 : decode cX7_doStep 92 = .ok (.iadd, 1) := fchk_d fw_dX7_doStep_67_c (92, .iadd, 1) (List.mem_of_getElem? (i := 15) rfl)
theorem dX7_doStep_93 : decode cX7_doStep 93 = .ok (.putfield 236, 3) := fchk_d fw_dX7_doStep_67_c (93, .putfield 236, 3) (List.mem_of_getElem? (i := 16) rfl)
theorem dX7_doStep_96 : decode cX7_doStep 96 = .ok (.aload_n 0, 1) := fchk_d fw_dX7_doStep_67_c (96, .aload_n 0, 1) (List.mem_of_getElem? (i := 17) rfl)
theorem dX7_doStep_97 : decode cX7_doStep 97 = .ok (.invokevirtual 220, 3) := fchk_d fw_dX7_doStep_67_c (97, .invokevirtual 220, 3) (List.mem_of_getElem? (i := 18) rfl)
theorem dX7_doStep_100 : decode cX7_doStep 100 = .ok (.iconst 0, 1) := fchk_d fw_dX7_doStep_67_c (100, .iconst 0, 1) (List.mem_of_getElem? (i := 19) rfl)
theorem dX7_doStep_101 : decode cX7_doStep 101 = .ok (.ireturn, 1) := fchk_d fw_dX7_doStep_67_c (101, .ireturn, 1) (List.mem_of_getElem? (i := 20) rfl)
def fw_dX7_isRegister_0 : List (Nat × Instr × Nat) := [(0, .iload_n 0, 1), (1, .ifCond .lt 13, 3), (4, .iload_n 0, 1), (5, .bipush 8, 2), (7, .if_icmp .ge 7, 3), (10, .iconst 1, 1), (11, .goto 4, 3), (14, .iconst 0, 1), (15, .ireturn, 1)]
theorem fw_dX7_isRegister_0_c : fchk 0 (cX7_isRegister.data.toList.drop 0) fw_dX7_isRegister_0 = true := by decide +kernel
theorem dX7_isRegister_0 : decode cX7_isRegister 0 = .ok (.iload_n 0, 1) := fchk_d fw_dX7_isRegister_0_c (0, .iload_n 0, 1) (List.mem_of_getElem? (i := 0) rfl)
theorem dX7_isRegister_1 : decode cX7_isRegister 1 = .ok (.ifCond .lt 13, 3) := fchk_d fw_dX7_isRegister_0_c (1, .ifCond .lt 13, 3) (List.mem_of_getElem? (i := 1) rfl)
theorem dX7_isRegister_4 : decode cX7_isRegister 4 = .ok (.iload_n 0, 1) := fchk_d fw_dX7_isRegister_0_c (4, .iload_n 0, 1) (List.mem_of_getElem? (i := 2) rfl)
theorem dX7_isRegister_5 : decode cX7_isRegister 5 = .ok (.bipush 8, 2) := fchk_d fw_dX7_isRegister_0_c (5, .bipush 8, 2) (List.mem_of_getElem? (i := 3) rfl)
theorem dX7_isRegister_7 : decode cX7_isRegister 7 = .ok (.if_icmp .ge 7, 3) := fchk_d fw_dX7_isRegister_0_c (7, .if_icmp .ge 7, 3) (List.mem_of_getElem? (i := 4) rfl)
theorem dX7_isRegister_10 : decode cX7_isRegister 10 = .ok (.iconst 1, 1) := fchk_d fw_dX7_isRegister_0_c (10, .iconst 1, 1) (List.mem_of_getElem? (i := 5) rfl)
theorem dX7_isRegister_11 : decode cX7_isRegister 11 = .ok (.goto 4, 3) := fchk_d fw_dX7_isRegister_0_c (11, .goto 4, 3) (List.mem_of_getElem? (i := 6) rfl)
theorem dX7_isRegister_14 : decode cX7_isRegister 14 = .ok (.iconst 0, 1) := fchk_d fw_dX7_isRegister_0_c (14, .iconst 0, 1) (List.mem_of_getElem? (i := 7) rfl)
theorem dX7_isRegister_15 : decode cX7_isRegister 15 = .ok (.ireturn, 1) := fchk_d fw_dX7_isRegister_0_c (15, .ireturn, 1) (List.mem_of_getElem? (i := 8) rfl)
def fw_dX7_isCell_0 : List (Nat × Instr × Nat) := [(0, .lload_n 0, 1), (1, .lconst 0, 1), (2, .lcmp, 1), (3, .ifCond .lt 15, 3), (6, .lload_n 0, 1), (7, .ldc2_w 257, 3), (10, .lcmp, 1), (11, .ifCond .ge 7, 3), (14, .iconst 1, 1), (15, .goto 4, 3), (18, .iconst 0, 1), (19, .ireturn, 1)]
theorem fw_dX7_isCell_0_c : fchk 0 (cX7_isCell.data.toList.drop 0) fw_dX7_isCell_0 = true := by decide +kernel
theorem dX7_isCell_0 : decode cX7_isCell 0 = .ok (.lload_n 0, 1) := fchk_d fw_dX7_isCell_0_c (0, .lload_n 0, 1) (List.mem_of_getElem? (i := 0) rfl)
theorem dX7_isCell_1 : decode cX7_isCell 1 = .ok (.lconst 0, 1) := fchk_d fw_dX7_isCell_0_c (1, .lconst 0, 1) (List.mem_of_getElem? (i := 1) rfl)
theorem dX7_isCell_2 : decode cX7_isCell 2 = .ok (.lcmp, 1) := fchk_d fw_dX7_isCell_0_c (2, .lcmp, 1) (List.mem_of_getElem? (i := 2) rfl)
theorem dX7_isCell_3 : decode cX7_isCell 3 = .ok (.ifCond .lt 15, 3) := fchk_d fw_dX7_isCell_0_c (3, .ifCond .lt 15, 3) (List.mem_of_getElem? (i := 3) rfl)
theorem dX7_isCell_6 : decode cX7_isCell 6 = .ok (.lload_n 0, 1) := fchk_d fw_dX7_isCell_0_c (6, .lload_n 0, 1) (List.mem_of_getElem? (i := 4) rfl)
theorem dX7_isCell_7 : decode cX7_isCell 7 = .ok (.ldc2_w 257, 3) := fchk_d fw_dX7_isCell_0_c (7, .ldc2_w 257, 3) (List.mem_of_getElem? (i := 5) rfl)
theorem dX7_isCell_10 : decode cX7_isCell 10 = .ok (.lcmp, 1) := fchk_d fw_dX7_isCell_0_c (10, .lcmp, 1) (List.mem_of_getElem? (i := 6) rfl)
theorem dX7_isCell_11 : decode cX7_isCell 11 = .ok (.ifCond .ge 7, 3) := fchk_d fw_dX7_isCell_0_c (11, .ifCond .ge 7, 3) (List.mem_of_getElem? (i := 7) rfl)
theorem dX7_isCell_14 : decode cX7_isCell 14 = .ok (.iconst 1, 1) := fchk_d fw_dX7_isCell_0_c (14, .iconst 1, 1) (List.mem_of_getElem? (i := 8) rfl)
theorem dX7_isCell_15 : decode cX7_isCell 15 = .ok (.goto 4, 3) := fchk_d fw_dX7_isCell_0_c (15, .goto 4, 3) (List.mem_of_getElem? (i := 9) rfl)
theorem dX7_isCell_18 : decode cX7_isCell 18 = .ok (.iconst 0, 1) := fchk_d fw_dX7_isCell_0_c (18, .iconst 0, 1) (List.mem_of_getElem? (i := 10) rfl)
theorem dX7_isCell_19 : decode cX7_isCell 19 = .ok (.ireturn, 1) := fchk_d fw_dX7_isCell_0_c (19, .ireturn, 1) (List.mem_of_getElem? (i := 11) rfl)
def fw_dX7_isInstruction_0 : List (Nat × Instr × Nat) := [(0, .iload_n 0, 1), (1, .ifCond .lt 13, 3), (4, .iload_n 0, 1), (5, .bipush 12, 2), (7, .if_icmp .ge 7, 3), (10, .iconst 1, 1), (11, .goto 4, 3), (14, .iconst 0, 1), (15, .ireturn, 1)]
theorem fw_dX7_isInstruction_0_c : fchk 0 (cX7_isInstruction.data.toList.drop 0) fw_dX7_isInstruction_0 = true := by decide +kernel
theorem dX7_isInstruction_0 : decode cX7_isInstruction 0 = .ok (.iload_n 0, 1) := fchk_d fw_dX7_isInstruction_0_c (0, .iload_n 0, 1) (List.mem_of_getElem? (i := 0) rfl)
theorem dX7_isInstruction_1 : decode cX7_isInstruction 1 = .ok (.ifCond .lt 13, 3) := fchk_d fw_dX7_isInstruction_0_c (1, .ifCond .lt 13, 3) (List.mem_of_getElem? (i := 1) rfl)
theorem dX7_isInstruction_4 : decode cX7_isInstruction 4 = .ok (.iload_n 0, 1) := fchk_d fw_dX7_isInstruction_0_c (4, .iload_n 0, 1) (List.mem_of_getElem? (i := 2) rfl)
theorem dX7_isInstruction_5 : decode cX7_isInstruction 5 = .ok (.bipush 12, 2) := fchk_d fw_dX7_isInstruction_0_c (5, .bipush 12, 2) (List.mem_of_getElem? (i := 3) rfl)
theorem dX7_isInstruction_7 : decode cX7_isInstruction 7 = .ok (.if_icmp .ge 7, 3) := fchk_d fw_dX7_isInstruction_0_c (7, .if_icmp .ge 7, 3) (List.mem_of_getElem? (i := 4) rfl)
theorem dX7_isInstruction_10 : decode cX7_isInstruction 10 = .ok (.iconst 1, 1) := fchk_d fw_dX7_isInstruction_0_c (10, .iconst 1, 1) (List.mem_of_getElem? (i := 5) rfl)
theorem dX7_isInstruction_11 : decode cX7_isInstruction 11 = .ok (.goto 4, 3) := fchk_d fw_dX7_isInstruction_0_c (11, .goto 4, 3) (List.mem_of_getElem? (i := 6) rfl)
theorem dX7_isInstruction_14 : decode cX7_isInstruction 14 = .ok (.iconst 0, 1) := fchk_d fw_dX7_isInstruction_0_c (14, .iconst 0, 1) (List.mem_of_getElem? (i := 7) rfl)
theorem dX7_isInstruction_15 : decode cX7_isInstruction 15 = .ok (.ireturn, 1) := fchk_d fw_dX7_isInstruction_0_c (15, .ireturn, 1) (List.mem_of_getElem? (i := 8) rfl)
set_option maxRecDepth 20000 in
theorem ggX7_isAct_X7_isOfSort : GoodIn wsX7_isAct wsX7_isOfSort := goodIn_r _ [7, 8, 9] rfl (by decide +kernel)
set_option maxRecDepth 20000 in
theorem gX7_isAct_X7_isOfSort : GoodIn wsX7_isAct (va_wsS RX7 264 yX7_isOfSort wsX7_isOfSort) := goodIn_app (goodIn_of _ (by decide +kernel)) ggX7_isAct_X7_isOfSort
def fw_dX7_isAct_0 : List (Nat × Instr × Nat) := [(0, .iload_n 0, 1), (1, .ifCond .lt 49, 3), (4, .iload_n 0, 1), (5, .bipush 11, 2), (7, .if_icmp .ge 43, 3), (10, .getstatic 261, 3), (13, .iload_n 0, 1), (14, .iaload, 1), (15, .iload_n 1, 1), (16, .invokestatic 264, 3), (19, .ifCond .eq 31, 3), (22, .getstatic 267, 3), (25, .iload_n 0, 1), (26, .iaload, 1), (27, .iload_n 2, 1), (28, .invokestatic 264, 3), (31, .ifCond .eq 19, 3), (34, .getstatic 270, 3), (37, .iload_n 0, 1), (38, .iaload, 1), (39, .iload_n 3, 1), (40, .invokestatic 264, 3), (43, .ifCond .eq 7, 3), (46, .iconst 1, 1), (47, .goto 4, 3), (50, .iconst 0, 1), (51, .ireturn, 1)]
theorem fw_dX7_isAct_0_c : fchk 0 (cX7_isAct.data.toList.drop 0) fw_dX7_isAct_0 = true := by decide +kernel
theorem dX7_isAct_0 : decode cX7_isAct 0 = .ok (.iload_n 0, 1) := fchk_d fw_dX7_isAct_0_c (0, .iload_n 0, 1) (List.mem_of_getElem? (i := 0) rfl)
theorem dX7_isAct_1 : decode cX7_isAct 1 = .ok (.ifCond .lt 49, 3) := fchk_d fw_dX7_isAct_0_c (1, .ifCond .lt 49, 3) (List.mem_of_getElem? (i := 1) rfl)
theorem dX7_isAct_4 : decode cX7_isAct 4 = .ok (.iload_n 0, 1) := fchk_d fw_dX7_isAct_0_c (4, .iload_n 0, 1) (List.mem_of_getElem? (i := 2) rfl)
theorem dX7_isAct_5 : decode cX7_isAct 5 = .ok (.bipush 11, 2) := fchk_d fw_dX7_isAct_0_c (5, .bipush 11, 2) (List.mem_of_getElem? (i := 3) rfl)
theorem dX7_isAct_7 : decode cX7_isAct 7 = .ok (.if_icmp .ge 43, 3) := fchk_d fw_dX7_isAct_0_c (7, .if_icmp .ge 43, 3) (List.mem_of_getElem? (i := 4) rfl)
theorem dX7_isAct_10 : decode cX7_isAct 10 = .ok (.getstatic 261, 3) := fchk_d fw_dX7_isAct_0_c (10, .getstatic 261, 3) (List.mem_of_getElem? (i := 5) rfl)
theorem dX7_isAct_13 : decode cX7_isAct 13 = .ok (.iload_n 0, 1) := fchk_d fw_dX7_isAct_0_c (13, .iload_n 0, 1) (List.mem_of_getElem? (i := 6) rfl)
theorem dX7_isAct_14 : decode cX7_isAct 14 = .ok (.iaload, 1) := fchk_d fw_dX7_isAct_0_c (14, .iaload, 1) (List.mem_of_getElem? (i := 7) rfl)
theorem dX7_isAct_15 : decode cX7_isAct 15 = .ok (.iload_n 1, 1) := fchk_d fw_dX7_isAct_0_c (15, .iload_n 1, 1) (List.mem_of_getElem? (i := 8) rfl)
theorem dX7_isAct_16 : decode cX7_isAct 16 = .ok (.invokestatic 264, 3) := fchk_d fw_dX7_isAct_0_c (16, .invokestatic 264, 3) (List.mem_of_getElem? (i := 9) rfl)
theorem dX7_isAct_19 : decode cX7_isAct 19 = .ok (.ifCond .eq 31, 3) := fchk_d fw_dX7_isAct_0_c (19, .ifCond .eq 31, 3) (List.mem_of_getElem? (i := 10) rfl)
theorem dX7_isAct_22 : decode cX7_isAct 22 = .ok (.getstatic 267, 3) := fchk_d fw_dX7_isAct_0_c (22, .getstatic 267, 3) (List.mem_of_getElem? (i := 11) rfl)
theorem dX7_isAct_25 : decode cX7_isAct 25 = .ok (.iload_n 0, 1) := fchk_d fw_dX7_isAct_0_c (25, .iload_n 0, 1) (List.mem_of_getElem? (i := 12) rfl)
theorem dX7_isAct_26 : decode cX7_isAct 26 = .ok (.iaload, 1) := fchk_d fw_dX7_isAct_0_c (26, .iaload, 1) (List.mem_of_getElem? (i := 13) rfl)
theorem dX7_isAct_27 : decode cX7_isAct 27 = .ok (.iload_n 2, 1) := fchk_d fw_dX7_isAct_0_c (27, .iload_n 2, 1) (List.mem_of_getElem? (i := 14) rfl)
theorem dX7_isAct_28 : decode cX7_isAct 28 = .ok (.invokestatic 264, 3) := fchk_d fw_dX7_isAct_0_c (28, .invokestatic 264, 3) (List.mem_of_getElem? (i := 15) rfl)
theorem dX7_isAct_31 : decode cX7_isAct 31 = .ok (.ifCond .eq 19, 3) := fchk_d fw_dX7_isAct_0_c (31, .ifCond .eq 19, 3) (List.mem_of_getElem? (i := 16) rfl)
theorem dX7_isAct_34 : decode cX7_isAct 34 = .ok (.getstatic 270, 3) := fchk_d fw_dX7_isAct_0_c (34, .getstatic 270, 3) (List.mem_of_getElem? (i := 17) rfl)
theorem dX7_isAct_37 : decode cX7_isAct 37 = .ok (.iload_n 0, 1) := fchk_d fw_dX7_isAct_0_c (37, .iload_n 0, 1) (List.mem_of_getElem? (i := 18) rfl)
theorem dX7_isAct_38 : decode cX7_isAct 38 = .ok (.iaload, 1) := fchk_d fw_dX7_isAct_0_c (38, .iaload, 1) (List.mem_of_getElem? (i := 19) rfl)
theorem dX7_isAct_39 : decode cX7_isAct 39 = .ok (.iload_n 3, 1) := fchk_d fw_dX7_isAct_0_c (39, .iload_n 3, 1) (List.mem_of_getElem? (i := 20) rfl)
theorem dX7_isAct_40 : decode cX7_isAct 40 = .ok (.invokestatic 264, 3) := fchk_d fw_dX7_isAct_0_c (40, .invokestatic 264, 3) (List.mem_of_getElem? (i := 21) rfl)
theorem dX7_isAct_43 : decode cX7_isAct 43 = .ok (.ifCond .eq 7, 3) := fchk_d fw_dX7_isAct_0_c (43, .ifCond .eq 7, 3) (List.mem_of_getElem? (i := 22) rfl)
theorem dX7_isAct_46 : decode cX7_isAct 46 = .ok (.iconst 1, 1) := fchk_d fw_dX7_isAct_0_c (46, .iconst 1, 1) (List.mem_of_getElem? (i := 23) rfl)
theorem dX7_isAct_47 : decode cX7_isAct 47 = .ok (.goto 4, 3) := fchk_d fw_dX7_isAct_0_c (47, .goto 4, 3) (List.mem_of_getElem? (i := 24) rfl)
theorem dX7_isAct_50 : decode cX7_isAct 50 = .ok (.iconst 0, 1) := fchk_d fw_dX7_isAct_0_c (50, .iconst 0, 1) (List.mem_of_getElem? (i := 25) rfl)
theorem dX7_isAct_51 : decode cX7_isAct 51 = .ok (.ireturn, 1) := fchk_d fw_dX7_isAct_0_c (51, .ireturn, 1) (List.mem_of_getElem? (i := 26) rfl)
def fw_dX7_isOfSort_0 : List (Nat × Instr × Nat) := [(0, .iload_n 0, 1), (1, .ifCond .eq 21, 3), (4, .iload_n 1, 1), (5, .getstatic 273, 3), (8, .iload_n 0, 1), (9, .iaload, 1), (10, .if_icmp .lt 16, 3), (13, .iload_n 1, 1), (14, .getstatic 276, 3), (17, .iload_n 0, 1), (18, .iaload, 1), (19, .if_icmp .gt 7, 3), (22, .iconst 1, 1), (23, .goto 4, 3), (26, .iconst 0, 1), (27, .ireturn, 1)]
theorem fw_dX7_isOfSort_0_c : fchk 0 (cX7_isOfSort.data.toList.drop 0) fw_dX7_isOfSort_0 = true := by decide +kernel
theorem dX7_isOfSort_0 : decode cX7_isOfSort 0 = .ok (.iload_n 0, 1) := fchk_d fw_dX7_isOfSort_0_c (0, .iload_n 0, 1) (List.mem_of_getElem? (i := 0) rfl)
theorem dX7_isOfSort_1 : decode cX7_isOfSort 1 = .ok (.ifCond .eq 21, 3) := fchk_d fw_dX7_isOfSort_0_c (1, .ifCond .eq 21, 3) (List.mem_of_getElem? (i := 1) rfl)
theorem dX7_isOfSort_4 : decode cX7_isOfSort 4 = .ok (.iload_n 1, 1) := fchk_d fw_dX7_isOfSort_0_c (4, .iload_n 1, 1) (List.mem_of_getElem? (i := 2) rfl)
theorem dX7_isOfSort_5 : decode cX7_isOfSort 5 = .ok (.getstatic 273, 3) := fchk_d fw_dX7_isOfSort_0_c (5, .getstatic 273, 3) (List.mem_of_getElem? (i := 3) rfl)
theorem dX7_isOfSort_8 : decode cX7_isOfSort 8 = .ok (.iload_n 0, 1) := fchk_d fw_dX7_isOfSort_0_c (8, .iload_n 0, 1) (List.mem_of_getElem? (i := 4) rfl)
theorem dX7_isOfSort_9 : decode cX7_isOfSort 9 = .ok (.iaload, 1) := fchk_d fw_dX7_isOfSort_0_c (9, .iaload, 1) (List.mem_of_getElem? (i := 5) rfl)
theorem dX7_isOfSort_10 : decode cX7_isOfSort 10 = .ok (.if_icmp .lt 16, 3) := fchk_d fw_dX7_isOfSort_0_c (10, .if_icmp .lt 16, 3) (List.mem_of_getElem? (i := 6) rfl)
theorem dX7_isOfSort_13 : decode cX7_isOfSort 13 = .ok (.iload_n 1, 1) := fchk_d fw_dX7_isOfSort_0_c (13, .iload_n 1, 1) (List.mem_of_getElem? (i := 7) rfl)
theorem dX7_isOfSort_14 : decode cX7_isOfSort 14 = .ok (.getstatic 276, 3) := fchk_d fw_dX7_isOfSort_0_c (14, .getstatic 276, 3) (List.mem_of_getElem? (i := 8) rfl)
theorem dX7_isOfSort_17 : decode cX7_isOfSort 17 = .ok (.iload_n 0, 1) := fchk_d fw_dX7_isOfSort_0_c (17, .iload_n 0, 1) (List.mem_of_getElem? (i := 9) rfl)
theorem dX7_isOfSort_18 : decode cX7_isOfSort 18 = .ok (.iaload, 1) := fchk_d fw_dX7_isOfSort_0_c (18, .iaload, 1) (List.mem_of_getElem? (i := 10) rfl)
theorem dX7_isOfSort_19 : decode cX7_isOfSort 19 = .ok (.if_icmp .gt 7, 3) := fchk_d fw_dX7_isOfSort_0_c (19, .if_icmp .gt 7, 3) (List.mem_of_getElem? (i := 11) rfl)
theorem dX7_isOfSort_22 : decode cX7_isOfSort 22 = .ok (.iconst 1, 1) := fchk_d fw_dX7_isOfSort_0_c (22, .iconst 1, 1) (List.mem_of_getElem? (i := 12) rfl)
theorem dX7_isOfSort_23 : decode cX7_isOfSort 23 = .ok (.goto 4, 3) := fchk_d fw_dX7_isOfSort_0_c (23, .goto 4, 3) (List.mem_of_getElem? (i := 13) rfl)
theorem dX7_isOfSort_26 : decode cX7_isOfSort 26 = .ok (.iconst 0, 1) := fchk_d fw_dX7_isOfSort_0_c (26, .iconst 0, 1) (List.mem_of_getElem? (i := 14) rfl)
theorem dX7_isOfSort_27 : decode cX7_isOfSort 27 = .ok (.ireturn, 1) := fchk_d fw_dX7_isOfSort_0_c (27, .ireturn, 1) (List.mem_of_getElem? (i := 15) rfl)
def fw_dX7_slot_0 : List (Nat × Instr × Nat) := [(0, .iload_n 0, 1), (1, .bipush 10, 2), (3, .imul, 1), (4, .iload_n 1, 1), (5, .iadd, 1), (6, .ireturn, 1)]
theorem fw_dX7_slot_0_c : fchk 0 (cX7_slot.data.toList.drop 0) fw_dX7_slot_0 = true := by decide +kernel
theorem dX7_slot_0 : decode cX7_slot 0 = .ok (.iload_n 0, 1) := fchk_d fw_dX7_slot_0_c (0, .iload_n 0, 1) (List.mem_of_getElem? (i := 0) rfl)
theorem dX7_slot_1 : decode cX7_slot 1 = .ok (.bipush 10, 2) := fchk_d fw_dX7_slot_0_c (1, .bipush 10, 2) (List.mem_of_getElem? (i := 1) rfl)
theorem dX7_slot_3 : decode cX7_slot 3 = .ok (.imul, 1) := fchk_d fw_dX7_slot_0_c (3, .imul, 1) (List.mem_of_getElem? (i := 2) rfl)
theorem dX7_slot_4 : decode cX7_slot 4 = .ok (.iload_n 1, 1) := fchk_d fw_dX7_slot_0_c (4, .iload_n 1, 1) (List.mem_of_getElem? (i := 3) rfl)
theorem dX7_slot_5 : decode cX7_slot 5 = .ok (.iadd, 1) := fchk_d fw_dX7_slot_0_c (5, .iadd, 1) (List.mem_of_getElem? (i := 4) rfl)
theorem dX7_slot_6 : decode cX7_slot 6 = .ok (.ireturn, 1) := fchk_d fw_dX7_slot_0_c (6, .ireturn, 1) (List.mem_of_getElem? (i := 5) rfl)
def fw_dX7_isIn_0 : List (Nat × Instr × Nat) := [(0, .iload_n 0, 1), (1, .iload_n 1, 1), (2, .ishr, 1), (3, .iconst 1, 1), (4, .iand, 1), (5, .ifCond .eq 7, 3), (8, .iconst 1, 1), (9, .goto 4, 3), (12, .iconst 0, 1), (13, .ireturn, 1)]
theorem fw_dX7_isIn_0_c : fchk 0 (cX7_isIn.data.toList.drop 0) fw_dX7_isIn_0 = true := by decide +kernel
theorem dX7_isIn_0 : decode cX7_isIn 0 = .ok (.iload_n 0, 1) := fchk_d fw_dX7_isIn_0_c (0, .iload_n 0, 1) (List.mem_of_getElem? (i := 0) rfl)
theorem dX7_isIn_1 : decode cX7_isIn 1 = .ok (.iload_n 1, 1) := fchk_d fw_dX7_isIn_0_c (1, .iload_n 1, 1) (List.mem_of_getElem? (i := 1) rfl)
theorem dX7_isIn_2 : decode cX7_isIn 2 = .ok (.ishr, 1) := fchk_d fw_dX7_isIn_0_c (2, .ishr, 1) (List.mem_of_getElem? (i := 2) rfl)
theorem dX7_isIn_3 : decode cX7_isIn 3 = .ok (.iconst 1, 1) := fchk_d fw_dX7_isIn_0_c (3, .iconst 1, 1) (List.mem_of_getElem? (i := 3) rfl)
theorem dX7_isIn_4 : decode cX7_isIn 4 = .ok (.iand, 1) := fchk_d fw_dX7_isIn_0_c (4, .iand, 1) (List.mem_of_getElem? (i := 4) rfl)
theorem dX7_isIn_5 : decode cX7_isIn 5 = .ok (.ifCond .eq 7, 3) := fchk_d fw_dX7_isIn_0_c (5, .ifCond .eq 7, 3) (List.mem_of_getElem? (i := 5) rfl)
theorem dX7_isIn_8 : decode cX7_isIn 8 = .ok (.iconst 1, 1) := fchk_d fw_dX7_isIn_0_c (8, .iconst 1, 1) (List.mem_of_getElem? (i := 6) rfl)
theorem dX7_isIn_9 : decode cX7_isIn 9 = .ok (.goto 4, 3) := fchk_d fw_dX7_isIn_0_c (9, .goto 4, 3) (List.mem_of_getElem? (i := 7) rfl)
theorem dX7_isIn_12 : decode cX7_isIn 12 = .ok (.iconst 0, 1) := fchk_d fw_dX7_isIn_0_c (12, .iconst 0, 1) (List.mem_of_getElem? (i := 8) rfl)
theorem dX7_isIn_13 : decode cX7_isIn 13 = .ok (.ireturn, 1) := fchk_d fw_dX7_isIn_0_c (13, .ireturn, 1) (List.mem_of_getElem? (i := 9) rfl)
