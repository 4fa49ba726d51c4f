def fw_dX0_init_0 : List (Nat × Instr × Nat) := [(0, .aload_n 0, 1), (1, .invokespecial 3, 3), (4, .aload_n 0, 1), (5, .iconst (-1), 1), (6, .putfield 9, 3), (9, .aload_n 0, 1), (10, .bipush 30, 2)]
theorem fw_dX0_init_0_c : fchk 0 (cX0_init.data.toList.drop 0) fw_dX0_init_0 = true := by decide +kernel
theorem dX0_init_0 : decode cX0_init 0 = .ok (.aload_n 0, 1) := fchk_d fw_dX0_init_0_c (0, .aload_n 0, 1) (List.mem_of_getElem? (i := 0) rfl)
theorem dX0_init_1 : decode cX0_init 1 = .ok (.invokespecial 3, 3) := fchk_d fw_dX0_init_0_c (1, .invokespecial 3, 3) (List.mem_of_getElem? (i := 1) rfl)
theorem dX0_init_4 : decode cX0_init 4 = .ok (.aload_n 0, 1) := fchk_d fw_dX0_init_0_c (4, .aload_n 0, 1) (List.mem_of_getElem? (i := 2) rfl)
theorem dX0_init_5 : decode cX0_init 5 = .ok (.iconst (-1), 1) := fchk_d fw_dX0_init_0_c (5, .iconst (-1), 1) (List.mem_of_getElem? (i := 3) rfl)
theorem dX0_init_6 : decode cX0_init 6 = .ok (.putfield 9, 3) := fchk_d fw_dX0_init_0_c (6, .putfield 9, 3) (List.mem_of_getElem? (i := 4) rfl)
theorem dX0_init_9 : decode cX0_init 9 = .ok (.aload_n 0, 1) := fchk_d fw_dX0_init_0_c (9, .aload_n 0, 1) (List.mem_of_getElem? (i := 5) rfl)
theorem dX0_init_10 : decode cX0_init 10 = .ok (.bipush 30, 2) := fchk_d fw_dX0_init_0_c (10, .bipush 30, 2) (List.mem_of_getElem? (i := 6) rfl)
theorem dX0_init_12 : decode cX0_init 12 = .ok (.newarray .int, 2) := by decide +kernel
def fw_dX0_init_14 : List (Nat × Instr × Nat) := [(14, .putfield 15, 3), (17, .aload_n 0, 1), (18, .bipush 30, 2)]
theorem fw_dX0_init_14_c : fchk 14 (cX0_init.data.toList.drop 14) fw_dX0_init_14 = true := by decide +kernel
theorem dX0_init_14 : decode cX0_init 14 = .ok (.putfield 15, 3) := fchk_d fw_dX0_init_14_c (14, .putfield 15, 3) (List.mem_of_getElem? (i := 0) rfl)
theorem dX0_init_17 : decode cX0_init 17 = .ok (.aload_n 0, 1) := fchk_d fw_dX0_init_14_c (17, .aload_n 0, 1) (List.mem_of_getElem? (i := 1) rfl)
theorem dX0_init_18 : decode cX0_init 18 = .ok (.bipush 30, 2) := fchk_d fw_dX0_init_14_c (18, .bipush 30, 2) (List.mem_of_getElem? (i := 2) rfl)
theorem dX0_init_20 : decode cX0_init 20 = .ok (.newarray .long, 2) := by decide +kernel
def fw_dX0_init_22 : List (Nat × Instr × Nat) := [(22, .putfield 19, 3), (25, .aload_n 0, 1), (26, .bipush 74, 2)]
theorem fw_dX0_init_22_c : fchk 22 (cX0_init.data.toList.drop 22) fw_dX0_init_22 = true := by decide +kernel
theorem dX0_init_22 : decode cX0_init 22 = .ok (.putfield 19, 3) := fchk_d fw_dX0_init_22_c (22, .putfield 19, 3) (List.mem_of_getElem? (i := 0) rfl)
theorem dX0_init_25 : decode cX0_init 25 = .ok (.aload_n 0, 1) := fchk_d fw_dX0_init_22_c (25, .aload_n 0, 1) (List.mem_of_getElem? (i := 1) rfl)
theorem dX0_init_26 : decode cX0_init 26 = .ok (.bipush 74, 2) := fchk_d fw_dX0_init_22_c (26, .bipush 74, 2) (List.mem_of_getElem? (i := 2) rfl)
theorem dX0_init_28 : decode cX0_init 28 = .ok (.newarray .long, 2) := by decide +kernel
def fw_dX0_init_30 : List (Nat × Instr × Nat) := [(30, .putfield 23, 3), (33, .aload_n 0, 1), (34, .aload_n 1, 1), (35, .putfield 26, 3), (38, .aload_n 0, 1), (39, .aload_n 2, 1), (40, .putfield 30, 3), (43, .aload_n 0, 1), (44, .aload_n 3, 1), (45, .putfield 34, 3), (48, .return_, 1)]
theorem fw_dX0_init_30_c : fchk 30 (cX0_init.data.toList.drop 30) fw_dX0_init_30 = true := by decide +kernel
theorem dX0_init_30 : decode cX0_init 30 = .ok (.putfield 23, 3) := fchk_d fw_dX0_init_30_c (30, .putfield 23, 3) (List.mem_of_getElem? (i := 0) rfl)
theorem dX0_init_33 : decode cX0_init 33 = .ok (.aload_n 0, 1) := fchk_d fw_dX0_init_30_c (33, .aload_n 0, 1) (List.mem_of_getElem? (i := 1) rfl)
theorem dX0_init_34 : decode cX0_init 34 = .ok (.aload_n 1, 1) := fchk_d fw_dX0_init_30_c (34, .aload_n 1, 1) (List.mem_of_getElem? (i := 2) rfl)
theorem dX0_init_35 : decode cX0_init 35 = .ok (.putfield 26, 3) := fchk_d fw_dX0_init_30_c (35, .putfield 26, 3) (List.mem_of_getElem? (i := 3) rfl)
theorem dX0_init_38 : decode cX0_init 38 = .ok (.aload_n 0, 1) := fchk_d fw_dX0_init_30_c (38, .aload_n 0, 1) (List.mem_of_getElem? (i := 4) rfl)
theorem dX0_init_39 : decode cX0_init 39 = .ok (.aload_n 2, 1) := fchk_d fw_dX0_init_30_c (39, .aload_n 2, 1) (List.mem_of_getElem? (i := 5) rfl)
theorem dX0_init_40 : decode cX0_init 40 = .ok (.putfield 30, 3) := fchk_d fw_dX0_init_30_c (40, .putfield 30, 3) (List.mem_of_getElem? (i := 6) rfl)
theorem dX0_init_43 : decode cX0_init 43 = .ok (.aload_n 0, 1) := fchk_d fw_dX0_init_30_c (43, .aload_n 0, 1) (List.mem_of_getElem? (i := 7) rfl)
theorem dX0_init_44 : decode cX0_init 44 = .ok (.aload_n 3, 1) := fchk_d fw_dX0_init_30_c (44, .aload_n 3, 1) (List.mem_of_getElem? (i := 8) rfl)
theorem dX0_init_45 : decode cX0_init 45 = .ok (.putfield 34, 3) := fchk_d fw_dX0_init_30_c (45, .putfield 34, 3) (List.mem_of_getElem? (i := 9) rfl)
theorem dX0_init_48 : decode cX0_init 48 = .ok (.return_, 1) := fchk_d fw_dX0_init_30_c (48, .return_, 1) (List.mem_of_getElem? (i := 10) rfl)
set_option maxRecDepth 20000 in
theorem ggX0_perform_X2_forgetOlds : GoodIn wsX0_perform wsX2_forgetOlds := goodIn_r _ [14, 15, 109, 110, 111, 112, 113] rfl (by decide +kernel)
set_option maxRecDepth 20000 in
theorem gX0_perform_X2_forgetOlds : GoodIn wsX0_perform (wsV RX0 38 RX2 yX2_forgetOlds wsX2_forgetOlds) := goodIn_app (goodIn_of _ (by decide +kernel)) ggX0_perform_X2_forgetOlds
set_option maxRecDepth 20000 in
theorem ggX0_perform_X7_slot : GoodIn wsX0_perform wsX7_slot := goodIn_r _ [18] rfl (by decide +kernel)
set_option maxRecDepth 20000 in
theorem gX0_perform_X7_slot_n60 : GoodIn wsX0_perform (wsX7_slot) := ggX0_perform_X7_slot
set_option maxRecDepth 20000 in
theorem ggX0_perform_X0_doTogether : GoodIn wsX0_perform wsX0_doTogether := goodIn_r _ [23, 24, 2, 1, 25, 26, 27, 17, 28, 16, 18, 29, 30, 31, 22, 32, 7, 33, 34, 35, 36, 37, 38, 39, 40, 41, 42, 43, 44, 45, 46, 47, 48, 49, 50, 51, 52, 53, 54, 55, 56, 57, 58, 59, 13, 60, 61, 62, 63, 64, 65, 15, 66, 67, 68, 69, 70, 71, 72, 73, 74, 75, 76, 77, 85, 86, 87, 88, 89, 90, 91, 92, 93, 94, 102, 103, 104, 105, 106, 107, 108, 109, 110, 111, 112, 113] rfl (by decide +kernel)
set_option maxRecDepth 20000 in
theorem gX0_perform_X0_doTogether : GoodIn wsX0_perform (wsV RX0 64 RX0 yX0_doTogether wsX0_doTogether) := goodIn_app (goodIn_of _ (by decide +kernel)) ggX0_perform_X0_doTogether
set_option maxRecDepth 20000 in
theorem ggX0_perform_J6_bitCount_0f7a4 : GoodIn wsX0_perform wsJ6_bitCount_0f7a4 := goodIn_r _ [81, 82, 83, 84] rfl (by decide +kernel)
set_option maxRecDepth 20000 in
theorem gX0_perform_J6_bitCount_0f7a4 : GoodIn wsX0_perform (va_wsS RX0 67 yJ6_bitCount_0f7a4 wsJ6_bitCount_0f7a4) := goodIn_app (goodIn_of _ (by decide +kernel)) ggX0_perform_J6_bitCount_0f7a4
def fw_dX0_perform_0 : List (Nat × Instr × Nat) := [(0, .aload_n 0, 1), (1, .getfield 26, 3), (4, .invokevirtual 38, 3), (7, .aload_n 0, 1), (8, .iconst (-1), 1), (9, .putfield 9, 3), (12, .aload_n 0, 1), (13, .iconst 0, 1), (14, .putfield 43, 3), (17, .aload_n 0, 1), (18, .iconst 0, 1), (19, .putfield 46, 3), (22, .iload_n 2, 1), (23, .ifCond .eq 15, 3), (26, .aload_n 0, 1), (27, .getfield 34, 3), (30, .getfield 49, 3), (33, .iload_n 1, 1), (34, .iaload, 1), (35, .goto 12, 3), (38, .aload_n 0, 1), (39, .getfield 30, 3), (42, .getfield 54, 3), (45, .iload_n 1, 1), (46, .iaload, 1), (47, .istore_n 3, 1), (48, .iconst 0, 1), (49, .istore 4, 2), (51, .iconst 0, 1), (52, .istore 5, 2), (54, .iload 5, 2), (56, .iload_n 3, 1), (57, .if_icmp .ge 78, 3), (60, .iload 4, 2), (62, .ifCond .ne 73, 3), (65, .iload_n 2, 1), (66, .ifCond .eq 20, 3), (69, .aload_n 0, 1), (70, .getfield 34, 3), (73, .getfield 57, 3)]
theorem fw_dX0_perform_0_c : fchk 0 (cX0_perform.data.toList.drop 0) fw_dX0_perform_0 = true := by decide +kernel
theorem dX0_perform_0 : decode cX0_perform 0 = .ok (.aload_n 0, 1) := fchk_d fw_dX0_perform_0_c (0, .aload_n 0, 1) (List.mem_of_getElem? (i := 0) rfl)
theorem dX0_perform_1 : decode cX0_perform 1 = .ok (.getfield 26, 3) := fchk_d fw_dX0_perform_0_c (1, .getfield 26, 3) (List.mem_of_getElem? (i := 1) rfl)
theorem dX0_perform_4 : decode cX0_perform 4 = .ok (.invokevirtual 38, 3) := fchk_d fw_dX0_perform_0_c (4, .invokevirtual 38, 3) (List.mem_of_getElem? (i := 2) rfl)
theorem dX0_perform_7 : decode cX0_perform 7 = .ok (.aload_n 0, 1) := fchk_d fw_dX0_perform_0_c (7, .aload_n 0, 1) (List.mem_of_getElem? (i := 3) rfl)
theorem dX0_perform_8 : decode cX0_perform 8 = .ok (.iconst (-1), 1) := fchk_d fw_dX0_perform_0_c (8, .iconst (-1), 1) (List.mem_of_getElem? (i := 4) rfl)
theorem dX0_perform_9 : decode cX0_perform 9 = .ok (.putfield 9, 3) := fchk_d fw_dX0_perform_0_c (9, .putfield 9, 3) (List.mem_of_getElem? (i := 5) rfl)
theorem dX0_perform_12 : decode cX0_perform 12 = .ok (.aload_n 0, 1) := fchk_d fw_dX0_perform_0_c (12, .aload_n 0, 1) (List.mem_of_getElem? (i := 6) rfl)
theorem dX0_perform_13 : decode cX0_perform 13 = .ok (.iconst 0, 1) := fchk_d fw_dX0_perform_0_c (13, .iconst 0, 1) (List.mem_of_getElem? (i := 7) rfl)
theorem dX0_perform_14 : decode cX0_perform 14 = .ok (.putfield 43, 3) := fchk_d fw_dX0_perform_0_c (14, .putfield 43, 3) (List.mem_of_getElem? (i := 8) rfl)
theorem dX0_perform_17 : decode cX0_perform 17 = .ok (.aload_n 0, 1) := fchk_d fw_dX0_perform_0_c (17, .aload_n 0, 1) (List.mem_of_getElem? (i := 9) rfl)
theorem dX0_perform_18 : decode cX0_perform 18 = .ok (.iconst 0, 1) := fchk_d fw_dX0_perform_0_c (18, .iconst 0, 1) (List.mem_of_getElem? (i := 10) rfl)
theorem dX0_perform_19 : decode cX0_perform 19 = .ok (.putfield 46, 3) := fchk_d fw_dX0_perform_0_c (19, .putfield 46, 3) (List.mem_of_getElem? (i := 11) rfl)
theorem dX0_perform_22 : decode cX0_perform 22 = .ok (.iload_n 2, 1) := fchk_d fw_dX0_perform_0_c (22, .iload_n 2, 1) (List.mem_of_getElem? (i := 12) rfl)
theorem dX0_perform_23 : decode cX0_perform 23 = .ok (.ifCond .eq 15, 3) := fchk_d fw_dX0_perform_0_c (23, .ifCond .eq 15, 3) (List.mem_of_getElem? (i := 13) rfl)
theorem dX0_perform_26 : decode cX0_perform 26 = .ok (.aload_n 0, 1) := fchk_d fw_dX0_perform_0_c (26, .aload_n 0, 1) (List.mem_of_getElem? (i := 14) rfl)
theorem dX0_perform_27 : decode cX0_perform 27 = .ok (.getfield 34, 3) := fchk_d fw_dX0_perform_0_c (27, .getfield 34, 3) (List.mem_of_getElem? (i := 15) rfl)
theorem dX0_perform_30 : decode cX0_perform 30 = .ok (.getfield 49, 3) := fchk_d fw_dX0_perform_0_c (30, .getfield 49, 3) (List.mem_of_getElem? (i := 16) rfl)
theorem dX0_perform_33 : decode cX0_perform 33 = .ok (.iload_n 1, 1) := fchk_d fw_dX0_perform_0_c (33, .iload_n 1, 1) (List.mem_of_getElem? (i := 17) rfl)
theorem dX0_perform_34 : decode cX0_perform 34 = .ok (.iaload, 1) := fchk_d fw_dX0_perform_0_c (34, .iaload, 1) (List.mem_of_getElem? (i := 18) rfl)
theorem dX0_perform_35 : decode cX0_perform 35 = .ok (.goto 12, 3) := fchk_d fw_dX0_perform_0_c (35, .goto 12, 3) (List.mem_of_getElem? (i := 19) rfl)
theorem dX0_perform_38 : decode cX0_perform 38 = .ok (.aload_n 0, 1) := fchk_d fw_dX0_perform_0_c (38, .aload_n 0, 1) (List.mem_of_getElem? (i := 20) rfl)
theorem dX0_perform_39 : decode cX0_perform 39 = .ok (.getfield 30, 3) := fchk_d fw_dX0_perform_0_c (39, .getfield 30, 3) (List.mem_of_getElem? (i := 21) rfl)
theorem dX0_perform_42 : decode cX0_perform 42 = .ok (.getfield 54, 3) := fchk_d fw_dX0_perform_0_c (42, .getfield 54, 3) (List.mem_of_getElem? (i := 22) rfl)
theorem dX0_perform_45 : decode cX0_perform 45 = .ok (.iload_n 1, 1) := fchk_d fw_dX0_perform_0_c (45, .iload_n 1, 1) (List.mem_of_getElem? (i := 23) rfl)
theorem dX0_perform_46 : decode cX0_perform 46 = .ok (.iaload, 1) := fchk_d fw_dX0_perform_0_c (46, .iaload, 1) (List.mem_of_getElem? (i := 24) rfl)
theorem dX0_perform_47 : decode cX0_perform 47 = .ok (.istore_n 3, 1) := fchk_d fw_dX0_perform_0_c (47, .istore_n 3, 1) (List.mem_of_getElem? (i := 25) rfl)
theorem dX0_perform_48 : decode cX0_perform 48 = .ok (.iconst 0, 1) := fchk_d fw_dX0_perform_0_c (48, .iconst 0, 1) (List.mem_of_getElem? (i := 26) rfl)
theorem dX0_perform_49 : decode cX0_perform 49 = .ok (.istore 4, 2) := fchk_d fw_dX0_perform_0_c (49, .istore 4, 2) (List.mem_of_getElem? (i := 27) rfl)
theorem dX0_perform_51 : decode cX0_perform 51 = .ok (.iconst 0, 1) := fchk_d fw_dX0_perform_0_c (51, .iconst 0, 1) (List.mem_of_getElem? (i := 28) rfl)
theorem dX0_perform_52 : decode cX0_perform 52 = .ok (.istore 5, 2) := fchk_d fw_dX0_perform_0_c (52, .istore 5, 2) (List.mem_of_getElem? (i := 29) rfl)
theorem dX0_perform_54 : decode cX0_perform 54 = .ok (.iload 5, 2) := fchk_d fw_dX0_perform_0_c (54, .iload 5, 2) (List.mem_of_getElem? (i := 30) rfl)
theorem dX0_perform_56 : decode cX0_perform 56 = .ok (.iload_n 3, 1) := fchk_d fw_dX0_perform_0_c (56, .iload_n 3, 1) (List.mem_of_getElem? (i := 31) rfl)
theorem dX0_perform_57 : decode cX0_perform 57 = .ok (.if_icmp .ge 78, 3) := fchk_d fw_dX0_perform_0_c (57, .if_icmp .ge 78, 3) (List.mem_of_getElem? (i := 32) rfl)
theorem dX0_perform_60 : decode cX0_perform 60 = .ok (.iload 4, 2) := fchk_d fw_dX0_perform_0_c (60, .iload 4, 2) (List.mem_of_getElem? (i := 33) rfl)
theorem dX0_perform_62 : decode cX0_perform 62 = .ok (.ifCond .ne 73, 3) := fchk_d fw_dX0_perform_0_c (62, .ifCond .ne 73, 3) (List.mem_of_getElem? (i := 34) rfl)
theorem dX0_perform_65 : decode cX0_perform 65 = .ok (.iload_n 2, 1) := fchk_d fw_dX0_perform_0_c (65, .iload_n 2, 1) (List.mem_of_getElem? (i := 35) rfl)
theorem dX0_perform_66 : decode cX0_perform 66 = .ok (.ifCond .eq 20, 3) := fchk_d fw_dX0_perform_0_c (66, .ifCond .eq 20, 3) (List.mem_of_getElem? (i := 36) rfl)
theorem dX0_perform_69 : decode cX0_perform 69 = .ok (.aload_n 0, 1) := fchk_d fw_dX0_perform_0_c (69, .aload_n 0, 1) (List.mem_of_getElem? (i := 37) rfl)
theorem dX0_perform_70 : decode cX0_perform 70 = .ok (.getfield 34, 3) := fchk_d fw_dX0_perform_0_c (70, .getfield 34, 3) (List.mem_of_getElem? (i := 38) rfl)
theorem dX0_perform_73 : decode cX0_perform 73 = .ok (.getfield 57, 3) := fchk_d fw_dX0_perform_0_c (73, .getfield 57, 3) (List.mem_of_getElem? (i := 39) rfl)
def fw_dX0_perform_76 : List (Nat × Instr × Nat) := [(76, .iload_n 1, 1), (77, .iload 5, 2), (79, .invokestatic 60, 3), (82, .iaload, 1), (83, .goto 7, 3), (86, .iconst 1, 1), (87, .iload 5, 2), (89, .ishl, 1), (90, .istore 6, 2), (92, .aload_n 0, 1), (93, .iload_n 1, 1), (94, .iload 6, 2), (96, .invokevirtual 64, 3), (99, .istore 4, 2), (101, .aload_n 0, 1), (102, .dup, 1), (103, .getfield 43, 3), (106, .iload 6, 2), (108, .invokestatic 67, 3), (111, .iadd, 1), (112, .putfield 43, 3), (115, .iload_n 2, 1), (116, .ifCond .eq 13, 3), (119, .aload_n 0, 1), (120, .dup, 1), (121, .getfield 46, 3), (124, .iconst 1, 1), (125, .iadd, 1), (126, .putfield 46, 3)]
theorem fw_dX0_perform_76_c : fchk 76 (cX0_perform.data.toList.drop 76) fw_dX0_perform_76 = true := by decide +kernel
theorem dX0_perform_76 : decode cX0_perform 76 = .ok (.iload_n 1, 1) := fchk_d fw_dX0_perform_76_c (76, .iload_n 1, 1) (List.mem_of_getElem? (i := 0) rfl)
theorem dX0_perform_77 : decode cX0_perform 77 = .ok (.iload 5, 2) := fchk_d fw_dX0_perform_76_c (77, .iload 5, 2) (List.mem_of_getElem? (i := 1) rfl)
theorem dX0_perform_79 : decode cX0_perform 79 = .ok (.invokestatic 60, 3) := fchk_d fw_dX0_perform_76_c (79, .invokestatic 60, 3) (List.mem_of_getElem? (i := 2) rfl)
theorem dX0_perform_82 : decode cX0_perform 82 = .ok (.iaload, 1) := fchk_d fw_dX0_perform_76_c (82, .iaload, 1) (List.mem_of_getElem? (i := 3) rfl)
theorem dX0_perform_83 : decode cX0_perform 83 = .ok (.goto 7, 3) := fchk_d fw_dX0_perform_76_c (83, .goto 7, 3) (List.mem_of_getElem? (i := 4) rfl)
theorem dX0_perform_86 : decode cX0_perform 86 = .ok (.iconst 1, 1) := fchk_d fw_dX0_perform_76_c (86, .iconst 1, 1) (List.mem_of_getElem? (i := 5) rfl)
theorem dX0_perform_87 : decode cX0_perform 87 = .ok (.iload 5, 2) := fchk_d fw_dX0_perform_76_c (87, .iload 5, 2) (List.mem_of_getElem? (i := 6) rfl)
theorem dX0_perform_89 : decode cX0_perform 89 = .ok (.ishl, 1) := fchk_d fw_dX0_perform_76_c (89, .ishl, 1) (List.mem_of_getElem? (i := 7) rfl)
theorem dX0_perform_90 : decode cX0_perform 90 = .ok (.istore 6, 2) := fchk_d fw_dX0_perform_76_c (90, .istore 6, 2) (List.mem_of_getElem? (i := 8) rfl)
theorem dX0_perform_92 : decode cX0_perform 92 = .ok (.aload_n 0, 1) := fchk_d fw_dX0_perform_76_c (92, .aload_n 0, 1) (List.mem_of_getElem? (i := 9) rfl)
theorem dX0_perform_93 : decode cX0_perform 93 = .ok (.iload_n 1, 1) := fchk_d fw_dX0_perform_76_c (93, .iload_n 1, 1) (List.mem_of_getElem? (i := 10) rfl)
theorem dX0_perform_94 : decode cX0_perform 94 = .ok (.iload 6, 2) := fchk_d fw_dX0_perform_76_c (94, .iload 6, 2) (List.mem_of_getElem? (i := 11) rfl)
theorem dX0_perform_96 : decode cX0_perform 96 = .ok (.invokevirtual 64, 3) := fchk_d fw_dX0_perform_76_c (96, .invokevirtual 64, 3) (List.mem_of_getElem? (i := 12) rfl)
theorem dX0_perform_99 : decode cX0_perform 99 = .ok (.istore 4, 2) := fchk_d fw_dX0_perform_76_c (99, .istore 4, 2) (List.mem_of_getElem? (i := 13) rfl)
theorem dX0_perform_101 : decode cX0_perform 101 = .ok (.aload_n 0, 1) := fchk_d fw_dX0_perform_76_c (101, .aload_n 0, 1) (List.mem_of_getElem? (i := 14) rfl)
theorem dX0_perform_102 : decode cX0_perform 102 = .ok (.dup, 1) := fchk_d fw_dX0_perform_76_c (102, .dup, 1) (List.mem_of_getElem? (i := 15) rfl)
theorem dX0_perform_103 : decode cX0_perform 103 = .ok (.getfield 43, 3) := fchk_d fw_dX0_perform_76_c (103, .getfield 43, 3) (List.mem_of_getElem? (i := 16) rfl)
theorem dX0_perform_106 : decode cX0_perform 106 = .ok (.iload 6, 2) := fchk_d fw_dX0_perform_76_c (106, .iload 6, 2) (List.mem_of_getElem? (i := 17) rfl)
theorem dX0_perform_108 : decode cX0_perform 108 = .ok (.invokestatic 67, 3) := fchk_d fw_dX0_perform_76_c (108, .invokestatic 67, 3) (List.mem_of_getElem? (i := 18) rfl)
theorem dX0_perform_111 : decode cX0_perform 111 = .ok (.iadd, 1) := fchk_d fw_dX0_perform_76_c (111, .iadd, 1) (List.mem_of_getElem? (i := 19) rfl)
theorem dX0_perform_112 : decode cX0_perform 112 = .ok (.putfield 43, 3) := fchk_d fw_dX0_perform_76_c (112, .putfield 43, 3) (List.mem_of_getElem? (i := 20) rfl)
theorem dX0_perform_115 : decode cX0_perform 115 = .ok (.iload_n 2, 1) := fchk_d fw_dX0_perform_76_c (115, .iload_n 2, 1) (List.mem_of_getElem? (i := 21) rfl)
theorem dX0_perform_116 : decode cX0_perform 116 = .ok (.ifCond .eq 13, 3) := fchk_d fw_dX0_perform_76_c (116, .ifCond .eq 13, 3) (List.mem_of_getElem? (i := 22) rfl)
theorem dX0_perform_119 : decode cX0_perform 119 = .ok (.aload_n 0, 1) := fchk_d fw_dX0_perform_76_c (119, .aload_n 0, 1) (List.mem_of_getElem? (i := 23) rfl)
theorem dX0_perform_120 : decode cX0_perform 120 = .ok (.dup, 1) := fchk_d fw_dX0_perform_76_c (120, .dup, 1) (List.mem_of_getElem? (i := 24) rfl)
theorem dX0_perform_121 : decode cX0_perform 121 = .ok (.getfield 46, 3) := fchk_d fw_dX0_perform_76_c (121, .getfield 46, 3) (List.mem_of_getElem? (i := 25) rfl)
theorem dX0_perform_124 : decode cX0_perform 124 = .ok (.iconst 1, 1) := fchk_d fw_dX0_perform_76_c (124, .iconst 1, 1) (List.mem_of_getElem? (i := 26) rfl)
theorem dX0_perform_125 : decode cX0_perform 125 = .ok (.iadd, 1) := fchk_d fw_dX0_perform_76_c (125, .iadd, 1) (List.mem_of_getElem? (i := 27) rfl)
theorem dX0_perform_126 : decode cX0_perform 126 = .ok (.putfield 46, 3) := fchk_d fw_dX0_perform_76_c (126, .putfield 46, 3) (List.mem_of_getElem? (i := 28) rfl)
theorem dX0_perform_129 : decode cX0_perform 129 = .ok (.iinc 5 1, 3) := by decide +kernel
def fw_dX0_perform_132 : List (Nat × Instr × Nat) := [(132, .goto (-78), 3), (135, .iload 4, 2), (137, .ireturn, 1)]
theorem fw_dX0_perform_132_c : fchk 132 (cX0_perform.data.toList.drop 132) fw_dX0_perform_132 = true := by decide +kernel
theorem dX0_perform_132 : decode cX0_perform 132 = .ok (.goto (-78), 3) := fchk_d fw_dX0_perform_132_c (132, .goto (-78), 3) (List.mem_of_getElem? (i := 0) rfl)
theorem dX0_perform_135 : decode cX0_perform 135 = .ok (.iload 4, 2) := fchk_d fw_dX0_perform_132_c (135, .iload 4, 2) (List.mem_of_getElem? (i := 1) rfl)
theorem dX0_perform_137 : decode cX0_perform 137 = .ok (.ireturn, 1) := fchk_d fw_dX0_perform_132_c (137, .ireturn, 1) (List.mem_of_getElem? (i := 2) rfl)
set_option maxRecDepth 20000 in
theorem ggX0_endsAlike_X0_perform : GoodIn wsX0_endsAlike wsX0_perform := goodIn_r _ [12, 1, 13, 14, 15, 16, 17, 18, 19, 20, 21, 22, 23, 24, 25, 26, 27, 28, 29, 30, 31, 32, 11, 33, 34, 35, 36, 37, 38, 39, 40, 41, 42, 43, 44, 45, 46, 2, 47, 48, 49, 50, 51, 52, 53, 54, 55, 56, 57, 58, 59, 60, 61, 62, 63, 64, 65, 66, 67, 68, 69, 70, 71, 72, 73, 74, 75, 76, 77, 78, 79, 80, 81, 82, 83, 84, 85, 86, 87, 88, 89, 90, 91, 92, 93, 98, 99, 100, 101, 102, 103, 104, 105, 106, 107, 113, 114, 115, 116, 117, 118, 119, 120, 121, 122, 123, 124, 125, 126, 108, 109, 110, 111, 112] rfl (by decide +kernel)
set_option maxRecDepth 20000 in
theorem gX0_endsAlike_X0_perform : GoodIn wsX0_endsAlike (wsV RX0 73 RX0 yX0_perform wsX0_perform) := goodIn_app (goodIn_of _ (by decide +kernel)) ggX0_endsAlike_X0_perform
set_option maxRecDepth 20000 in
theorem ggX0_endsAlike_X2_goBack : GoodIn wsX0_endsAlike wsX2_goBack := goodIn_r _ [74, 26, 75, 76, 77, 108, 109, 110, 111, 112] rfl (by decide +kernel)
set_option maxRecDepth 20000 in
theorem gX0_endsAlike_X2_goBack : GoodIn wsX0_endsAlike (wsV RX0 86 RX2 yX2_goBack wsX2_goBack) := goodIn_app (goodIn_of _ (by decide +kernel)) ggX0_endsAlike_X2_goBack
set_option maxRecDepth 20000 in
theorem ggX0_endsAlike_X0_isOtherEnd : GoodIn wsX0_endsAlike wsX0_isOtherEnd := goodIn_r _ [97, 1, 2, 3, 98, 99, 100, 101, 102, 103, 104, 105, 106, 107, 108, 109, 110, 111, 112] rfl (by decide +kernel)
set_option maxRecDepth 20000 in
theorem gX0_endsAlike_X0_isOtherEnd : GoodIn wsX0_endsAlike (wsV RX0 89 RX0 yX0_isOtherEnd wsX0_isOtherEnd) := goodIn_app (goodIn_of _ (by decide +kernel)) ggX0_endsAlike_X0_isOtherEnd
def fw_dX0_endsAlike_0 : List (Nat × Instr × Nat) := [(0, .aload_n 0, 1), (1, .iload_n 1, 1), (2, .iconst 1, 1), (3, .invokevirtual 73, 3), (6, .istore_n 2, 1), (7, .aload_n 0, 1), (8, .getfield 26, 3), (11, .getfield 77, 3), (14, .iconst 0, 1), (15, .aload_n 0, 1), (16, .getfield 23, 3), (19, .iconst 0, 1), (20, .bipush 74, 2), (22, .invokestatic 80, 3), (25, .aload_n 0, 1), (26, .getfield 26, 3), (29, .invokevirtual 86, 3), (32, .aload_n 0, 1), (33, .iload_n 1, 1), (34, .iconst 0, 1), (35, .invokevirtual 73, 3), (38, .iload_n 2, 1), (39, .if_icmp .ne 14, 3), (42, .aload_n 0, 1), (43, .invokevirtual 89, 3), (46, .ifCond .eq 7, 3), (49, .iconst 1, 1), (50, .goto 4, 3), (53, .iconst 0, 1), (54, .istore_n 3, 1), (55, .aload_n 0, 1), (56, .getfield 26, 3), (59, .invokevirtual 86, 3), (62, .iload_n 3, 1), (63, .ireturn, 1)]
theorem fw_dX0_endsAlike_0_c : fchk 0 (cX0_endsAlike.data.toList.drop 0) fw_dX0_endsAlike_0 = true := by decide +kernel
theorem dX0_endsAlike_0 : decode cX0_endsAlike 0 = .ok (.aload_n 0, 1) := fchk_d fw_dX0_endsAlike_0_c (0, .aload_n 0, 1) (List.mem_of_getElem? (i := 0) rfl)
theorem dX0_endsAlike_1 : decode cX0_endsAlike 1 = .ok (.iload_n 1, 1) := fchk_d fw_dX0_endsAlike_0_c (1, .iload_n 1, 1) (List.mem_of_getElem? (i := 1) rfl)
theorem dX0_endsAlike_2 : decode cX0_endsAlike 2 = .ok (.iconst 1, 1) := fchk_d fw_dX0_endsAlike_0_c (2, .iconst 1, 1) (List.mem_of_getElem? (i := 2) rfl)
theorem dX0_endsAlike_3 : decode cX0_endsAlike 3 = .ok (.invokevirtual 73, 3) := fchk_d fw_dX0_endsAlike_0_c (3, .invokevirtual 73, 3) (List.mem_of_getElem? (i := 3) rfl)
theorem dX0_endsAlike_6 : decode cX0_endsAlike 6 = .ok (.istore_n 2, 1) := fchk_d fw_dX0_endsAlike_0_c (6, .istore_n 2, 1) (List.mem_of_getElem? (i := 4) rfl)
theorem dX0_endsAlike_7 : decode cX0_endsAlike 7 = .ok (.aload_n 0, 1) := fchk_d fw_dX0_endsAlike_0_c (7, .aload_n 0, 1) (List.mem_of_getElem? (i := 5) rfl)
theorem dX0_endsAlike_8 : decode cX0_endsAlike 8 = .ok (.getfield 26, 3) := fchk_d fw_dX0_endsAlike_0_c (8, .getfield 26, 3) (List.mem_of_getElem? (i := 6) rfl)
theorem dX0_endsAlike_11 : decode cX0_endsAlike 11 = .ok (.getfield 77, 3) := fchk_d fw_dX0_endsAlike_0_c (11, .getfield 77, 3) (List.mem_of_getElem? (i := 7) rfl)
theorem dX0_endsAlike_14 : decode cX0_endsAlike 14 = .ok (.iconst 0, 1) := fchk_d fw_dX0_endsAlike_0_c (14, .iconst 0, 1) (List.mem_of_getElem? (i := 8) rfl)
theorem dX0_endsAlike_15 : decode cX0_endsAlike 15 = .ok (.aload_n 0, 1) := fchk_d fw_dX0_endsAlike_0_c (15, .aload_n 0, 1) (List.mem_of_getElem? (i := 9) rfl)
theorem dX0_endsAlike_16 : decode cX0_endsAlike 16 = .ok (.getfield 23, 3) := fchk_d fw_dX0_endsAlike_0_c (16, .getfield 23, 3) (List.mem_of_getElem? (i := 10) rfl)
theorem dX0_endsAlike_19 : decode cX0_endsAlike 19 = .ok (.iconst 0, 1) := fchk_d fw_dX0_endsAlike_0_c (19, .iconst 0, 1) (List.mem_of_getElem? (i := 11) rfl)
theorem dX0_endsAlike_20 : decode cX0_endsAlike 20 = .ok (.bipush 74, 2) := fchk_d fw_dX0_endsAlike_0_c (20, .bipush 74, 2) (List.mem_of_getElem? (i := 12) rfl)
theorem dX0_endsAlike_22 : decode cX0_endsAlike 22 = .ok (.invokestatic 80, 3) := fchk_d fw_dX0_endsAlike_0_c (22, .invokestatic 80, 3) (List.mem_of_getElem? (i := 13) rfl)
theorem dX0_endsAlike_25 : decode cX0_endsAlike 25 = .ok (.aload_n 0, 1) := fchk_d fw_dX0_endsAlike_0_c (25, .aload_n 0, 1) (List.mem_of_getElem? (i := 14) rfl)
theorem dX0_endsAlike_26 : decode cX0_endsAlike 26 = .ok (.getfield 26, 3) := fchk_d fw_dX0_endsAlike_0_c (26, .getfield 26, 3) (List.mem_of_getElem? (i := 15) rfl)
theorem dX0_endsAlike_29 : decode cX0_endsAlike 29 = .ok (.invokevirtual 86, 3) := fchk_d fw_dX0_endsAlike_0_c (29, .invokevirtual 86, 3) (List.mem_of_getElem? (i := 16) rfl)
theorem dX0_endsAlike_32 : decode cX0_endsAlike 32 = .ok (.aload_n 0, 1) := fchk_d fw_dX0_endsAlike_0_c (32, .aload_n 0, 1) (List.mem_of_getElem? (i := 17) rfl)
theorem dX0_endsAlike_33 : decode cX0_endsAlike 33 = .ok (.iload_n 1, 1) := fchk_d fw_dX0_endsAlike_0_c (33, .iload_n 1, 1) (List.mem_of_getElem? (i := 18) rfl)
theorem dX0_endsAlike_34 : decode cX0_endsAlike 34 = .ok (.iconst 0, 1) := fchk_d fw_dX0_endsAlike_0_c (34, .iconst 0, 1) (List.mem_of_getElem? (i := 19) rfl)
theorem dX0_endsAlike_35 : decode cX0_endsAlike 35 = .ok (.invokevirtual 73, 3) := fchk_d fw_dX0_endsAlike_0_c (35, .invokevirtual 73, 3) (List.mem_of_getElem? (i := 20) rfl)
theorem dX0_endsAlike_38 : decode cX0_endsAlike 38 = .ok (.iload_n 2, 1) := fchk_d fw_dX0_endsAlike_0_c (38, .iload_n 2, 1) (List.mem_of_getElem? (i := 21) rfl)
theorem dX0_endsAlike_39 : decode cX0_endsAlike 39 = .ok (.if_icmp .ne 14, 3) := fchk_d fw_dX0_endsAlike_0_c (39, .if_icmp .ne 14, 3) (List.mem_of_getElem? (i := 22) rfl)
theorem dX0_endsAlike_42 : decode cX0_endsAlike 42 = .ok (.aload_n 0, 1) := fchk_d fw_dX0_endsAlike_0_c (42, .aload_n 0, 1) (List.mem_of_getElem? (i := 23) rfl)
theorem dX0_endsAlike_43 : decode cX0_endsAlike 43 = .ok (.invokevirtual 89, 3) := fchk_d fw_dX0_endsAlike_0_c (43, .invokevirtual 89, 3) (List.mem_of_getElem? (i := 24) rfl)
theorem dX0_endsAlike_46 : decode cX0_endsAlike 46 = .ok (.ifCond .eq 7, 3) := fchk_d fw_dX0_endsAlike_0_c (46, .ifCond .eq 7, 3) (List.mem_of_getElem? (i := 25) rfl)
theorem dX0_endsAlike_49 : decode cX0_endsAlike 49 = .ok (.iconst 1, 1) := fchk_d fw_dX0_endsAlike_0_c (49, .iconst 1, 1) (List.mem_of_getElem? (i := 26) rfl)
theorem dX0_endsAlike_50 : decode cX0_endsAlike 50 = .ok (.goto 4, 3) := fchk_d fw_dX0_endsAlike_0_c (50, .goto 4, 3) (List.mem_of_getElem? (i := 27) rfl)
theorem dX0_endsAlike_53 : decode cX0_endsAlike 53 = .ok (.iconst 0, 1) := fchk_d fw_dX0_endsAlike_0_c (53, .iconst 0, 1) (List.mem_of_getElem? (i := 28) rfl)
theorem dX0_endsAlike_54 : decode cX0_endsAlike 54 = .ok (.istore_n 3, 1) := fchk_d fw_dX0_endsAlike_0_c (54, .istore_n 3, 1) (List.mem_of_getElem? (i := 29) rfl)
theorem dX0_endsAlike_55 : decode cX0_endsAlike 55 = .ok (.aload_n 0, 1) := fchk_d fw_dX0_endsAlike_0_c (55, .aload_n 0, 1) (List.mem_of_getElem? (i := 30) rfl)
theorem dX0_endsAlike_56 : decode cX0_endsAlike 56 = .ok (.getfield 26, 3) := fchk_d fw_dX0_endsAlike_0_c (56, .getfield 26, 3) (List.mem_of_getElem? (i := 31) rfl)
theorem dX0_endsAlike_59 : decode cX0_endsAlike 59 = .ok (.invokevirtual 86, 3) := fchk_d fw_dX0_endsAlike_0_c (59, .invokevirtual 86, 3) (List.mem_of_getElem? (i := 32) rfl)
theorem dX0_endsAlike_62 : decode cX0_endsAlike 62 = .ok (.iload_n 3, 1) := fchk_d fw_dX0_endsAlike_0_c (62, .iload_n 3, 1) (List.mem_of_getElem? (i := 33) rfl)
theorem dX0_endsAlike_63 : decode cX0_endsAlike 63 = .ok (.ireturn, 1) := fchk_d fw_dX0_endsAlike_0_c (63, .ireturn, 1) (List.mem_of_getElem? (i := 34) rfl)
def fw_dX0_isOtherEnd_0 : List (Nat × Instr × Nat) := [(0, .iconst 0, 1), (1, .istore_n 1, 1), (2, .iload_n 1, 1), (3, .bipush 74, 2), (5, .if_icmp .ge 30, 3), (8, .aload_n 0, 1), (9, .getfield 26, 3), (12, .getfield 77, 3), (15, .iload_n 1, 1), (16, .laload, 1), (17, .aload_n 0, 1), (18, .getfield 23, 3), (21, .iload_n 1, 1), (22, .laload, 1), (23, .lcmp, 1), (24, .ifCond .eq 5, 3), (27, .iconst 0, 1), (28, .ireturn, 1)]
theorem fw_dX0_isOtherEnd_0_c : fchk 0 (cX0_isOtherEnd.data.toList.drop 0) fw_dX0_isOtherEnd_0 = true := by decide +kernel
theorem dX0_isOtherEnd_0 : decode cX0_isOtherEnd 0 = .ok (.iconst 0, 1) := fchk_d fw_dX0_isOtherEnd_0_c (0, .iconst 0, 1) (List.mem_of_getElem? (i := 0) rfl)
theorem dX0_isOtherEnd_1 : decode cX0_isOtherEnd 1 = .ok (.istore_n 1, 1) := fchk_d fw_dX0_isOtherEnd_0_c (1, .istore_n 1, 1) (List.mem_of_getElem? (i := 1) rfl)
theorem dX0_isOtherEnd_2 : decode cX0_isOtherEnd 2 = .ok (.iload_n 1, 1) := fchk_d fw_dX0_isOtherEnd_0_c (2, .iload_n 1, 1) (List.mem_of_getElem? (i := 2) rfl)
theorem dX0_isOtherEnd_3 : decode cX0_isOtherEnd 3 = .ok (.bipush 74, 2) := fchk_d fw_dX0_isOtherEnd_0_c (3, .bipush 74, 2) (List.mem_of_getElem? (i := 3) rfl)
theorem dX0_isOtherEnd_5 : decode cX0_isOtherEnd 5 = .ok (.if_icmp .ge 30, 3) := fchk_d fw_dX0_isOtherEnd_0_c (5, .if_icmp .ge 30, 3) (List.mem_of_getElem? (i := 4) rfl)
theorem dX0_isOtherEnd_8 : decode cX0_isOtherEnd 8 = .ok (.aload_n 0, 1) := fchk_d fw_dX0_isOtherEnd_0_c (8, .aload_n 0, 1) (List.mem_of_getElem? (i := 5) rfl)
theorem dX0_isOtherEnd_9 : decode cX0_isOtherEnd 9 = .ok (.getfield 26, 3) := fchk_d fw_dX0_isOtherEnd_0_c (9, .getfield 26, 3) (List.mem_of_getElem? (i := 6) rfl)
theorem dX0_isOtherEnd_12 : decode cX0_isOtherEnd 12 = .ok (.getfield 77, 3) := fchk_d fw_dX0_isOtherEnd_0_c (12, .getfield 77, 3) (List.mem_of_getElem? (i := 7) rfl)
theorem dX0_isOtherEnd_15 : decode cX0_isOtherEnd 15 = .ok (.iload_n 1, 1) := fchk_d fw_dX0_isOtherEnd_0_c (15, .iload_n 1, 1) (List.mem_of_getElem? (i := 8) rfl)
theorem dX0_isOtherEnd_16 : decode cX0_isOtherEnd 16 = .ok (.laload, 1) := fchk_d fw_dX0_isOtherEnd_0_c (16, .laload, 1) (List.mem_of_getElem? (i := 9) rfl)
theorem dX0_isOtherEnd_17 : decode cX0_isOtherEnd 17 = .ok (.aload_n 0, 1) := fchk_d fw_dX0_isOtherEnd_0_c (17, .aload_n 0, 1) (List.mem_of_getElem? (i := 10) rfl)
theorem dX0_isOtherEnd_18 : decode cX0_isOtherEnd 18 = .ok (.getfield 23, 3) := fchk_d fw_dX0_isOtherEnd_0_c (18, .getfield 23, 3) (List.mem_of_getElem? (i := 11) rfl)
theorem dX0_isOtherEnd_21 : decode cX0_isOtherEnd 21 = .ok (.iload_n 1, 1) := fchk_d fw_dX0_isOtherEnd_0_c (21, .iload_n 1, 1) (List.mem_of_getElem? (i := 12) rfl)
theorem dX0_isOtherEnd_22 : decode cX0_isOtherEnd 22 = .ok (.laload, 1) := fchk_d fw_dX0_isOtherEnd_0_c (22, .laload, 1) (List.mem_of_getElem? (i := 13) rfl)
theorem dX0_isOtherEnd_23 : decode cX0_isOtherEnd 23 = .ok (.lcmp, 1) := fchk_d fw_dX0_isOtherEnd_0_c (23, .lcmp, 1) (List.mem_of_getElem? (i := 14) rfl)
theorem dX0_isOtherEnd_24 : decode cX0_isOtherEnd 24 = .ok (.ifCond .eq 5, 3) := fchk_d fw_dX0_isOtherEnd_0_c (24, .ifCond .eq 5, 3) (List.mem_of_getElem? (i := 15) rfl)
theorem dX0_isOtherEnd_27 : decode cX0_isOtherEnd 27 = .ok (.iconst 0, 1) := fchk_d fw_dX0_isOtherEnd_0_c (27, .iconst 0, 1) (List.mem_of_getElem? (i := 16) rfl)
theorem dX0_isOtherEnd_28 : decode cX0_isOtherEnd 28 = .ok (.ireturn, 1) := fchk_d fw_dX0_isOtherEnd_0_c (28, .ireturn, 1) (List.mem_of_getElem? (i := 17) rfl)
theorem dX0_isOtherEnd_29 : decode cX0_isOtherEnd 29 = .ok (.iinc 1 1, 3) := by decide +kernel
def fw_dX0_isOtherEnd_32 : List (Nat × Instr × Nat) := [(32, .goto (-30), 3), (35, .iconst 1, 1), (36, .ireturn, 1)]
theorem fw_dX0_isOtherEnd_32_c : fchk 32 (cX0_isOtherEnd.data.toList.drop 32) fw_dX0_isOtherEnd_32 = true := by decide +kernel
theorem dX0_isOtherEnd_32 : decode cX0_isOtherEnd 32 = .ok (.goto (-30), 3) := fchk_d fw_dX0_isOtherEnd_32_c (32, .goto (-30), 3) (List.mem_of_getElem? (i := 0) rfl)
theorem dX0_isOtherEnd_35 : decode cX0_isOtherEnd 35 = .ok (.iconst 1, 1) := fchk_d fw_dX0_isOtherEnd_32_c (35, .iconst 1, 1) (List.mem_of_getElem? (i := 1) rfl)
theorem dX0_isOtherEnd_36 : decode cX0_isOtherEnd 36 = .ok (.ireturn, 1) := fchk_d fw_dX0_isOtherEnd_32_c (36, .ireturn, 1) (List.mem_of_getElem? (i := 2) rfl)
set_option maxRecDepth 20000 in
theorem ggX0_doTogether_X7_isIn : GoodIn wsX0_doTogether wsX7_isIn := goodIn_r _ [8] rfl (by decide +kernel)
set_option maxRecDepth 20000 in
theorem gX0_doTogether_X7_isIn_n96 : GoodIn wsX0_doTogether (wsX7_isIn) := ggX0_doTogether_X7_isIn
set_option maxRecDepth 20000 in
theorem ggX0_doTogether_X7_slot : GoodIn wsX0_doTogether wsX7_slot := goodIn_r _ [10] rfl (by decide +kernel)
set_option maxRecDepth 20000 in
theorem gX0_doTogether_X7_slot_n60 : GoodIn wsX0_doTogether (wsX7_slot) := ggX0_doTogether_X7_slot
set_option maxRecDepth 20000 in
theorem ggX0_doTogether_X0_take : GoodIn wsX0_doTogether wsX0_take := goodIn_r _ [15, 16, 17, 18, 19, 20, 3, 21, 22, 23, 24, 14, 25, 1, 4, 5, 26, 27, 28, 29, 30, 7, 31, 32, 33, 34, 35, 36, 37, 38, 39, 40, 41, 42, 43, 44, 45, 46, 64, 65, 66, 67, 68, 69, 70, 71, 72, 73, 74, 75, 76, 77, 78, 79, 80, 81, 82, 83, 84, 85] rfl (by decide +kernel)
set_option maxRecDepth 20000 in
theorem gX0_doTogether_X0_take : GoodIn wsX0_doTogether (wsV RX0 100 RX0 yX0_take wsX0_take) := goodIn_app (goodIn_of _ (by decide +kernel)) ggX0_doTogether_X0_take
set_option maxRecDepth 20000 in
theorem ggX0_doTogether_X2_goBack : GoodIn wsX0_doTogether wsX2_goBack := goodIn_r _ [50, 51, 52, 53, 54, 81, 82, 83, 84, 85] rfl (by decide +kernel)
set_option maxRecDepth 20000 in
theorem gX0_doTogether_X2_goBack : GoodIn wsX0_doTogether (wsV RX0 86 RX2 yX2_goBack wsX2_goBack) := goodIn_app (goodIn_of _ (by decide +kernel)) ggX0_doTogether_X2_goBack
set_option maxRecDepth 20000 in
theorem ggX0_doTogether_X2_putAndRemember : GoodIn wsX0_doTogether wsX2_putAndRemember := goodIn_r _ [58, 51, 53, 54, 52, 59, 60, 61, 44, 62, 63, 42, 43, 45, 46, 81, 82, 83, 84, 85] rfl (by decide +kernel)
set_option maxRecDepth 20000 in
theorem gX0_doTogether_X2_putAndRemember : GoodIn wsX0_doTogether (wsV RX0 103 RX2 yX2_putAndRemember wsX2_putAndRemember) := goodIn_app (goodIn_of _ (by decide +kernel)) ggX0_doTogether_X2_putAndRemember
def fw_dX0_doTogether_0 : List (Nat × Instr × Nat) := [(0, .aload_n 0, 1), (1, .iconst 0, 1), (2, .putfield 93, 3), (5, .iconst 0, 1), (6, .istore_n 3, 1), (7, .iconst 0, 1), (8, .istore 4, 2), (10, .iload 4, 2), (12, .bipush 10, 2), (14, .if_icmp .ge 64, 3), (17, .iload_n 2, 1), (18, .iload 4, 2), (20, .invokestatic 96, 3), (23, .ifCond .eq 49, 3), (26, .aload_n 0, 1), (27, .iload_n 1, 1), (28, .iload 4, 2), (30, .invokestatic 60, 3), (33, .invokevirtual 100, 3), (36, .istore 5, 2), (38, .iload_n 3, 1), (39, .iload 5, 2), (41, .iconst 1, 1), (42, .if_icmp .ne 7, 3), (45, .iconst 1, 1), (46, .goto 4, 3), (49, .iconst 0, 1), (50, .ior, 1), (51, .istore_n 3, 1), (52, .iload 5, 2), (54, .iconst 2, 1), (55, .if_icmp .ne 17, 3), (58, .aload_n 0, 1), (59, .getfield 9, 3), (62, .iconst (-1), 1), (63, .if_icmp .ne 9, 3), (66, .aload_n 0, 1), (67, .iload 4, 2), (69, .putfield 9, 3)]
theorem fw_dX0_doTogether_0_c : fchk 0 (cX0_doTogether.data.toList.drop 0) fw_dX0_doTogether_0 = true := by decide +kernel
theorem dX0_doTogether_0 : decode cX0_doTogether 0 = .ok (.aload_n 0, 1) := fchk_d fw_dX0_doTogether_0_c (0, .aload_n 0, 1) (List.mem_of_getElem? (i := 0) rfl)
theorem dX0_doTogether_1 : decode cX0_doTogether 1 = .ok (.iconst 0, 1) := fchk_d fw_dX0_doTogether_0_c (1, .iconst 0, 1) (List.mem_of_getElem? (i := 1) rfl)
theorem dX0_doTogether_2 : decode cX0_doTogether 2 = .ok (.putfield 93, 3) := fchk_d fw_dX0_doTogether_0_c (2, .putfield 93, 3) (List.mem_of_getElem? (i := 2) rfl)
theorem dX0_doTogether_5 : decode cX0_doTogether 5 = .ok (.iconst 0, 1) := fchk_d fw_dX0_doTogether_0_c (5, .iconst 0, 1) (List.mem_of_getElem? (i := 3) rfl)
theorem dX0_doTogether_6 : decode cX0_doTogether 6 = .ok (.istore_n 3, 1) := fchk_d fw_dX0_doTogether_0_c (6, .istore_n 3, 1) (List.mem_of_getElem? (i := 4) rfl)
theorem dX0_doTogether_7 : decode cX0_doTogether 7 = .ok (.iconst 0, 1) := fchk_d fw_dX0_doTogether_0_c (7, .iconst 0, 1) (List.mem_of_getElem? (i := 5) rfl)
theorem dX0_doTogether_8 : decode cX0_doTogether 8 = .ok (.istore 4, 2) := fchk_d fw_dX0_doTogether_0_c (8, .istore 4, 2) (List.mem_of_getElem? (i := 6) rfl)
theorem dX0_doTogether_10 : decode cX0_doTogether 10 = .ok (.iload 4, 2) := fchk_d fw_dX0_doTogether_0_c (10, .iload 4, 2) (List.mem_of_getElem? (i := 7) rfl)
theorem dX0_doTogether_12 : decode cX0_doTogether 12 = .ok (.bipush 10, 2) := fchk_d fw_dX0_doTogether_0_c (12, .bipush 10, 2) (List.mem_of_getElem? (i := 8) rfl)
theorem dX0_doTogether_14 : decode cX0_doTogether 14 = .ok (.if_icmp .ge 64, 3) := fchk_d fw_dX0_doTogether_0_c (14, .if_icmp .ge 64, 3) (List.mem_of_getElem? (i := 9) rfl)
theorem dX0_doTogether_17 : decode cX0_doTogether 17 = .ok (.iload_n 2, 1) := fchk_d fw_dX0_doTogether_0_c (17, .iload_n 2, 1) (List.mem_of_getElem? (i := 10) rfl)
theorem dX0_doTogether_18 : decode cX0_doTogether 18 = .ok (.iload 4, 2) := fchk_d fw_dX0_doTogether_0_c (18, .iload 4, 2) (List.mem_of_getElem? (i := 11) rfl)
theorem dX0_doTogether_20 : decode cX0_doTogether 20 = .ok (.invokestatic 96, 3) := fchk_d fw_dX0_doTogether_0_c (20, .invokestatic 96, 3) (List.mem_of_getElem? (i := 12) rfl)
theorem dX0_doTogether_23 : decode cX0_doTogether 23 = .ok (.ifCond .eq 49, 3) := fchk_d fw_dX0_doTogether_0_c (23, .ifCond .eq 49, 3) (List.mem_of_getElem? (i := 13) rfl)
theorem dX0_doTogether_26 : decode cX0_doTogether 26 = .ok (.aload_n 0, 1) := fchk_d fw_dX0_doTogether_0_c (26, .aload_n 0, 1) (List.mem_of_getElem? (i := 14) rfl)
theorem dX0_doTogether_27 : decode cX0_doTogether 27 = .ok (.iload_n 1, 1) := fchk_d fw_dX0_doTogether_0_c (27, .iload_n 1, 1) (List.mem_of_getElem? (i := 15) rfl)
theorem dX0_doTogether_28 : decode cX0_doTogether 28 = .ok (.iload 4, 2) := fchk_d fw_dX0_doTogether_0_c (28, .iload 4, 2) (List.mem_of_getElem? (i := 16) rfl)
theorem dX0_doTogether_30 : decode cX0_doTogether 30 = .ok (.invokestatic 60, 3) := fchk_d fw_dX0_doTogether_0_c (30, .invokestatic 60, 3) (List.mem_of_getElem? (i := 17) rfl)
theorem dX0_doTogether_33 : decode cX0_doTogether 33 = .ok (.invokevirtual 100, 3) := fchk_d fw_dX0_doTogether_0_c (33, .invokevirtual 100, 3) (List.mem_of_getElem? (i := 18) rfl)
theorem dX0_doTogether_36 : decode cX0_doTogether 36 = .ok (.istore 5, 2) := fchk_d fw_dX0_doTogether_0_c (36, .istore 5, 2) (List.mem_of_getElem? (i := 19) rfl)
theorem dX0_doTogether_38 : decode cX0_doTogether 38 = .ok (.iload_n 3, 1) := fchk_d fw_dX0_doTogether_0_c (38, .iload_n 3, 1) (List.mem_of_getElem? (i := 20) rfl)
theorem dX0_doTogether_39 : decode cX0_doTogether 39 = .ok (.iload 5, 2) := fchk_d fw_dX0_doTogether_0_c (39, .iload 5, 2) (List.mem_of_getElem? (i := 21) rfl)
theorem dX0_doTogether_41 : decode cX0_doTogether 41 = .ok (.iconst 1, 1) := fchk_d fw_dX0_doTogether_0_c (41, .iconst 1, 1) (List.mem_of_getElem? (i := 22) rfl)
theorem dX0_doTogether_42 : decode cX0_doTogether 42 = .ok (.if_icmp .ne 7, 3) := fchk_d fw_dX0_doTogether_0_c (42, .if_icmp .ne 7, 3) (List.mem_of_getElem? (i := 23) rfl)
theorem dX0_doTogether_45 : decode cX0_doTogether 45 = .ok (.iconst 1, 1) := fchk_d fw_dX0_doTogether_0_c (45, .iconst 1, 1) (List.mem_of_getElem? (i := 24) rfl)
theorem dX0_doTogether_46 : decode cX0_doTogether 46 = .ok (.goto 4, 3) := fchk_d fw_dX0_doTogether_0_c (46, .goto 4, 3) (List.mem_of_getElem? (i := 25) rfl)
theorem dX0_doTogether_49 : decode cX0_doTogether 49 = .ok (.iconst 0, 1) := fchk_d fw_dX0_doTogether_0_c (49, .iconst 0, 1) (List.mem_of_getElem? (i := 26) rfl)
theorem dX0_doTogether_50 : decode cX0_doTogether 50 = .ok (.ior, 1) := fchk_d fw_dX0_doTogether_0_c (50, .ior, 1) (List.mem_of_getElem? (i := 27) rfl)
theorem dX0_doTogether_51 : decode cX0_doTogether 51 = .ok (.istore_n 3, 1) := fchk_d fw_dX0_doTogether_0_c (51, .istore_n 3, 1) (List.mem_of_getElem? (i := 28) rfl)
theorem dX0_doTogether_52 : decode cX0_doTogether 52 = .ok (.iload 5, 2) := fchk_d fw_dX0_doTogether_0_c (52, .iload 5, 2) (List.mem_of_getElem? (i := 29) rfl)
theorem dX0_doTogether_54 : decode cX0_doTogether 54 = .ok (.iconst 2, 1) := fchk_d fw_dX0_doTogether_0_c (54, .iconst 2, 1) (List.mem_of_getElem? (i := 30) rfl)
theorem dX0_doTogether_55 : decode cX0_doTogether 55 = .ok (.if_icmp .ne 17, 3) := fchk_d fw_dX0_doTogether_0_c (55, .if_icmp .ne 17, 3) (List.mem_of_getElem? (i := 31) rfl)
theorem dX0_doTogether_58 : decode cX0_doTogether 58 = .ok (.aload_n 0, 1) := fchk_d fw_dX0_doTogether_0_c (58, .aload_n 0, 1) (List.mem_of_getElem? (i := 32) rfl)
theorem dX0_doTogether_59 : decode cX0_doTogether 59 = .ok (.getfield 9, 3) := fchk_d fw_dX0_doTogether_0_c (59, .getfield 9, 3) (List.mem_of_getElem? (i := 33) rfl)
theorem dX0_doTogether_62 : decode cX0_doTogether 62 = .ok (.iconst (-1), 1) := fchk_d fw_dX0_doTogether_0_c (62, .iconst (-1), 1) (List.mem_of_getElem? (i := 34) rfl)
theorem dX0_doTogether_63 : decode cX0_doTogether 63 = .ok (.if_icmp .ne 9, 3) := fchk_d fw_dX0_doTogether_0_c (63, .if_icmp .ne 9, 3) (List.mem_of_getElem? (i := 35) rfl)
theorem dX0_doTogether_66 : decode cX0_doTogether 66 = .ok (.aload_n 0, 1) := fchk_d fw_dX0_doTogether_0_c (66, .aload_n 0, 1) (List.mem_of_getElem? (i := 36) rfl)
theorem dX0_doTogether_67 : decode cX0_doTogether 67 = .ok (.iload 4, 2) := fchk_d fw_dX0_doTogether_0_c (67, .iload 4, 2) (List.mem_of_getElem? (i := 37) rfl)
theorem dX0_doTogether_69 : decode cX0_doTogether 69 = .ok (.putfield 9, 3) := fchk_d fw_dX0_doTogether_0_c (69, .putfield 9, 3) (List.mem_of_getElem? (i := 38) rfl)
theorem dX0_doTogether_72 : decode cX0_doTogether 72 = .ok (.iinc 4 1, 3) := by decide +kernel
def fw_dX0_doTogether_75 : List (Nat × Instr × Nat) := [(75, .goto (-65), 3), (78, .aload_n 0, 1), (79, .getfield 9, 3), (82, .iconst (-1), 1), (83, .if_icmp .eq 12, 3), (86, .aload_n 0, 1), (87, .getfield 26, 3), (90, .invokevirtual 86, 3), (93, .iconst 2, 1), (94, .ireturn, 1), (95, .iconst 0, 1), (96, .istore 4, 2), (98, .iload 4, 2), (100, .aload_n 0, 1), (101, .getfield 93, 3), (104, .if_icmp .ge 30, 3), (107, .aload_n 0, 1), (108, .getfield 26, 3), (111, .aload_n 0, 1), (112, .getfield 15, 3), (115, .iload 4, 2), (117, .iaload, 1), (118, .aload_n 0, 1), (119, .getfield 19, 3), (122, .iload 4, 2), (124, .laload, 1), (125, .invokevirtual 103, 3)]
theorem fw_dX0_doTogether_75_c : fchk 75 (cX0_doTogether.data.toList.drop 75) fw_dX0_doTogether_75 = true := by decide +kernel
theorem dX0_doTogether_75 : decode cX0_doTogether 75 = .ok (.goto (-65), 3) := fchk_d fw_dX0_doTogether_75_c (75, .goto (-65), 3) (List.mem_of_getElem? (i := 0) rfl)
theorem dX0_doTogether_78 : decode cX0_doTogether 78 = .ok (.aload_n 0, 1) := fchk_d fw_dX0_doTogether_75_c (78, .aload_n 0, 1) (List.mem_of_getElem? (i := 1) rfl)
theorem dX0_doTogether_79 : decode cX0_doTogether 79 = .ok (.getfield 9, 3) := fchk_d fw_dX0_doTogether_75_c (79, .getfield 9, 3) (List.mem_of_getElem? (i := 2) rfl)
theorem dX0_doTogether_82 : decode cX0_doTogether 82 = .ok (.iconst (-1), 1) := fchk_d fw_dX0_doTogether_75_c (82, .iconst (-1), 1) (List.mem_of_getElem? (i := 3) rfl)
theorem dX0_doTogether_83 : decode cX0_doTogether 83 = .ok (.if_icmp .eq 12, 3) := fchk_d fw_dX0_doTogether_75_c (83, .if_icmp .eq 12, 3) (List.mem_of_getElem? (i := 4) rfl)
theorem dX0_doTogether_86 : decode cX0_doTogether 86 = .ok (.aload_n 0, 1) := fchk_d fw_dX0_doTogether_75_c (86, .aload_n 0, 1) (List.mem_of_getElem? (i := 5) rfl)
theorem dX0_doTogether_87 : decode cX0_doTogether 87 = .ok (.getfield 26, 3) := fchk_d fw_dX0_doTogether_75_c (87, .getfield 26, 3) (List.mem_of_getElem? (i := 6) rfl)
theorem dX0_doTogether_90 : decode cX0_doTogether 90 = .ok (.invokevirtual 86, 3) := fchk_d fw_dX0_doTogether_75_c (90, .invokevirtual 86, 3) (List.mem_of_getElem? (i := 7) rfl)
theorem dX0_doTogether_93 : decode cX0_doTogether 93 = .ok (.iconst 2, 1) := fchk_d fw_dX0_doTogether_75_c (93, .iconst 2, 1) (List.mem_of_getElem? (i := 8) rfl)
theorem dX0_doTogether_94 : decode cX0_doTogether 94 = .ok (.ireturn, 1) := fchk_d fw_dX0_doTogether_75_c (94, .ireturn, 1) (List.mem_of_getElem? (i := 9) rfl)
theorem dX0_doTogether_95 : decode cX0_doTogether 95 = .ok (.iconst 0, 1) := fchk_d fw_dX0_doTogether_75_c (95, .iconst 0, 1) (List.mem_of_getElem? (i := 10) rfl)
theorem dX0_doTogether_96 : decode cX0_doTogether 96 = .ok (.istore 4, 2) := fchk_d fw_dX0_doTogether_75_c (96, .istore 4, 2) (List.mem_of_getElem? (i := 11) rfl)
theorem dX0_doTogether_98 : decode cX0_doTogether 98 = .ok (.iload 4, 2) := fchk_d fw_dX0_doTogether_75_c (98, .iload 4, 2) (List.mem_of_getElem? (i := 12) rfl)
theorem dX0_doTogether_100 : decode cX0_doTogether 100 = .ok (.aload_n 0, 1) := fchk_d fw_dX0_doTogether_75_c (100, .aload_n 0, 1) (List.mem_of_getElem? (i := 13) rfl)
theorem dX0_doTogether_101 : decode cX0_doTogether 101 = .ok (.getfield 93, 3) := fchk_d fw_dX0_doTogether_75_c (101, .getfield 93, 3) (List.mem_of_getElem? (i := 14) rfl)
theorem dX0_doTogether_104 : decode cX0_doTogether 104 = .ok (.if_icmp .ge 30, 3) := fchk_d fw_dX0_doTogether_75_c (104, .if_icmp .ge 30, 3) (List.mem_of_getElem? (i := 15) rfl)
theorem dX0_doTogether_107 : decode cX0_doTogether 107 = .ok (.aload_n 0, 1) := fchk_d fw_dX0_doTogether_75_c (107, .aload_n 0, 1) (List.mem_of_getElem? (i := 16) rfl)
theorem dX0_doTogether_108 : decode cX0_doTogether 108 = .ok (.getfield 26, 3) := fchk_d fw_dX0_doTogether_75_c (108, .getfield 26, 3) (List.mem_of_getElem? (i := 17) rfl)
theorem dX0_doTogether_111 : decode cX0_doTogether 111 = .ok (.aload_n 0, 1) := fchk_d fw_dX0_doTogether_75_c (111, .aload_n 0, 1) (List.mem_of_getElem? (i := 18) rfl)
theorem dX0_doTogether_112 : decode cX0_doTogether 112 = .ok (.getfield 15, 3) := fchk_d fw_dX0_doTogether_75_c (112, .getfield 15, 3) (List.mem_of_getElem? (i := 19) rfl)
theorem dX0_doTogether_115 : decode cX0_doTogether 115 = .ok (.iload 4, 2) := fchk_d fw_dX0_doTogether_75_c (115, .iload 4, 2) (List.mem_of_getElem? (i := 20) rfl)
theorem dX0_doTogether_117 : decode cX0_doTogether 117 = .ok (.iaload, 1) := fchk_d fw_dX0_doTogether_75_c (117, .iaload, 1) (List.mem_of_getElem? (i := 21) rfl)
theorem dX0_doTogether_118 : decode cX0_doTogether 118 = .ok (.aload_n 0, 1) := fchk_d fw_dX0_doTogether_75_c (118, .aload_n 0, 1) (List.mem_of_getElem? (i := 22) rfl)
theorem dX0_doTogether_119 : decode cX0_doTogether 119 = .ok (.getfield 19, 3) := fchk_d fw_dX0_doTogether_75_c (119, .getfield 19, 3) (List.mem_of_getElem? (i := 23) rfl)
theorem dX0_doTogether_122 : decode cX0_doTogether 122 = .ok (.iload 4, 2) := fchk_d fw_dX0_doTogether_75_c (122, .iload 4, 2) (List.mem_of_getElem? (i := 24) rfl)
theorem dX0_doTogether_124 : decode cX0_doTogether 124 = .ok (.laload, 1) := fchk_d fw_dX0_doTogether_75_c (124, .laload, 1) (List.mem_of_getElem? (i := 25) rfl)
theorem dX0_doTogether_125 : decode cX0_doTogether 125 = .ok (.invokevirtual 103, 3) := fchk_d fw_dX0_doTogether_75_c (125, .invokevirtual 103, 3) (List.mem_of_getElem? (i := 26) rfl)
theorem dX0_doTogether_128 : decode cX0_doTogether 128 = .ok (.iinc 4 1, 3) := by decide +kernel
def fw_dX0_doTogether_131 : List (Nat × Instr × Nat) := [(131, .goto (-33), 3), (134, .iload_n 3, 1), (135, .ifCond .eq 7, 3), (138, .iconst 1, 1), (139, .goto 4, 3), (142, .iconst 0, 1), (143, .ireturn, 1)]
theorem fw_dX0_doTogether_131_c : fchk 131 (cX0_doTogether.data.toList.drop 131) fw_dX0_doTogether_131 = true := by decide +kernel
theorem dX0_doTogether_131 : decode cX0_doTogether 131 = .ok (.goto (-33), 3) := fchk_d fw_dX0_doTogether_131_c (131, .goto (-33), 3) (List.mem_of_getElem? (i := 0) rfl)
theorem dX0_doTogether_134 : decode cX0_doTogether 134 = .ok (.iload_n 3, 1) := fchk_d fw_dX0_doTogether_131_c (134, .iload_n 3, 1) (List.mem_of_getElem? (i := 1) rfl)
theorem dX0_doTogether_135 : decode cX0_doTogether 135 = .ok (.ifCond .eq 7, 3) := fchk_d fw_dX0_doTogether_131_c (135, .ifCond .eq 7, 3) (List.mem_of_getElem? (i := 2) rfl)
theorem dX0_doTogether_138 : decode cX0_doTogether 138 = .ok (.iconst 1, 1) := fchk_d fw_dX0_doTogether_131_c (138, .iconst 1, 1) (List.mem_of_getElem? (i := 3) rfl)
theorem dX0_doTogether_139 : decode cX0_doTogether 139 = .ok (.goto 4, 3) := fchk_d fw_dX0_doTogether_131_c (139, .goto 4, 3) (List.mem_of_getElem? (i := 4) rfl)
theorem dX0_doTogether_142 : decode cX0_doTogether 142 = .ok (.iconst 0, 1) := fchk_d fw_dX0_doTogether_131_c (142, .iconst 0, 1) (List.mem_of_getElem? (i := 5) rfl)
theorem dX0_doTogether_143 : decode cX0_doTogether 143 = .ok (.ireturn, 1) := fchk_d fw_dX0_doTogether_131_c (143, .ireturn, 1) (List.mem_of_getElem? (i := 6) rfl)
set_option maxRecDepth 20000 in
theorem ggX0_take_X0_putLater : GoodIn wsX0_take wsX0_putLater := goodIn_r _ [12, 13, 14, 15, 38, 39, 40, 41, 42, 43, 44, 45, 46, 47] rfl (by decide +kernel)
set_option maxRecDepth 20000 in
theorem gX0_take_X0_putLater : GoodIn wsX0_take (wsV RX0 119 RX0 yX0_putLater wsX0_putLater) := goodIn_app (goodIn_of _ (by decide +kernel)) ggX0_take_X0_putLater
set_option maxRecDepth 20000 in
theorem ggX0_take_X0_fetch : GoodIn wsX0_take wsX0_fetch := goodIn_r _ [19, 6, 7, 20, 21, 22, 23, 8, 9, 10, 11, 12, 13, 14, 15, 38, 39, 40, 41, 42, 43, 44, 45, 46, 47, 55, 56, 57, 58, 59] rfl (by decide +kernel)
set_option maxRecDepth 20000 in
theorem gX0_take_X0_fetch : GoodIn wsX0_take (wsV RX0 122 RX0 yX0_fetch wsX0_fetch) := goodIn_app (goodIn_of _ (by decide +kernel)) ggX0_take_X0_fetch
set_option maxRecDepth 20000 in
theorem ggX0_take_X0_keep : GoodIn wsX0_take wsX0_keep := goodIn_r _ [27, 20, 21, 22, 23, 8, 9, 10, 11, 12, 13, 14, 15, 38, 39, 40, 41, 42, 43, 44, 45, 46, 47] rfl (by decide +kernel)
set_option maxRecDepth 20000 in
theorem gX0_take_X0_keep : GoodIn wsX0_take (wsV RX0 126 RX0 yX0_keep wsX0_keep) := goodIn_app (goodIn_of _ (by decide +kernel)) ggX0_take_X0_keep
set_option maxRecDepth 20000 in
theorem ggX0_take_X0_work : GoodIn wsX0_take wsX0_work := goodIn_r _ [31, 6, 32, 33, 34, 35, 36, 37, 8, 9, 10, 11, 12, 13, 14, 15, 38, 39, 40, 41, 42, 43, 44, 45, 46, 47, 55, 56, 57, 58, 59] rfl (by decide +kernel)
set_option maxRecDepth 20000 in
theorem gX0_take_X0_work : GoodIn wsX0_take (wsV RX0 130 RX0 yX0_work wsX0_work) := goodIn_app (goodIn_of _ (by decide +kernel)) ggX0_take_X0_work
def fw_dX0_take_0 : List (Nat × Instr × Nat) := [(0, .aload_n 0, 1), (1, .getfield 30, 3), (4, .getfield 107, 3), (7, .iload_n 1, 1), (8, .iaload, 1), (9, .istore_n 2, 1), (10, .aload_n 0, 1), (11, .getfield 30, 3), (14, .getfield 110, 3), (17, .iload_n 1, 1), (18, .iaload, 1), (19, .istore_n 3, 1), (20, .aload_n 0, 1), (21, .getfield 30, 3), (24, .getfield 113, 3), (27, .iload_n 1, 1), (28, .iaload, 1), (29, .istore 4, 2), (31, .aload_n 0, 1), (32, .getfield 30, 3), (35, .getfield 116, 3), (38, .iload_n 1, 1), (39, .iaload, 1)]
theorem fw_dX0_take_0_c : fchk 0 (cX0_take.data.toList.drop 0) fw_dX0_take_0 = true := by decide +kernel
theorem dX0_take_0 : decode cX0_take 0 = .ok (.aload_n 0, 1) := fchk_d fw_dX0_take_0_c (0, .aload_n 0, 1) (List.mem_of_getElem? (i := 0) rfl)
theorem dX0_take_1 : decode cX0_take 1 = .ok (.getfield 30, 3) := fchk_d fw_dX0_take_0_c (1, .getfield 30, 3) (List.mem_of_getElem? (i := 1) rfl)
theorem dX0_take_4 : decode cX0_take 4 = .ok (.getfield 107, 3) := fchk_d fw_dX0_take_0_c (4, .getfield 107, 3) (List.mem_of_getElem? (i := 2) rfl)
theorem dX0_take_7 : decode cX0_take 7 = .ok (.iload_n 1, 1) := fchk_d fw_dX0_take_0_c (7, .iload_n 1, 1) (List.mem_of_getElem? (i := 3) rfl)
theorem dX0_take_8 : decode cX0_take 8 = .ok (.iaload, 1) := fchk_d fw_dX0_take_0_c (8, .iaload, 1) (List.mem_of_getElem? (i := 4) rfl)
theorem dX0_take_9 : decode cX0_take 9 = .ok (.istore_n 2, 1) := fchk_d fw_dX0_take_0_c (9, .istore_n 2, 1) (List.mem_of_getElem? (i := 5) rfl)
theorem dX0_take_10 : decode cX0_take 10 = .ok (.aload_n 0, 1) := fchk_d fw_dX0_take_0_c (10, .aload_n 0, 1) (List.mem_of_getElem? (i := 6) rfl)
theorem dX0_take_11 : decode cX0_take 11 = .ok (.getfield 30, 3) := fchk_d fw_dX0_take_0_c (11, .getfield 30, 3) (List.mem_of_getElem? (i := 7) rfl)
theorem dX0_take_14 : decode cX0_take 14 = .ok (.getfield 110, 3) := fchk_d fw_dX0_take_0_c (14, .getfield 110, 3) (List.mem_of_getElem? (i := 8) rfl)
theorem dX0_take_17 : decode cX0_take 17 = .ok (.iload_n 1, 1) := fchk_d fw_dX0_take_0_c (17, .iload_n 1, 1) (List.mem_of_getElem? (i := 9) rfl)
theorem dX0_take_18 : decode cX0_take 18 = .ok (.iaload, 1) := fchk_d fw_dX0_take_0_c (18, .iaload, 1) (List.mem_of_getElem? (i := 10) rfl)
theorem dX0_take_19 : decode cX0_take 19 = .ok (.istore_n 3, 1) := fchk_d fw_dX0_take_0_c (19, .istore_n 3, 1) (List.mem_of_getElem? (i := 11) rfl)
theorem dX0_take_20 : decode cX0_take 20 = .ok (.aload_n 0, 1) := fchk_d fw_dX0_take_0_c (20, .aload_n 0, 1) (List.mem_of_getElem? (i := 12) rfl)
theorem dX0_take_21 : decode cX0_take 21 = .ok (.getfield 30, 3) := fchk_d fw_dX0_take_0_c (21, .getfield 30, 3) (List.mem_of_getElem? (i := 13) rfl)
theorem dX0_take_24 : decode cX0_take 24 = .ok (.getfield 113, 3) := fchk_d fw_dX0_take_0_c (24, .getfield 113, 3) (List.mem_of_getElem? (i := 14) rfl)
theorem dX0_take_27 : decode cX0_take 27 = .ok (.iload_n 1, 1) := fchk_d fw_dX0_take_0_c (27, .iload_n 1, 1) (List.mem_of_getElem? (i := 15) rfl)
theorem dX0_take_28 : decode cX0_take 28 = .ok (.iaload, 1) := fchk_d fw_dX0_take_0_c (28, .iaload, 1) (List.mem_of_getElem? (i := 16) rfl)
theorem dX0_take_29 : decode cX0_take 29 = .ok (.istore 4, 2) := fchk_d fw_dX0_take_0_c (29, .istore 4, 2) (List.mem_of_getElem? (i := 17) rfl)
theorem dX0_take_31 : decode cX0_take 31 = .ok (.aload_n 0, 1) := fchk_d fw_dX0_take_0_c (31, .aload_n 0, 1) (List.mem_of_getElem? (i := 18) rfl)
theorem dX0_take_32 : decode cX0_take 32 = .ok (.getfield 30, 3) := fchk_d fw_dX0_take_0_c (32, .getfield 30, 3) (List.mem_of_getElem? (i := 19) rfl)
theorem dX0_take_35 : decode cX0_take 35 = .ok (.getfield 116, 3) := fchk_d fw_dX0_take_0_c (35, .getfield 116, 3) (List.mem_of_getElem? (i := 20) rfl)
theorem dX0_take_38 : decode cX0_take 38 = .ok (.iload_n 1, 1) := fchk_d fw_dX0_take_0_c (38, .iload_n 1, 1) (List.mem_of_getElem? (i := 21) rfl)
theorem dX0_take_39 : decode cX0_take 39 = .ok (.iaload, 1) := fchk_d fw_dX0_take_0_c (39, .iaload, 1) (List.mem_of_getElem? (i := 22) rfl)
theorem dX0_take_40 : decode cX0_take 40 = .ok (.tableswitch 214 0 10 #[60, 69, 214, 214, 214, 214, 85, 125, 140, 164, 189], 60) := by decide +kernel
def fw_dX0_take_100 : List (Nat × Instr × Nat) := [(100, .aload_n 0, 1), (101, .iload_n 2, 1), (102, .iload_n 3, 1), (103, .i2l, 1), (104, .invokevirtual 119, 3), (107, .iconst 0, 1), (108, .ireturn, 1), (109, .aload_n 0, 1), (110, .iload_n 2, 1), (111, .aload_n 0, 1), (112, .getfield 26, 3), (115, .getfield 77, 3), (118, .iload_n 3, 1), (119, .laload, 1), (120, .invokevirtual 119, 3), (123, .iconst 0, 1), (124, .ireturn, 1), (125, .aload_n 0, 1), (126, .iload_n 2, 1), (127, .iload 4, 2), (129, .ifCond .ge 19, 3), (132, .aload_n 0, 1), (133, .getfield 26, 3), (136, .getfield 77, 3), (139, .iload_n 3, 1), (140, .laload, 1), (141, .iload 4, 2), (143, .ineg, 1), (144, .lshr, 1), (145, .goto 15, 3), (148, .aload_n 0, 1), (149, .getfield 26, 3), (152, .getfield 77, 3), (155, .iload_n 3, 1), (156, .laload, 1), (157, .iload 4, 2), (159, .lshl, 1), (160, .invokevirtual 119, 3), (163, .iconst 0, 1), (164, .ireturn, 1)]
theorem fw_dX0_take_100_c : fchk 100 (cX0_take.data.toList.drop 100) fw_dX0_take_100 = true := by decide +kernel
theorem dX0_take_100 : decode cX0_take 100 = .ok (.aload_n 0, 1) := fchk_d fw_dX0_take_100_c (100, .aload_n 0, 1) (List.mem_of_getElem? (i := 0) rfl)
theorem dX0_take_101 : decode cX0_take 101 = .ok (.iload_n 2, 1) := fchk_d fw_dX0_take_100_c (101, .iload_n 2, 1) (List.mem_of_getElem? (i := 1) rfl)
theorem dX0_take_102 : decode cX0_take 102 = .ok (.iload_n 3, 1) := fchk_d fw_dX0_take_100_c (102, .iload_n 3, 1) (List.mem_of_getElem? (i := 2) rfl)
theorem dX0_take_103 : decode cX0_take 103 = .ok (.i2l, 1) := fchk_d fw_dX0_take_100_c (103, .i2l, 1) (List.mem_of_getElem? (i := 3) rfl)
theorem dX0_take_104 : decode cX0_take 104 = .ok (.invokevirtual 119, 3) := fchk_d fw_dX0_take_100_c (104, .invokevirtual 119, 3) (List.mem_of_getElem? (i := 4) rfl)
theorem dX0_take_107 : decode cX0_take 107 = .ok (.iconst 0, 1) := fchk_d fw_dX0_take_100_c (107, .iconst 0, 1) (List.mem_of_getElem? (i := 5) rfl)
theorem dX0_take_108 : decode cX0_take 108 = .ok (.ireturn, 1) := fchk_d fw_dX0_take_100_c (108, .ireturn, 1) (List.mem_of_getElem? (i := 6) rfl)
theorem dX0_take_109 : decode cX0_take 109 = .ok (.aload_n 0, 1) := fchk_d fw_dX0_take_100_c (109, .aload_n 0, 1) (List.mem_of_getElem? (i := 7) rfl)
theorem dX0_take_110 : decode cX0_take 110 = .ok (.iload_n 2, 1) := fchk_d fw_dX0_take_100_c (110, .iload_n 2, 1) (List.mem_of_getElem? (i := 8) rfl)
theorem dX0_take_111 : decode cX0_take 111 = .ok (.aload_n 0, 1) := fchk_d fw_dX0_take_100_c (111, .aload_n 0, 1) (List.mem_of_getElem? (i := 9) rfl)
theorem dX0_take_112 : decode cX0_take 112 = .ok (.getfield 26, 3) := fchk_d fw_dX0_take_100_c (112, .getfield 26, 3) (List.mem_of_getElem? (i := 10) rfl)
theorem dX0_take_115 : decode cX0_take 115 = .ok (.getfield 77, 3) := fchk_d fw_dX0_take_100_c (115, .getfield 77, 3) (List.mem_of_getElem? (i := 11) rfl)
theorem dX0_take_118 : decode cX0_take 118 = .ok (.iload_n 3, 1) := fchk_d fw_dX0_take_100_c (118, .iload_n 3, 1) (List.mem_of_getElem? (i := 12) rfl)
theorem dX0_take_119 : decode cX0_take 119 = .ok (.laload, 1) := fchk_d fw_dX0_take_100_c (119, .laload, 1) (List.mem_of_getElem? (i := 13) rfl)
theorem dX0_take_120 : decode cX0_take 120 = .ok (.invokevirtual 119, 3) := fchk_d fw_dX0_take_100_c (120, .invokevirtual 119, 3) (List.mem_of_getElem? (i := 14) rfl)
theorem dX0_take_123 : decode cX0_take 123 = .ok (.iconst 0, 1) := fchk_d fw_dX0_take_100_c (123, .iconst 0, 1) (List.mem_of_getElem? (i := 15) rfl)
theorem dX0_take_124 : decode cX0_take 124 = .ok (.ireturn, 1) := fchk_d fw_dX0_take_100_c (124, .ireturn, 1) (List.mem_of_getElem? (i := 16) rfl)
theorem dX0_take_125 : decode cX0_take 125 = .ok (.aload_n 0, 1) := fchk_d fw_dX0_take_100_c (125, .aload_n 0, 1) (List.mem_of_getElem? (i := 17) rfl)
theorem dX0_take_126 : decode cX0_take 126 = .ok (.iload_n 2, 1) := fchk_d fw_dX0_take_100_c (126, .iload_n 2, 1) (List.mem_of_getElem? (i := 18) rfl)
theorem dX0_take_127 : decode cX0_take 127 = .ok (.iload 4, 2) := fchk_d fw_dX0_take_100_c (127, .iload 4, 2) (List.mem_of_getElem? (i := 19) rfl)
theorem dX0_take_129 : decode cX0_take 129 = .ok (.ifCond .ge 19, 3) := fchk_d fw_dX0_take_100_c (129, .ifCond .ge 19, 3) (List.mem_of_getElem? (i := 20) rfl)
theorem dX0_take_132 : decode cX0_take 132 = .ok (.aload_n 0, 1) := fchk_d fw_dX0_take_100_c (132, .aload_n 0, 1) (List.mem_of_getElem? (i := 21) rfl)
theorem dX0_take_133 : decode cX0_take 133 = .ok (.getfield 26, 3) := fchk_d fw_dX0_take_100_c (133, .getfield 26, 3) (List.mem_of_getElem? (i := 22) rfl)
theorem dX0_take_136 : decode cX0_take 136 = .ok (.getfield 77, 3) := fchk_d fw_dX0_take_100_c (136, .getfield 77, 3) (List.mem_of_getElem? (i := 23) rfl)
theorem dX0_take_139 : decode cX0_take 139 = .ok (.iload_n 3, 1) := fchk_d fw_dX0_take_100_c (139, .iload_n 3, 1) (List.mem_of_getElem? (i := 24) rfl)
theorem dX0_take_140 : decode cX0_take 140 = .ok (.laload, 1) := fchk_d fw_dX0_take_100_c (140, .laload, 1) (List.mem_of_getElem? (i := 25) rfl)
theorem dX0_take_141 : decode cX0_take 141 = .ok (.iload 4, 2) := fchk_d fw_dX0_take_100_c (141, .iload 4, 2) (List.mem_of_getElem? (i := 26) rfl)
theorem dX0_take_143 : decode cX0_take 143 = .ok (.ineg, 1) := fchk_d fw_dX0_take_100_c (143, .ineg, 1) (List.mem_of_getElem? (i := 27) rfl)
theorem dX0_take_144 : decode cX0_take 144 = .ok (.lshr, 1) := fchk_d fw_dX0_take_100_c (144, .lshr, 1) (List.mem_of_getElem? (i := 28) rfl)
theorem dX0_take_145 : decode cX0_take 145 = .ok (.goto 15, 3) := fchk_d fw_dX0_take_100_c (145, .goto 15, 3) (List.mem_of_getElem? (i := 29) rfl)
theorem dX0_take_148 : decode cX0_take 148 = .ok (.aload_n 0, 1) := fchk_d fw_dX0_take_100_c (148, .aload_n 0, 1) (List.mem_of_getElem? (i := 30) rfl)
theorem dX0_take_149 : decode cX0_take 149 = .ok (.getfield 26, 3) := fchk_d fw_dX0_take_100_c (149, .getfield 26, 3) (List.mem_of_getElem? (i := 31) rfl)
theorem dX0_take_152 : decode cX0_take 152 = .ok (.getfield 77, 3) := fchk_d fw_dX0_take_100_c (152, .getfield 77, 3) (List.mem_of_getElem? (i := 32) rfl)
theorem dX0_take_155 : decode cX0_take 155 = .ok (.iload_n 3, 1) := fchk_d fw_dX0_take_100_c (155, .iload_n 3, 1) (List.mem_of_getElem? (i := 33) rfl)
theorem dX0_take_156 : decode cX0_take 156 = .ok (.laload, 1) := fchk_d fw_dX0_take_100_c (156, .laload, 1) (List.mem_of_getElem? (i := 34) rfl)
theorem dX0_take_157 : decode cX0_take 157 = .ok (.iload 4, 2) := fchk_d fw_dX0_take_100_c (157, .iload 4, 2) (List.mem_of_getElem? (i := 35) rfl)
theorem dX0_take_159 : decode cX0_take 159 = .ok (.lshl, 1) := fchk_d fw_dX0_take_100_c (159, .lshl, 1) (List.mem_of_getElem? (i := 36) rfl)
theorem dX0_take_160 : decode cX0_take 160 = .ok (.invokevirtual 119, 3) := fchk_d fw_dX0_take_100_c (160, .invokevirtual 119, 3) (List.mem_of_getElem? (i := 37) rfl)
theorem dX0_take_163 : decode cX0_take 163 = .ok (.iconst 0, 1) := fchk_d fw_dX0_take_100_c (163, .iconst 0, 1) (List.mem_of_getElem? (i := 38) rfl)
theorem dX0_take_164 : decode cX0_take 164 = .ok (.ireturn, 1) := fchk_d fw_dX0_take_100_c (164, .ireturn, 1) (List.mem_of_getElem? (i := 39) rfl)
def fw_dX0_take_165 : List (Nat × Instr × Nat) := [(165, .aload_n 0, 1), (166, .iload_n 2, 1), (167, .aload_n 0, 1), (168, .getfield 26, 3), (171, .getfield 77, 3), (174, .iload_n 3, 1), (175, .laload, 1), (176, .invokevirtual 122, 3), (179, .ireturn, 1), (180, .aload_n 0, 1), (181, .aload_n 0, 1), (182, .getfield 26, 3), (185, .getfield 77, 3), (188, .iload_n 3, 1), (189, .laload, 1), (190, .aload_n 0, 1), (191, .getfield 26, 3), (194, .getfield 77, 3), (197, .iload 4, 2), (199, .laload, 1), (200, .invokevirtual 126, 3), (203, .ireturn, 1), (204, .aload_n 0, 1), (205, .getfield 26, 3), (208, .getfield 77, 3), (211, .bipush 8, 2), (213, .iload_n 3, 1), (214, .iadd, 1), (215, .laload, 1), (216, .iload 4, 2), (218, .i2l, 1), (219, .lcmp, 1), (220, .ifCond .ne 7, 3), (223, .iconst 1, 1), (224, .goto 4, 3), (227, .iconst 0, 1), (228, .ireturn, 1), (229, .aload_n 0, 1), (230, .getfield 26, 3), (233, .getfield 77, 3)]
theorem fw_dX0_take_165_c : fchk 165 (cX0_take.data.toList.drop 165) fw_dX0_take_165 = true := by decide +kernel
theorem dX0_take_165 : decode cX0_take 165 = .ok (.aload_n 0, 1) := fchk_d fw_dX0_take_165_c (165, .aload_n 0, 1) (List.mem_of_getElem? (i := 0) rfl)
theorem dX0_take_166 : decode cX0_take 166 = .ok (.iload_n 2, 1) := fchk_d fw_dX0_take_165_c (166, .iload_n 2, 1) (List.mem_of_getElem? (i := 1) rfl)
theorem dX0_take_167 : decode cX0_take 167 = .ok (.aload_n 0, 1) := fchk_d fw_dX0_take_165_c (167, .aload_n 0, 1) (List.mem_of_getElem? (i := 2) rfl)
theorem dX0_take_168 : decode cX0_take 168 = .ok (.getfield 26, 3) := fchk_d fw_dX0_take_165_c (168, .getfield 26, 3) (List.mem_of_getElem? (i := 3) rfl)
theorem dX0_take_171 : decode cX0_take 171 = .ok (.getfield 77, 3) := fchk_d fw_dX0_take_165_c (171, .getfield 77, 3) (List.mem_of_getElem? (i := 4) rfl)
theorem dX0_take_174 : decode cX0_take 174 = .ok (.iload_n 3, 1) := fchk_d fw_dX0_take_165_c (174, .iload_n 3, 1) (List.mem_of_getElem? (i := 5) rfl)
theorem dX0_take_175 : decode cX0_take 175 = .ok (.laload, 1) := fchk_d fw_dX0_take_165_c (175, .laload, 1) (List.mem_of_getElem? (i := 6) rfl)
theorem dX0_take_176 : decode cX0_take 176 = .ok (.invokevirtual 122, 3) := fchk_d fw_dX0_take_165_c (176, .invokevirtual 122, 3) (List.mem_of_getElem? (i := 7) rfl)
theorem dX0_take_179 : decode cX0_take 179 = .ok (.ireturn, 1) := fchk_d fw_dX0_take_165_c (179, .ireturn, 1) (List.mem_of_getElem? (i := 8) rfl)
theorem dX0_take_180 : decode cX0_take 180 = .ok (.aload_n 0, 1) := fchk_d fw_dX0_take_165_c (180, .aload_n 0, 1) (List.mem_of_getElem? (i := 9) rfl)
theorem dX0_take_181 : decode cX0_take 181 = .ok (.aload_n 0, 1) := fchk_d fw_dX0_take_165_c (181, .aload_n 0, 1) (List.mem_of_getElem? (i := 10) rfl)
theorem dX0_take_182 : decode cX0_take 182 = .ok (.getfield 26, 3) := fchk_d fw_dX0_take_165_c (182, .getfield 26, 3) (List.mem_of_getElem? (i := 11) rfl)
theorem dX0_take_185 : decode cX0_take 185 = .ok (.getfield 77, 3) := fchk_d fw_dX0_take_165_c (185, .getfield 77, 3) (List.mem_of_getElem? (i := 12) rfl)
theorem dX0_take_188 : decode cX0_take 188 = .ok (.iload_n 3, 1) := fchk_d fw_dX0_take_165_c (188, .iload_n 3, 1) (List.mem_of_getElem? (i := 13) rfl)
theorem dX0_take_189 : decode cX0_take 189 = .ok (.laload, 1) := fchk_d fw_dX0_take_165_c (189, .laload, 1) (List.mem_of_getElem? (i := 14) rfl)
theorem dX0_take_190 : decode cX0_take 190 = .ok (.aload_n 0, 1) := fchk_d fw_dX0_take_165_c (190, .aload_n 0, 1) (List.mem_of_getElem? (i := 15) rfl)
theorem dX0_take_191 : decode cX0_take 191 = .ok (.getfield 26, 3) := fchk_d fw_dX0_take_165_c (191, .getfield 26, 3) (List.mem_of_getElem? (i := 16) rfl)
theorem dX0_take_194 : decode cX0_take 194 = .ok (.getfield 77, 3) := fchk_d fw_dX0_take_165_c (194, .getfield 77, 3) (List.mem_of_getElem? (i := 17) rfl)
theorem dX0_take_197 : decode cX0_take 197 = .ok (.iload 4, 2) := fchk_d fw_dX0_take_165_c (197, .iload 4, 2) (List.mem_of_getElem? (i := 18) rfl)
theorem dX0_take_199 : decode cX0_take 199 = .ok (.laload, 1) := fchk_d fw_dX0_take_165_c (199, .laload, 1) (List.mem_of_getElem? (i := 19) rfl)
theorem dX0_take_200 : decode cX0_take 200 = .ok (.invokevirtual 126, 3) := fchk_d fw_dX0_take_165_c (200, .invokevirtual 126, 3) (List.mem_of_getElem? (i := 20) rfl)
theorem dX0_take_203 : decode cX0_take 203 = .ok (.ireturn, 1) := fchk_d fw_dX0_take_165_c (203, .ireturn, 1) (List.mem_of_getElem? (i := 21) rfl)
theorem dX0_take_204 : decode cX0_take 204 = .ok (.aload_n 0, 1) := fchk_d fw_dX0_take_165_c (204, .aload_n 0, 1) (List.mem_of_getElem? (i := 22) rfl)
theorem dX0_take_205 : decode cX0_take 205 = .ok (.getfield 26, 3) := fchk_d fw_dX0_take_165_c (205, .getfield 26, 3) (List.mem_of_getElem? (i := 23) rfl)
theorem dX0_take_208 : decode cX0_take 208 = .ok (.getfield 77, 3) := fchk_d fw_dX0_take_165_c (208, .getfield 77, 3) (List.mem_of_getElem? (i := 24) rfl)
theorem dX0_take_211 : decode cX0_take 211 = .ok (.bipush 8, 2) := fchk_d fw_dX0_take_165_c (211, .bipush 8, 2) (List.mem_of_getElem? (i := 25) rfl)
theorem dX0_take_213 : decode cX0_take 213 = .ok (.iload_n 3, 1) := fchk_d fw_dX0_take_165_c (213, .iload_n 3, 1) (List.mem_of_getElem? (i := 26) rfl)
theorem dX0_take_214 : decode cX0_take 214 = .ok (.iadd, 1) := fchk_d fw_dX0_take_165_c (214, .iadd, 1) (List.mem_of_getElem? (i := 27) rfl)
theorem dX0_take_215 : decode cX0_take 215 = .ok (.laload, 1) := fchk_d fw_dX0_take_165_c (215, .laload, 1) (List.mem_of_getElem? (i := 28) rfl)
theorem dX0_take_216 : decode cX0_take 216 = .ok (.iload 4, 2) := fchk_d fw_dX0_take_165_c (216, .iload 4, 2) (List.mem_of_getElem? (i := 29) rfl)
theorem dX0_take_218 : decode cX0_take 218 = .ok (.i2l, 1) := fchk_d fw_dX0_take_165_c (218, .i2l, 1) (List.mem_of_getElem? (i := 30) rfl)
theorem dX0_take_219 : decode cX0_take 219 = .ok (.lcmp, 1) := fchk_d fw_dX0_take_165_c (219, .lcmp, 1) (List.mem_of_getElem? (i := 31) rfl)
theorem dX0_take_220 : decode cX0_take 220 = .ok (.ifCond .ne 7, 3) := fchk_d fw_dX0_take_165_c (220, .ifCond .ne 7, 3) (List.mem_of_getElem? (i := 32) rfl)
theorem dX0_take_223 : decode cX0_take 223 = .ok (.iconst 1, 1) := fchk_d fw_dX0_take_165_c (223, .iconst 1, 1) (List.mem_of_getElem? (i := 33) rfl)
theorem dX0_take_224 : decode cX0_take 224 = .ok (.goto 4, 3) := fchk_d fw_dX0_take_165_c (224, .goto 4, 3) (List.mem_of_getElem? (i := 34) rfl)
theorem dX0_take_227 : decode cX0_take 227 = .ok (.iconst 0, 1) := fchk_d fw_dX0_take_165_c (227, .iconst 0, 1) (List.mem_of_getElem? (i := 35) rfl)
theorem dX0_take_228 : decode cX0_take 228 = .ok (.ireturn, 1) := fchk_d fw_dX0_take_165_c (228, .ireturn, 1) (List.mem_of_getElem? (i := 36) rfl)
theorem dX0_take_229 : decode cX0_take 229 = .ok (.aload_n 0, 1) := fchk_d fw_dX0_take_165_c (229, .aload_n 0, 1) (List.mem_of_getElem? (i := 37) rfl)
theorem dX0_take_230 : decode cX0_take 230 = .ok (.getfield 26, 3) := fchk_d fw_dX0_take_165_c (230, .getfield 26, 3) (List.mem_of_getElem? (i := 38) rfl)
theorem dX0_take_233 : decode cX0_take 233 = .ok (.getfield 77, 3) := fchk_d fw_dX0_take_165_c (233, .getfield 77, 3) (List.mem_of_getElem? (i := 39) rfl)
def fw_dX0_take_236 : List (Nat × Instr × Nat) := [(236, .bipush 8, 2), (238, .iload_n 3, 1), (239, .iadd, 1), (240, .laload, 1), (241, .iload 4, 2), (243, .i2l, 1), (244, .lcmp, 1), (245, .ifCond .ne 7, 3), (248, .iconst 2, 1), (249, .goto 4, 3), (252, .iconst 0, 1), (253, .ireturn, 1), (254, .aload_n 0, 1), (255, .aload_n 0, 1), (256, .getfield 30, 3), (259, .getfield 116, 3), (262, .iload_n 1, 1), (263, .iaload, 1), (264, .iload_n 2, 1), (265, .aload_n 0, 1), (266, .getfield 26, 3), (269, .getfield 77, 3), (272, .iload_n 3, 1), (273, .laload, 1), (274, .aload_n 0, 1), (275, .getfield 26, 3), (278, .getfield 77, 3), (281, .iload 4, 2), (283, .laload, 1), (284, .invokevirtual 130, 3), (287, .iconst 0, 1), (288, .ireturn, 1)]
theorem fw_dX0_take_236_c : fchk 236 (cX0_take.data.toList.drop 236) fw_dX0_take_236 = true := by decide +kernel
theorem dX0_take_236 : decode cX0_take 236 = .ok (.bipush 8, 2) := fchk_d fw_dX0_take_236_c (236, .bipush 8, 2) (List.mem_of_getElem? (i := 0) rfl)
theorem dX0_take_238 : decode cX0_take 238 = .ok (.iload_n 3, 1) := fchk_d fw_dX0_take_236_c (238, .iload_n 3, 1) (List.mem_of_getElem? (i := 1) rfl)
theorem dX0_take_239 : decode cX0_take 239 = .ok (.iadd, 1) := fchk_d fw_dX0_take_236_c (239, .iadd, 1) (List.mem_of_getElem? (i := 2) rfl)
theorem dX0_take_240 : decode cX0_take 240 = .ok (.laload, 1) := fchk_d fw_dX0_take_236_c (240, .laload, 1) (List.mem_of_getElem? (i := 3) rfl)
theorem dX0_take_241 : decode cX0_take 241 = .ok (.iload 4, 2) := fchk_d fw_dX0_take_236_c (241, .iload 4, 2) (List.mem_of_getElem? (i := 4) rfl)
theorem dX0_take_243 : decode cX0_take 243 = .ok (.i2l, 1) := fchk_d fw_dX0_take_236_c (243, .i2l, 1) (List.mem_of_getElem? (i := 5) rfl)
theorem dX0_take_244 : decode cX0_take 244 = .ok (.lcmp, 1) := fchk_d fw_dX0_take_236_c (244, .lcmp, 1) (List.mem_of_getElem? (i := 6) rfl)
theorem dX0_take_245 : decode cX0_take 245 = .ok (.ifCond .ne 7, 3) := fchk_d fw_dX0_take_236_c (245, .ifCond .ne 7, 3) (List.mem_of_getElem? (i := 7) rfl)
theorem dX0_take_248 : decode cX0_take 248 = .ok (.iconst 2, 1) := fchk_d fw_dX0_take_236_c (248, .iconst 2, 1) (List.mem_of_getElem? (i := 8) rfl)
theorem dX0_take_249 : decode cX0_take 249 = .ok (.goto 4, 3) := fchk_d fw_dX0_take_236_c (249, .goto 4, 3) (List.mem_of_getElem? (i := 9) rfl)
theorem dX0_take_252 : decode cX0_take 252 = .ok (.iconst 0, 1) := fchk_d fw_dX0_take_236_c (252, .iconst 0, 1) (List.mem_of_getElem? (i := 10) rfl)
theorem dX0_take_253 : decode cX0_take 253 = .ok (.ireturn, 1) := fchk_d fw_dX0_take_236_c (253, .ireturn, 1) (List.mem_of_getElem? (i := 11) rfl)
theorem dX0_take_254 : decode cX0_take 254 = .ok (.aload_n 0, 1) := fchk_d fw_dX0_take_236_c (254, .aload_n 0, 1) (List.mem_of_getElem? (i := 12) rfl)
theorem dX0_take_255 : decode cX0_take 255 = .ok (.aload_n 0, 1) := fchk_d fw_dX0_take_236_c (255, .aload_n 0, 1) (List.mem_of_getElem? (i := 13) rfl)
theorem dX0_take_256 : decode cX0_take 256 = .ok (.getfield 30, 3) := fchk_d fw_dX0_take_236_c (256, .getfield 30, 3) (List.mem_of_getElem? (i := 14) rfl)
theorem dX0_take_259 : decode cX0_take 259 = .ok (.getfield 116, 3) := fchk_d fw_dX0_take_236_c (259, .getfield 116, 3) (List.mem_of_getElem? (i := 15) rfl)
theorem dX0_take_262 : decode cX0_take 262 = .ok (.iload_n 1, 1) := fchk_d fw_dX0_take_236_c (262, .iload_n 1, 1) (List.mem_of_getElem? (i := 16) rfl)
theorem dX0_take_263 : decode cX0_take 263 = .ok (.iaload, 1) := fchk_d fw_dX0_take_236_c (263, .iaload, 1) (List.mem_of_getElem? (i := 17) rfl)
theorem dX0_take_264 : decode cX0_take 264 = .ok (.iload_n 2, 1) := fchk_d fw_dX0_take_236_c (264, .iload_n 2, 1) (List.mem_of_getElem? (i := 18) rfl)
theorem dX0_take_265 : decode cX0_take 265 = .ok (.aload_n 0, 1) := fchk_d fw_dX0_take_236_c (265, .aload_n 0, 1) (List.mem_of_getElem? (i := 19) rfl)
theorem dX0_take_266 : decode cX0_take 266 = .ok (.getfield 26, 3) := fchk_d fw_dX0_take_236_c (266, .getfield 26, 3) (List.mem_of_getElem? (i := 20) rfl)
theorem dX0_take_269 : decode cX0_take 269 = .ok (.getfield 77, 3) := fchk_d fw_dX0_take_236_c (269, .getfield 77, 3) (List.mem_of_getElem? (i := 21) rfl)
theorem dX0_take_272 : decode cX0_take 272 = .ok (.iload_n 3, 1) := fchk_d fw_dX0_take_236_c (272, .iload_n 3, 1) (List.mem_of_getElem? (i := 22) rfl)
theorem dX0_take_273 : decode cX0_take 273 = .ok (.laload, 1) := fchk_d fw_dX0_take_236_c (273, .laload, 1) (List.mem_of_getElem? (i := 23) rfl)
theorem dX0_take_274 : decode cX0_take 274 = .ok (.aload_n 0, 1) := fchk_d fw_dX0_take_236_c (274, .aload_n 0, 1) (List.mem_of_getElem? (i := 24) rfl)
theorem dX0_take_275 : decode cX0_take 275 = .ok (.getfield 26, 3) := fchk_d fw_dX0_take_236_c (275, .getfield 26, 3) (List.mem_of_getElem? (i := 25) rfl)
theorem dX0_take_278 : decode cX0_take 278 = .ok (.getfield 77, 3) := fchk_d fw_dX0_take_236_c (278, .getfield 77, 3) (List.mem_of_getElem? (i := 26) rfl)
theorem dX0_take_281 : decode cX0_take 281 = .ok (.iload 4, 2) := fchk_d fw_dX0_take_236_c (281, .iload 4, 2) (List.mem_of_getElem? (i := 27) rfl)
theorem dX0_take_283 : decode cX0_take 283 = .ok (.laload, 1) := fchk_d fw_dX0_take_236_c (283, .laload, 1) (List.mem_of_getElem? (i := 28) rfl)
theorem dX0_take_284 : decode cX0_take 284 = .ok (.invokevirtual 130, 3) := fchk_d fw_dX0_take_236_c (284, .invokevirtual 130, 3) (List.mem_of_getElem? (i := 29) rfl)
theorem dX0_take_287 : decode cX0_take 287 = .ok (.iconst 0, 1) := fchk_d fw_dX0_take_236_c (287, .iconst 0, 1) (List.mem_of_getElem? (i := 30) rfl)
theorem dX0_take_288 : decode cX0_take 288 = .ok (.ireturn, 1) := fchk_d fw_dX0_take_236_c (288, .ireturn, 1) (List.mem_of_getElem? (i := 31) rfl)
set_option maxRecDepth 20000 in
theorem ggX0_fetch_X7_isCell : GoodIn wsX0_fetch wsX7_isCell := goodIn_r _ [5, 6] rfl (by decide +kernel)
set_option maxRecDepth 20000 in
theorem gX0_fetch_X7_isCell_n134 : GoodIn wsX0_fetch (wsX7_isCell) := ggX0_fetch_X7_isCell
set_option maxRecDepth 20000 in
theorem ggX0_fetch_X0_putLater : GoodIn wsX0_fetch wsX0_putLater := goodIn_r _ [11, 12, 13, 14, 15, 16, 17, 18, 19, 20, 21, 22, 23, 24] rfl (by decide +kernel)
set_option maxRecDepth 20000 in
theorem gX0_fetch_X0_putLater : GoodIn wsX0_fetch (wsV RX0 119 RX0 yX0_putLater wsX0_putLater) := goodIn_app (goodIn_of _ (by decide +kernel)) ggX0_fetch_X0_putLater
def fw_dX0_fetch_0 : List (Nat × Instr × Nat) := [(0, .lload_n 2, 1), (1, .invokestatic 134, 3), (4, .ifCond .ne 5, 3), (7, .iconst 2, 1), (8, .ireturn, 1), (9, .aload_n 0, 1), (10, .iload_n 1, 1), (11, .aload_n 0, 1), (12, .getfield 26, 3), (15, .getfield 77, 3), (18, .bipush 10, 2), (20, .lload_n 2, 1), (21, .l2i, 1), (22, .iadd, 1), (23, .laload, 1), (24, .invokevirtual 119, 3), (27, .iconst 0, 1), (28, .ireturn, 1)]
theorem fw_dX0_fetch_0_c : fchk 0 (cX0_fetch.data.toList.drop 0) fw_dX0_fetch_0 = true := by decide +kernel
theorem dX0_fetch_0 : decode cX0_fetch 0 = .ok (.lload_n 2, 1) := fchk_d fw_dX0_fetch_0_c (0, .lload_n 2, 1) (List.mem_of_getElem? (i := 0) rfl)
theorem dX0_fetch_1 : decode cX0_fetch 1 = .ok (.invokestatic 134, 3) := fchk_d fw_dX0_fetch_0_c (1, .invokestatic 134, 3) (List.mem_of_getElem? (i := 1) rfl)
theorem dX0_fetch_4 : decode cX0_fetch 4 = .ok (.ifCond .ne 5, 3) := fchk_d fw_dX0_fetch_0_c (4, .ifCond .ne 5, 3) (List.mem_of_getElem? (i := 2) rfl)
theorem dX0_fetch_7 : decode cX0_fetch 7 = .ok (.iconst 2, 1) := fchk_d fw_dX0_fetch_0_c (7, .iconst 2, 1) (List.mem_of_getElem? (i := 3) rfl)
theorem dX0_fetch_8 : decode cX0_fetch 8 = .ok (.ireturn, 1) := fchk_d fw_dX0_fetch_0_c (8, .ireturn, 1) (List.mem_of_getElem? (i := 4) rfl)
theorem dX0_fetch_9 : decode cX0_fetch 9 = .ok (.aload_n 0, 1) := fchk_d fw_dX0_fetch_0_c (9, .aload_n 0, 1) (List.mem_of_getElem? (i := 5) rfl)
theorem dX0_fetch_10 : decode cX0_fetch 10 = .ok (.iload_n 1, 1) := fchk_d fw_dX0_fetch_0_c (10, .iload_n 1, 1) (List.mem_of_getElem? (i := 6) rfl)
theorem dX0_fetch_11 : decode cX0_fetch 11 = .ok (.aload_n 0, 1) := fchk_d fw_dX0_fetch_0_c (11, .aload_n 0, 1) (List.mem_of_getElem? (i := 7) rfl)
theorem dX0_fetch_12 : decode cX0_fetch 12 = .ok (.getfield 26, 3) := fchk_d fw_dX0_fetch_0_c (12, .getfield 26, 3) (List.mem_of_getElem? (i := 8) rfl)
theorem dX0_fetch_15 : decode cX0_fetch 15 = .ok (.getfield 77, 3) := fchk_d fw_dX0_fetch_0_c (15, .getfield 77, 3) (List.mem_of_getElem? (i := 9) rfl)
theorem dX0_fetch_18 : decode cX0_fetch 18 = .ok (.bipush 10, 2) := fchk_d fw_dX0_fetch_0_c (18, .bipush 10, 2) (List.mem_of_getElem? (i := 10) rfl)
theorem dX0_fetch_20 : decode cX0_fetch 20 = .ok (.lload_n 2, 1) := fchk_d fw_dX0_fetch_0_c (20, .lload_n 2, 1) (List.mem_of_getElem? (i := 11) rfl)
theorem dX0_fetch_21 : decode cX0_fetch 21 = .ok (.l2i, 1) := fchk_d fw_dX0_fetch_0_c (21, .l2i, 1) (List.mem_of_getElem? (i := 12) rfl)
theorem dX0_fetch_22 : decode cX0_fetch 22 = .ok (.iadd, 1) := fchk_d fw_dX0_fetch_0_c (22, .iadd, 1) (List.mem_of_getElem? (i := 13) rfl)
theorem dX0_fetch_23 : decode cX0_fetch 23 = .ok (.laload, 1) := fchk_d fw_dX0_fetch_0_c (23, .laload, 1) (List.mem_of_getElem? (i := 14) rfl)
theorem dX0_fetch_24 : decode cX0_fetch 24 = .ok (.invokevirtual 119, 3) := fchk_d fw_dX0_fetch_0_c (24, .invokevirtual 119, 3) (List.mem_of_getElem? (i := 15) rfl)
theorem dX0_fetch_27 : decode cX0_fetch 27 = .ok (.iconst 0, 1) := fchk_d fw_dX0_fetch_0_c (27, .iconst 0, 1) (List.mem_of_getElem? (i := 16) rfl)
theorem dX0_fetch_28 : decode cX0_fetch 28 = .ok (.ireturn, 1) := fchk_d fw_dX0_fetch_0_c (28, .ireturn, 1) (List.mem_of_getElem? (i := 17) rfl)
set_option maxRecDepth 20000 in
theorem ggX0_keep_X7_isCell : GoodIn wsX0_keep wsX7_isCell := goodIn_r _ [3, 4] rfl (by decide +kernel)
set_option maxRecDepth 20000 in
theorem gX0_keep_X7_isCell_n134 : GoodIn wsX0_keep (wsX7_isCell) := ggX0_keep_X7_isCell
set_option maxRecDepth 20000 in
theorem ggX0_keep_X0_putLater : GoodIn wsX0_keep wsX0_putLater := goodIn_r _ [9, 10, 11, 12, 13, 14, 15, 16, 17, 18, 19, 20, 21, 22] rfl (by decide +kernel)
set_option maxRecDepth 20000 in
theorem gX0_keep_X0_putLater : GoodIn wsX0_keep (wsV RX0 119 RX0 yX0_putLater wsX0_putLater) := goodIn_app (goodIn_of _ (by decide +kernel)) ggX0_keep_X0_putLater
def fw_dX0_keep_0 : List (Nat × Instr × Nat) := [(0, .lload_n 1, 1), (1, .invokestatic 134, 3), (4, .ifCond .ne 5, 3), (7, .iconst 2, 1), (8, .ireturn, 1), (9, .aload_n 0, 1), (10, .bipush 10, 2), (12, .lload_n 1, 1), (13, .l2i, 1), (14, .iadd, 1), (15, .lload_n 3, 1), (16, .invokevirtual 119, 3), (19, .iconst 0, 1), (20, .ireturn, 1)]
theorem fw_dX0_keep_0_c : fchk 0 (cX0_keep.data.toList.drop 0) fw_dX0_keep_0 = true := by decide +kernel
theorem dX0_keep_0 : decode cX0_keep 0 = .ok (.lload_n 1, 1) := fchk_d fw_dX0_keep_0_c (0, .lload_n 1, 1) (List.mem_of_getElem? (i := 0) rfl)
theorem dX0_keep_1 : decode cX0_keep 1 = .ok (.invokestatic 134, 3) := fchk_d fw_dX0_keep_0_c (1, .invokestatic 134, 3) (List.mem_of_getElem? (i := 1) rfl)
theorem dX0_keep_4 : decode cX0_keep 4 = .ok (.ifCond .ne 5, 3) := fchk_d fw_dX0_keep_0_c (4, .ifCond .ne 5, 3) (List.mem_of_getElem? (i := 2) rfl)
theorem dX0_keep_7 : decode cX0_keep 7 = .ok (.iconst 2, 1) := fchk_d fw_dX0_keep_0_c (7, .iconst 2, 1) (List.mem_of_getElem? (i := 3) rfl)
theorem dX0_keep_8 : decode cX0_keep 8 = .ok (.ireturn, 1) := fchk_d fw_dX0_keep_0_c (8, .ireturn, 1) (List.mem_of_getElem? (i := 4) rfl)
theorem dX0_keep_9 : decode cX0_keep 9 = .ok (.aload_n 0, 1) := fchk_d fw_dX0_keep_0_c (9, .aload_n 0, 1) (List.mem_of_getElem? (i := 5) rfl)
theorem dX0_keep_10 : decode cX0_keep 10 = .ok (.bipush 10, 2) := fchk_d fw_dX0_keep_0_c (10, .bipush 10, 2) (List.mem_of_getElem? (i := 6) rfl)
theorem dX0_keep_12 : decode cX0_keep 12 = .ok (.lload_n 1, 1) := fchk_d fw_dX0_keep_0_c (12, .lload_n 1, 1) (List.mem_of_getElem? (i := 7) rfl)
theorem dX0_keep_13 : decode cX0_keep 13 = .ok (.l2i, 1) := fchk_d fw_dX0_keep_0_c (13, .l2i, 1) (List.mem_of_getElem? (i := 8) rfl)
theorem dX0_keep_14 : decode cX0_keep 14 = .ok (.iadd, 1) := fchk_d fw_dX0_keep_0_c (14, .iadd, 1) (List.mem_of_getElem? (i := 9) rfl)
theorem dX0_keep_15 : decode cX0_keep 15 = .ok (.lload_n 3, 1) := fchk_d fw_dX0_keep_0_c (15, .lload_n 3, 1) (List.mem_of_getElem? (i := 10) rfl)
theorem dX0_keep_16 : decode cX0_keep 16 = .ok (.invokevirtual 119, 3) := fchk_d fw_dX0_keep_0_c (16, .invokevirtual 119, 3) (List.mem_of_getElem? (i := 11) rfl)
theorem dX0_keep_19 : decode cX0_keep 19 = .ok (.iconst 0, 1) := fchk_d fw_dX0_keep_0_c (19, .iconst 0, 1) (List.mem_of_getElem? (i := 12) rfl)
theorem dX0_keep_20 : decode cX0_keep 20 = .ok (.ireturn, 1) := fchk_d fw_dX0_keep_0_c (20, .ireturn, 1) (List.mem_of_getElem? (i := 13) rfl)
set_option maxRecDepth 20000 in
theorem ggX0_work_X2_cutFor : GoodIn wsX0_work wsX2_cutFor := goodIn_r _ [6, 7, 26, 27, 28, 29, 30] rfl (by decide +kernel)
set_option maxRecDepth 20000 in
theorem gX0_work_X2_cutFor : GoodIn wsX0_work (wsV RX0 138 RX2 yX2_cutFor wsX2_cutFor) := goodIn_app (goodIn_of _ (by decide +kernel)) ggX0_work_X2_cutFor
set_option maxRecDepth 20000 in
theorem ggX0_work_X0_putLater : GoodIn wsX0_work wsX0_putLater := goodIn_r _ [12, 13, 14, 15, 16, 17, 18, 19, 20, 21, 22, 23, 24, 25] rfl (by decide +kernel)
set_option maxRecDepth 20000 in
theorem gX0_work_X0_putLater : GoodIn wsX0_work (wsV RX0 119 RX0 yX0_putLater wsX0_putLater) := goodIn_app (goodIn_of _ (by decide +kernel)) ggX0_work_X0_putLater
def fw_dX0_work_0 : List (Nat × Instr × Nat) := [(0, .lconst 0, 1), (1, .lstore 7, 2), (3, .iconst 0, 1), (4, .istore 9, 2), (6, .iload_n 1, 1)]
theorem fw_dX0_work_0_c : fchk 0 (cX0_work.data.toList.drop 0) fw_dX0_work_0 = true := by decide +kernel
theorem dX0_work_0 : decode cX0_work 0 = .ok (.lconst 0, 1) := fchk_d fw_dX0_work_0_c (0, .lconst 0, 1) (List.mem_of_getElem? (i := 0) rfl)
theorem dX0_work_1 : decode cX0_work 1 = .ok (.lstore 7, 2) := fchk_d fw_dX0_work_0_c (1, .lstore 7, 2) (List.mem_of_getElem? (i := 1) rfl)
theorem dX0_work_3 : decode cX0_work 3 = .ok (.iconst 0, 1) := fchk_d fw_dX0_work_0_c (3, .iconst 0, 1) (List.mem_of_getElem? (i := 2) rfl)
theorem dX0_work_4 : decode cX0_work 4 = .ok (.istore 9, 2) := fchk_d fw_dX0_work_0_c (4, .istore 9, 2) (List.mem_of_getElem? (i := 3) rfl)
theorem dX0_work_6 : decode cX0_work 6 = .ok (.iload_n 1, 1) := fchk_d fw_dX0_work_0_c (6, .iload_n 1, 1) (List.mem_of_getElem? (i := 4) rfl)
theorem dX0_work_7 : decode cX0_work 7 = .ok (.tableswitch 102 2 5 #[29, 61, 84, 93], 29) := by decide +kernel
def fw_dX0_work_36 : List (Nat × Instr × Nat) := [(36, .lload_n 3, 1), (37, .lload 5, 2), (39, .ladd, 1), (40, .lstore 7, 2), (42, .lload 7, 2), (44, .aload_n 0, 1), (45, .getfield 26, 3), (48, .iload_n 2, 1), (49, .lload 7, 2), (51, .invokevirtual 138, 3), (54, .lcmp, 1), (55, .ifCond .eq 7, 3), (58, .iconst 1, 1), (59, .goto 4, 3), (62, .iconst 0, 1), (63, .istore 9, 2), (65, .goto 44, 3), (68, .lload_n 3, 1), (69, .lload 5, 2), (71, .lsub, 1), (72, .lstore 7, 2), (74, .lload 5, 2), (76, .lload_n 3, 1), (77, .lcmp, 1), (78, .ifCond .le 7, 3), (81, .iconst 1, 1), (82, .goto 4, 3), (85, .iconst 0, 1), (86, .istore 9, 2), (88, .goto 21, 3), (91, .lload_n 3, 1), (92, .lload 5, 2), (94, .land, 1), (95, .lstore 7, 2), (97, .goto 12, 3), (100, .lload_n 3, 1), (101, .lload 5, 2), (103, .lxor, 1), (104, .lstore 7, 2), (106, .goto 3, 3)]
theorem fw_dX0_work_36_c : fchk 36 (cX0_work.data.toList.drop 36) fw_dX0_work_36 = true := by decide +kernel
theorem dX0_work_36 : decode cX0_work 36 = .ok (.lload_n 3, 1) := fchk_d fw_dX0_work_36_c (36, .lload_n 3, 1) (List.mem_of_getElem? (i := 0) rfl)
theorem dX0_work_37 : decode cX0_work 37 = .ok (.lload 5, 2) := fchk_d fw_dX0_work_36_c (37, .lload 5, 2) (List.mem_of_getElem? (i := 1) rfl)
theorem dX0_work_39 : decode cX0_work 39 = .ok (.ladd, 1) := fchk_d fw_dX0_work_36_c (39, .ladd, 1) (List.mem_of_getElem? (i := 2) rfl)
theorem dX0_work_40 : decode cX0_work 40 = .ok (.lstore 7, 2) := fchk_d fw_dX0_work_36_c (40, .lstore 7, 2) (List.mem_of_getElem? (i := 3) rfl)
theorem dX0_work_42 : decode cX0_work 42 = .ok (.lload 7, 2) := fchk_d fw_dX0_work_36_c (42, .lload 7, 2) (List.mem_of_getElem? (i := 4) rfl)
theorem dX0_work_44 : decode cX0_work 44 = .ok (.aload_n 0, 1) := fchk_d fw_dX0_work_36_c (44, .aload_n 0, 1) (List.mem_of_getElem? (i := 5) rfl)
theorem dX0_work_45 : decode cX0_work 45 = .ok (.getfield 26, 3) := fchk_d fw_dX0_work_36_c (45, .getfield 26, 3) (List.mem_of_getElem? (i := 6) rfl)
theorem dX0_work_48 : decode cX0_work 48 = .ok (.iload_n 2, 1) := fchk_d fw_dX0_work_36_c (48, .iload_n 2, 1) (List.mem_of_getElem? (i := 7) rfl)
theorem dX0_work_49 : decode cX0_work 49 = .ok (.lload 7, 2) := fchk_d fw_dX0_work_36_c (49, .lload 7, 2) (List.mem_of_getElem? (i := 8) rfl)
theorem dX0_work_51 : decode cX0_work 51 = .ok (.invokevirtual 138, 3) := fchk_d fw_dX0_work_36_c (51, .invokevirtual 138, 3) (List.mem_of_getElem? (i := 9) rfl)
theorem dX0_work_54 : decode cX0_work 54 = .ok (.lcmp, 1) := fchk_d fw_dX0_work_36_c (54, .lcmp, 1) (List.mem_of_getElem? (i := 10) rfl)
theorem dX0_work_55 : decode cX0_work 55 = .ok (.ifCond .eq 7, 3) := fchk_d fw_dX0_work_36_c (55, .ifCond .eq 7, 3) (List.mem_of_getElem? (i := 11) rfl)
theorem dX0_work_58 : decode cX0_work 58 = .ok (.iconst 1, 1) := fchk_d fw_dX0_work_36_c (58, .iconst 1, 1) (List.mem_of_getElem? (i := 12) rfl)
theorem dX0_work_59 : decode cX0_work 59 = .ok (.goto 4, 3) := fchk_d fw_dX0_work_36_c (59, .goto 4, 3) (List.mem_of_getElem? (i := 13) rfl)
theorem dX0_work_62 : decode cX0_work 62 = .ok (.iconst 0, 1) := fchk_d fw_dX0_work_36_c (62, .iconst 0, 1) (List.mem_of_getElem? (i := 14) rfl)
theorem dX0_work_63 : decode cX0_work 63 = .ok (.istore 9, 2) := fchk_d fw_dX0_work_36_c (63, .istore 9, 2) (List.mem_of_getElem? (i := 15) rfl)
theorem dX0_work_65 : decode cX0_work 65 = .ok (.goto 44, 3) := fchk_d fw_dX0_work_36_c (65, .goto 44, 3) (List.mem_of_getElem? (i := 16) rfl)
theorem dX0_work_68 : decode cX0_work 68 = .ok (.lload_n 3, 1) := fchk_d fw_dX0_work_36_c (68, .lload_n 3, 1) (List.mem_of_getElem? (i := 17) rfl)
theorem dX0_work_69 : decode cX0_work 69 = .ok (.lload 5, 2) := fchk_d fw_dX0_work_36_c (69, .lload 5, 2) (List.mem_of_getElem? (i := 18) rfl)
theorem dX0_work_71 : decode cX0_work 71 = .ok (.lsub, 1) := fchk_d fw_dX0_work_36_c (71, .lsub, 1) (List.mem_of_getElem? (i := 19) rfl)
theorem dX0_work_72 : decode cX0_work 72 = .ok (.lstore 7, 2) := fchk_d fw_dX0_work_36_c (72, .lstore 7, 2) (List.mem_of_getElem? (i := 20) rfl)
theorem dX0_work_74 : decode cX0_work 74 = .ok (.lload 5, 2) := fchk_d fw_dX0_work_36_c (74, .lload 5, 2) (List.mem_of_getElem? (i := 21) rfl)
theorem dX0_work_76 : decode cX0_work 76 = .ok (.lload_n 3, 1) := fchk_d fw_dX0_work_36_c (76, .lload_n 3, 1) (List.mem_of_getElem? (i := 22) rfl)
theorem dX0_work_77 : decode cX0_work 77 = .ok (.lcmp, 1) := fchk_d fw_dX0_work_36_c (77, .lcmp, 1) (List.mem_of_getElem? (i := 23) rfl)
theorem dX0_work_78 : decode cX0_work 78 = .ok (.ifCond .le 7, 3) := fchk_d fw_dX0_work_36_c (78, .ifCond .le 7, 3) (List.mem_of_getElem? (i := 24) rfl)
theorem dX0_work_81 : decode cX0_work 81 = .ok (.iconst 1, 1) := fchk_d fw_dX0_work_36_c (81, .iconst 1, 1) (List.mem_of_getElem? (i := 25) rfl)
theorem dX0_work_82 : decode cX0_work 82 = .ok (.goto 4, 3) := fchk_d fw_dX0_work_36_c (82, .goto 4, 3) (List.mem_of_getElem? (i := 26) rfl)
theorem dX0_work_85 : decode cX0_work 85 = .ok (.iconst 0, 1) := fchk_d fw_dX0_work_36_c (85, .iconst 0, 1) (List.mem_of_getElem? (i := 27) rfl)
theorem dX0_work_86 : decode cX0_work 86 = .ok (.istore 9, 2) := fchk_d fw_dX0_work_36_c (86, .istore 9, 2) (List.mem_of_getElem? (i := 28) rfl)
theorem dX0_work_88 : decode cX0_work 88 = .ok (.goto 21, 3) := fchk_d fw_dX0_work_36_c (88, .goto 21, 3) (List.mem_of_getElem? (i := 29) rfl)
theorem dX0_work_91 : decode cX0_work 91 = .ok (.lload_n 3, 1) := fchk_d fw_dX0_work_36_c (91, .lload_n 3, 1) (List.mem_of_getElem? (i := 30) rfl)
theorem dX0_work_92 : decode cX0_work 92 = .ok (.lload 5, 2) := fchk_d fw_dX0_work_36_c (92, .lload 5, 2) (List.mem_of_getElem? (i := 31) rfl)
theorem dX0_work_94 : decode cX0_work 94 = .ok (.land, 1) := fchk_d fw_dX0_work_36_c (94, .land, 1) (List.mem_of_getElem? (i := 32) rfl)
theorem dX0_work_95 : decode cX0_work 95 = .ok (.lstore 7, 2) := fchk_d fw_dX0_work_36_c (95, .lstore 7, 2) (List.mem_of_getElem? (i := 33) rfl)
theorem dX0_work_97 : decode cX0_work 97 = .ok (.goto 12, 3) := fchk_d fw_dX0_work_36_c (97, .goto 12, 3) (List.mem_of_getElem? (i := 34) rfl)
theorem dX0_work_100 : decode cX0_work 100 = .ok (.lload_n 3, 1) := fchk_d fw_dX0_work_36_c (100, .lload_n 3, 1) (List.mem_of_getElem? (i := 35) rfl)
theorem dX0_work_101 : decode cX0_work 101 = .ok (.lload 5, 2) := fchk_d fw_dX0_work_36_c (101, .lload 5, 2) (List.mem_of_getElem? (i := 36) rfl)
theorem dX0_work_103 : decode cX0_work 103 = .ok (.lxor, 1) := fchk_d fw_dX0_work_36_c (103, .lxor, 1) (List.mem_of_getElem? (i := 37) rfl)
theorem dX0_work_104 : decode cX0_work 104 = .ok (.lstore 7, 2) := fchk_d fw_dX0_work_36_c (104, .lstore 7, 2) (List.mem_of_getElem? (i := 38) rfl)
theorem dX0_work_106 : decode cX0_work 106 = .ok (.goto 3, 3) := fchk_d fw_dX0_work_36_c (106, .goto 3, 3) (List.mem_of_getElem? (i := 39) rfl)
def fw_dX0_work_109 : List (Nat × Instr × Nat) := [(109, .aload_n 0, 1), (110, .iload_n 2, 1), (111, .lload 7, 2), (113, .invokevirtual 119, 3), (116, .aload_n 0, 1), (117, .bipush 8, 2), (119, .aload_n 0, 1), (120, .getfield 26, 3), (123, .iload_n 2, 1), (124, .lload 7, 2), (126, .invokevirtual 138, 3), (129, .lconst 0, 1), (130, .lcmp, 1), (131, .ifCond .ne 7, 3), (134, .lconst 1, 1), (135, .goto 4, 3), (138, .lconst 0, 1), (139, .invokevirtual 119, 3), (142, .aload_n 0, 1), (143, .bipush 9, 2), (145, .iload 9, 2), (147, .ifCond .eq 7, 3), (150, .lconst 1, 1), (151, .goto 4, 3), (154, .lconst 0, 1), (155, .invokevirtual 119, 3), (158, .return_, 1)]
theorem fw_dX0_work_109_c : fchk 109 (cX0_work.data.toList.drop 109) fw_dX0_work_109 = true := by decide +kernel
theorem dX0_work_109 : decode cX0_work 109 = .ok (.aload_n 0, 1) := fchk_d fw_dX0_work_109_c (109, .aload_n 0, 1) (List.mem_of_getElem? (i := 0) rfl)
theorem dX0_work_110 : decode cX0_work 110 = .ok (.iload_n 2, 1) := fchk_d fw_dX0_work_109_c (110, .iload_n 2, 1) (List.mem_of_getElem? (i := 1) rfl)
theorem dX0_work_111 : decode cX0_work 111 = .ok (.lload 7, 2) := fchk_d fw_dX0_work_109_c (111, .lload 7, 2) (List.mem_of_getElem? (i := 2) rfl)
theorem dX0_work_113 : decode cX0_work 113 = .ok (.invokevirtual 119, 3) := fchk_d fw_dX0_work_109_c (113, .invokevirtual 119, 3) (List.mem_of_getElem? (i := 3) rfl)
theorem dX0_work_116 : decode cX0_work 116 = .ok (.aload_n 0, 1) := fchk_d fw_dX0_work_109_c (116, .aload_n 0, 1) (List.mem_of_getElem? (i := 4) rfl)
theorem dX0_work_117 : decode cX0_work 117 = .ok (.bipush 8, 2) := fchk_d fw_dX0_work_109_c (117, .bipush 8, 2) (List.mem_of_getElem? (i := 5) rfl)
theorem dX0_work_119 : decode cX0_work 119 = .ok (.aload_n 0, 1) := fchk_d fw_dX0_work_109_c (119, .aload_n 0, 1) (List.mem_of_getElem? (i := 6) rfl)
theorem dX0_work_120 : decode cX0_work 120 = .ok (.getfield 26, 3) := fchk_d fw_dX0_work_109_c (120, .getfield 26, 3) (List.mem_of_getElem? (i := 7) rfl)
theorem dX0_work_123 : decode cX0_work 123 = .ok (.iload_n 2, 1) := fchk_d fw_dX0_work_109_c (123, .iload_n 2, 1) (List.mem_of_getElem? (i := 8) rfl)
theorem dX0_work_124 : decode cX0_work 124 = .ok (.lload 7, 2) := fchk_d fw_dX0_work_109_c (124, .lload 7, 2) (List.mem_of_getElem? (i := 9) rfl)
theorem dX0_work_126 : decode cX0_work 126 = .ok (.invokevirtual 138, 3) := fchk_d fw_dX0_work_109_c (126, .invokevirtual 138, 3) (List.mem_of_getElem? (i := 10) rfl)
theorem dX0_work_129 : decode cX0_work 129 = .ok (.lconst 0, 1) := fchk_d fw_dX0_work_109_c (129, .lconst 0, 1) (List.mem_of_getElem? (i := 11) rfl)
theorem dX0_work_130 : decode cX0_work 130 = .ok (.lcmp, 1) := fchk_d fw_dX0_work_109_c (130, .lcmp, 1) (List.mem_of_getElem? (i := 12) rfl)
theorem dX0_work_131 : decode cX0_work 131 = .ok (.ifCond .ne 7, 3) := fchk_d fw_dX0_work_109_c (131, .ifCond .ne 7, 3) (List.mem_of_getElem? (i := 13) rfl)
theorem dX0_work_134 : decode cX0_work 134 = .ok (.lconst 1, 1) := fchk_d fw_dX0_work_109_c (134, .lconst 1, 1) (List.mem_of_getElem? (i := 14) rfl)
theorem dX0_work_135 : decode cX0_work 135 = .ok (.goto 4, 3) := fchk_d fw_dX0_work_109_c (135, .goto 4, 3) (List.mem_of_getElem? (i := 15) rfl)
theorem dX0_work_138 : decode cX0_work 138 = .ok (.lconst 0, 1) := fchk_d fw_dX0_work_109_c (138, .lconst 0, 1) (List.mem_of_getElem? (i := 16) rfl)
theorem dX0_work_139 : decode cX0_work 139 = .ok (.invokevirtual 119, 3) := fchk_d fw_dX0_work_109_c (139, .invokevirtual 119, 3) (List.mem_of_getElem? (i := 17) rfl)
theorem dX0_work_142 : decode cX0_work 142 = .ok (.aload_n 0, 1) := fchk_d fw_dX0_work_109_c (142, .aload_n 0, 1) (List.mem_of_getElem? (i := 18) rfl)
theorem dX0_work_143 : decode cX0_work 143 = .ok (.bipush 9, 2) := fchk_d fw_dX0_work_109_c (143, .bipush 9, 2) (List.mem_of_getElem? (i := 19) rfl)
theorem dX0_work_145 : decode cX0_work 145 = .ok (.iload 9, 2) := fchk_d fw_dX0_work_109_c (145, .iload 9, 2) (List.mem_of_getElem? (i := 20) rfl)
theorem dX0_work_147 : decode cX0_work 147 = .ok (.ifCond .eq 7, 3) := fchk_d fw_dX0_work_109_c (147, .ifCond .eq 7, 3) (List.mem_of_getElem? (i := 21) rfl)
theorem dX0_work_150 : decode cX0_work 150 = .ok (.lconst 1, 1) := fchk_d fw_dX0_work_109_c (150, .lconst 1, 1) (List.mem_of_getElem? (i := 22) rfl)
theorem dX0_work_151 : decode cX0_work 151 = .ok (.goto 4, 3) := fchk_d fw_dX0_work_109_c (151, .goto 4, 3) (List.mem_of_getElem? (i := 23) rfl)
theorem dX0_work_154 : decode cX0_work 154 = .ok (.lconst 0, 1) := fchk_d fw_dX0_work_109_c (154, .lconst 0, 1) (List.mem_of_getElem? (i := 24) rfl)
theorem dX0_work_155 : decode cX0_work 155 = .ok (.invokevirtual 119, 3) := fchk_d fw_dX0_work_109_c (155, .invokevirtual 119, 3) (List.mem_of_getElem? (i := 25) rfl)
theorem dX0_work_158 : decode cX0_work 158 = .ok (.return_, 1) := fchk_d fw_dX0_work_109_c (158, .return_, 1) (List.mem_of_getElem? (i := 26) rfl)
def fw_dX0_putLater_0 : List (Nat × Instr × Nat) := [(0, .aload_n 0, 1), (1, .getfield 93, 3), (4, .bipush 30, 2), (6, .if_icmp .ge 33, 3), (9, .aload_n 0, 1), (10, .getfield 15, 3), (13, .aload_n 0, 1), (14, .getfield 93, 3), (17, .iload_n 1, 1), (18, .iastore, 1), (19, .aload_n 0, 1), (20, .getfield 19, 3), (23, .aload_n 0, 1), (24, .getfield 93, 3), (27, .lload_n 2, 1), (28, .lastore, 1), (29, .aload_n 0, 1), (30, .dup, 1), (31, .getfield 93, 3), (34, .iconst 1, 1), (35, .iadd, 1), (36, .putfield 93, 3), (39, .return_, 1)]
theorem fw_dX0_putLater_0_c : fchk 0 (cX0_putLater.data.toList.drop 0) fw_dX0_putLater_0 = true := by decide +kernel
theorem dX0_putLater_0 : decode cX0_putLater 0 = .ok (.aload_n 0, 1) := fchk_d fw_dX0_putLater_0_c (0, .aload_n 0, 1) (List.mem_of_getElem? (i := 0) rfl)
theorem dX0_putLater_1 : decode cX0_putLater 1 = .ok (.getfield 93, 3) := fchk_d fw_dX0_putLater_0_c (1, .getfield 93, 3) (List.mem_of_getElem? (i := 1) rfl)
theorem dX0_putLater_4 : decode cX0_putLater 4 = .ok (.bipush 30, 2) := fchk_d fw_dX0_putLater_0_c (4, .bipush 30, 2) (List.mem_of_getElem? (i := 2) rfl)
theorem dX0_putLater_6 : decode cX0_putLater 6 = .ok (.if_icmp .ge 33, 3) := fchk_d fw_dX0_putLater_0_c (6, .if_icmp .ge 33, 3) (List.mem_of_getElem? (i := 3) rfl)
theorem dX0_putLater_9 : decode cX0_putLater 9 = .ok (.aload_n 0, 1) := fchk_d fw_dX0_putLater_0_c (9, .aload_n 0, 1) (List.mem_of_getElem? (i := 4) rfl)
theorem dX0_putLater_10 : decode cX0_putLater 10 = .ok (.getfield 15, 3) := fchk_d fw_dX0_putLater_0_c (10, .getfield 15, 3) (List.mem_of_getElem? (i := 5) rfl)
theorem dX0_putLater_13 : decode cX0_putLater 13 = .ok (.aload_n 0, 1) := fchk_d fw_dX0_putLater_0_c (13, .aload_n 0, 1) (List.mem_of_getElem? (i := 6) rfl)
theorem dX0_putLater_14 : decode cX0_putLater 14 = .ok (.getfield 93, 3) := fchk_d fw_dX0_putLater_0_c (14, .getfield 93, 3) (List.mem_of_getElem? (i := 7) rfl)
theorem dX0_putLater_17 : decode cX0_putLater 17 = .ok (.iload_n 1, 1) := fchk_d fw_dX0_putLater_0_c (17, .iload_n 1, 1) (List.mem_of_getElem? (i := 8) rfl)
theorem dX0_putLater_18 : decode cX0_putLater 18 = .ok (.iastore, 1) := fchk_d fw_dX0_putLater_0_c (18, .iastore, 1) (List.mem_of_getElem? (i := 9) rfl)
theorem dX0_putLater_19 : decode cX0_putLater 19 = .ok (.aload_n 0, 1) := fchk_d fw_dX0_putLater_0_c (19, .aload_n 0, 1) (List.mem_of_getElem? (i := 10) rfl)
theorem dX0_putLater_20 : decode cX0_putLater 20 = .ok (.getfield 19, 3) := fchk_d fw_dX0_putLater_0_c (20, .getfield 19, 3) (List.mem_of_getElem? (i := 11) rfl)
theorem dX0_putLater_23 : decode cX0_putLater 23 = .ok (.aload_n 0, 1) := fchk_d fw_dX0_putLater_0_c (23, .aload_n 0, 1) (List.mem_of_getElem? (i := 12) rfl)
theorem dX0_putLater_24 : decode cX0_putLater 24 = .ok (.getfield 93, 3) := fchk_d fw_dX0_putLater_0_c (24, .getfield 93, 3) (List.mem_of_getElem? (i := 13) rfl)
theorem dX0_putLater_27 : decode cX0_putLater 27 = .ok (.lload_n 2, 1) := fchk_d fw_dX0_putLater_0_c (27, .lload_n 2, 1) (List.mem_of_getElem? (i := 14) rfl)
theorem dX0_putLater_28 : decode cX0_putLater 28 = .ok (.lastore, 1) := fchk_d fw_dX0_putLater_0_c (28, .lastore, 1) (List.mem_of_getElem? (i := 15) rfl)
theorem dX0_putLater_29 : decode cX0_putLater 29 = .ok (.aload_n 0, 1) := fchk_d fw_dX0_putLater_0_c (29, .aload_n 0, 1) (List.mem_of_getElem? (i := 16) rfl)
theorem dX0_putLater_30 : decode cX0_putLater 30 = .ok (.dup, 1) := fchk_d fw_dX0_putLater_0_c (30, .dup, 1) (List.mem_of_getElem? (i := 17) rfl)
theorem dX0_putLater_31 : decode cX0_putLater 31 = .ok (.getfield 93, 3) := fchk_d fw_dX0_putLater_0_c (31, .getfield 93, 3) (List.mem_of_getElem? (i := 18) rfl)
theorem dX0_putLater_34 : decode cX0_putLater 34 = .ok (.iconst 1, 1) := fchk_d fw_dX0_putLater_0_c (34, .iconst 1, 1) (List.mem_of_getElem? (i := 19) rfl)
theorem dX0_putLater_35 : decode cX0_putLater 35 = .ok (.iadd, 1) := fchk_d fw_dX0_putLater_0_c (35, .iadd, 1) (List.mem_of_getElem? (i := 20) rfl)
theorem dX0_putLater_36 : decode cX0_putLater 36 = .ok (.putfield 93, 3) := fchk_d fw_dX0_putLater_0_c (36, .putfield 93, 3) (List.mem_of_getElem? (i := 21) rfl)
theorem dX0_putLater_39 : decode cX0_putLater 39 = .ok (.return_, 1) := fchk_d fw_dX0_putLater_0_c (39, .return_, 1) (List.mem_of_getElem? (i := 22) rfl)
def fw_dX1_init_0 : List (Nat × Instr × Nat) := [(0, .aload_n 0, 1), (1, .invokespecial 3, 3), (4, .aload_n 0, 1), (5, .bipush 7, 2)]
theorem fw_dX1_init_0_c : fchk 0 (cX1_init.data.toList.drop 0) fw_dX1_init_0 = true := by decide +kernel
theorem dX1_init_0 : decode cX1_init 0 = .ok (.aload_n 0, 1) := fchk_d fw_dX1_init_0_c (0, .aload_n 0, 1) (List.mem_of_getElem? (i := 0) rfl)
theorem dX1_init_1 : decode cX1_init 1 = .ok (.invokespecial 3, 3) := fchk_d fw_dX1_init_0_c (1, .invokespecial 3, 3) (List.mem_of_getElem? (i := 1) rfl)
theorem dX1_init_4 : decode cX1_init 4 = .ok (.aload_n 0, 1) := fchk_d fw_dX1_init_0_c (4, .aload_n 0, 1) (List.mem_of_getElem? (i := 2) rfl)
theorem dX1_init_5 : decode cX1_init 5 = .ok (.bipush 7, 2) := fchk_d fw_dX1_init_0_c (5, .bipush 7, 2) (List.mem_of_getElem? (i := 3) rfl)
theorem dX1_init_7 : decode cX1_init 7 = .ok (.newarray .int, 2) := by decide +kernel
def fw_dX1_init_9 : List (Nat × Instr × Nat) := [(9, .putfield 9, 3), (12, .aload_n 0, 1), (13, .bipush 120, 2)]
theorem fw_dX1_init_9_c : fchk 9 (cX1_init.data.toList.drop 9) fw_dX1_init_9 = true := by decide +kernel
theorem dX1_init_9 : decode cX1_init 9 = .ok (.putfield 9, 3) := fchk_d fw_dX1_init_9_c (9, .putfield 9, 3) (List.mem_of_getElem? (i := 0) rfl)
theorem dX1_init_12 : decode cX1_init 12 = .ok (.aload_n 0, 1) := fchk_d fw_dX1_init_9_c (12, .aload_n 0, 1) (List.mem_of_getElem? (i := 1) rfl)
theorem dX1_init_13 : decode cX1_init 13 = .ok (.bipush 120, 2) := fchk_d fw_dX1_init_9_c (13, .bipush 120, 2) (List.mem_of_getElem? (i := 2) rfl)
theorem dX1_init_15 : decode cX1_init 15 = .ok (.newarray .int, 2) := by decide +kernel
def fw_dX1_init_17 : List (Nat × Instr × Nat) := [(17, .putfield 15, 3), (20, .aload_n 0, 1), (21, .bipush 120, 2)]
theorem fw_dX1_init_17_c : fchk 17 (cX1_init.data.toList.drop 17) fw_dX1_init_17 = true := by decide +kernel
theorem dX1_init_17 : decode cX1_init 17 = .ok (.putfield 15, 3) := fchk_d fw_dX1_init_17_c (17, .putfield 15, 3) (List.mem_of_getElem? (i := 0) rfl)
theorem dX1_init_20 : decode cX1_init 20 = .ok (.aload_n 0, 1) := fchk_d fw_dX1_init_17_c (20, .aload_n 0, 1) (List.mem_of_getElem? (i := 1) rfl)
theorem dX1_init_21 : decode cX1_init 21 = .ok (.bipush 120, 2) := fchk_d fw_dX1_init_17_c (21, .bipush 120, 2) (List.mem_of_getElem? (i := 2) rfl)
theorem dX1_init_23 : decode cX1_init 23 = .ok (.newarray .int, 2) := by decide +kernel
def fw_dX1_init_25 : List (Nat × Instr × Nat) := [(25, .putfield 18, 3), (28, .aload_n 0, 1), (29, .bipush 7, 2)]
theorem fw_dX1_init_25_c : fchk 25 (cX1_init.data.toList.drop 25) fw_dX1_init_25 = true := by decide +kernel
theorem dX1_init_25 : decode cX1_init 25 = .ok (.putfield 18, 3) := fchk_d fw_dX1_init_25_c (25, .putfield 18, 3) (List.mem_of_getElem? (i := 0) rfl)
theorem dX1_init_28 : decode cX1_init 28 = .ok (.aload_n 0, 1) := fchk_d fw_dX1_init_25_c (28, .aload_n 0, 1) (List.mem_of_getElem? (i := 1) rfl)
theorem dX1_init_29 : decode cX1_init 29 = .ok (.bipush 7, 2) := fchk_d fw_dX1_init_25_c (29, .bipush 7, 2) (List.mem_of_getElem? (i := 2) rfl)
theorem dX1_init_31 : decode cX1_init 31 = .ok (.newarray .int, 2) := by decide +kernel
def fw_dX1_init_33 : List (Nat × Instr × Nat) := [(33, .putfield 21, 3), (36, .aload_n 0, 1), (37, .bipush 7, 2)]
theorem fw_dX1_init_33_c : fchk 33 (cX1_init.data.toList.drop 33) fw_dX1_init_33 = true := by decide +kernel
theorem dX1_init_33 : decode cX1_init 33 = .ok (.putfield 21, 3) := fchk_d fw_dX1_init_33_c (33, .putfield 21, 3) (List.mem_of_getElem? (i := 0) rfl)
theorem dX1_init_36 : decode cX1_init 36 = .ok (.aload_n 0, 1) := fchk_d fw_dX1_init_33_c (36, .aload_n 0, 1) (List.mem_of_getElem? (i := 1) rfl)
theorem dX1_init_37 : decode cX1_init 37 = .ok (.bipush 7, 2) := fchk_d fw_dX1_init_33_c (37, .bipush 7, 2) (List.mem_of_getElem? (i := 2) rfl)
theorem dX1_init_39 : decode cX1_init 39 = .ok (.newarray .int, 2) := by decide +kernel
def fw_dX1_init_41 : List (Nat × Instr × Nat) := [(41, .putfield 24, 3), (44, .aload_n 0, 1), (45, .bipush 7, 2)]
theorem fw_dX1_init_41_c : fchk 41 (cX1_init.data.toList.drop 41) fw_dX1_init_41 = true := by decide +kernel
theorem dX1_init_41 : decode cX1_init 41 = .ok (.putfield 24, 3) := fchk_d fw_dX1_init_41_c (41, .putfield 24, 3) (List.mem_of_getElem? (i := 0) rfl)
theorem dX1_init_44 : decode cX1_init 44 = .ok (.aload_n 0, 1) := fchk_d fw_dX1_init_41_c (44, .aload_n 0, 1) (List.mem_of_getElem? (i := 1) rfl)
theorem dX1_init_45 : decode cX1_init 45 = .ok (.bipush 7, 2) := fchk_d fw_dX1_init_41_c (45, .bipush 7, 2) (List.mem_of_getElem? (i := 2) rfl)
theorem dX1_init_47 : decode cX1_init 47 = .ok (.newarray .int, 2) := by decide +kernel
def fw_dX1_init_49 : List (Nat × Instr × Nat) := [(49, .putfield 27, 3), (52, .aload_n 0, 1), (53, .bipush 7, 2)]
theorem fw_dX1_init_49_c : fchk 49 (cX1_init.data.toList.drop 49) fw_dX1_init_49 = true := by decide +kernel
theorem dX1_init_49 : decode cX1_init 49 = .ok (.putfield 27, 3) := fchk_d fw_dX1_init_49_c (49, .putfield 27, 3) (List.mem_of_getElem? (i := 0) rfl)
theorem dX1_init_52 : decode cX1_init 52 = .ok (.aload_n 0, 1) := fchk_d fw_dX1_init_49_c (52, .aload_n 0, 1) (List.mem_of_getElem? (i := 1) rfl)
theorem dX1_init_53 : decode cX1_init 53 = .ok (.bipush 7, 2) := fchk_d fw_dX1_init_49_c (53, .bipush 7, 2) (List.mem_of_getElem? (i := 2) rfl)
theorem dX1_init_55 : decode cX1_init 55 = .ok (.newarray .int, 2) := by decide +kernel
def fw_dX1_init_57 : List (Nat × Instr × Nat) := [(57, .putfield 30, 3), (60, .aload_n 0, 1), (61, .aload_n 1, 1), (62, .putfield 33, 3), (65, .aload_n 0, 1), (66, .aload_n 2, 1), (67, .putfield 37, 3), (70, .return_, 1)]
theorem fw_dX1_init_57_c : fchk 57 (cX1_init.data.toList.drop 57) fw_dX1_init_57 = true := by decide +kernel
theorem dX1_init_57 : decode cX1_init 57 = .ok (.putfield 30, 3) := fchk_d fw_dX1_init_57_c (57, .putfield 30, 3) (List.mem_of_getElem? (i := 0) rfl)
theorem dX1_init_60 : decode cX1_init 60 = .ok (.aload_n 0, 1) := fchk_d fw_dX1_init_57_c (60, .aload_n 0, 1) (List.mem_of_getElem? (i := 1) rfl)
theorem dX1_init_61 : decode cX1_init 61 = .ok (.aload_n 1, 1) := fchk_d fw_dX1_init_57_c (61, .aload_n 1, 1) (List.mem_of_getElem? (i := 2) rfl)
theorem dX1_init_62 : decode cX1_init 62 = .ok (.putfield 33, 3) := fchk_d fw_dX1_init_57_c (62, .putfield 33, 3) (List.mem_of_getElem? (i := 3) rfl)
theorem dX1_init_65 : decode cX1_init 65 = .ok (.aload_n 0, 1) := fchk_d fw_dX1_init_57_c (65, .aload_n 0, 1) (List.mem_of_getElem? (i := 4) rfl)
theorem dX1_init_66 : decode cX1_init 66 = .ok (.aload_n 2, 1) := fchk_d fw_dX1_init_57_c (66, .aload_n 2, 1) (List.mem_of_getElem? (i := 5) rfl)
theorem dX1_init_67 : decode cX1_init 67 = .ok (.putfield 37, 3) := fchk_d fw_dX1_init_57_c (67, .putfield 37, 3) (List.mem_of_getElem? (i := 6) rfl)
theorem dX1_init_70 : decode cX1_init 70 = .ok (.return_, 1) := fchk_d fw_dX1_init_57_c (70, .return_, 1) (List.mem_of_getElem? (i := 7) rfl)
set_option maxRecDepth 20000 in
theorem ggX1_make_J7_fill_53178 : GoodIn wsX1_make wsJ7_fill_53178 := goodIn_r _ [14] rfl (by decide +kernel)
set_option maxRecDepth 20000 in
theorem gX1_make_J7_fill_53178 : GoodIn wsX1_make (va_wsS RX1 45 yJ7_fill_53178 wsJ7_fill_53178) := goodIn_app (goodIn_of _ (by decide +kernel)) ggX1_make_J7_fill_53178
set_option maxRecDepth 20000 in
theorem ggX1_make_X1_learnActs : GoodIn wsX1_make wsX1_learnActs := goodIn_r _ [19, 20, 21, 22, 23, 24, 25, 26, 27, 28, 29, 30, 31, 32, 33, 34, 18, 35, 1, 36, 37, 2, 38, 39, 40, 41, 42, 43, 44, 66, 67, 68, 69, 70, 71, 72, 73, 74, 75, 76, 77, 87, 88, 89, 90, 91, 92, 93] rfl (by decide +kernel)
set_option maxRecDepth 20000 in
theorem gX1_make_X1_learnActs : GoodIn wsX1_make (wsV RX1 62 RX1 yX1_learnActs wsX1_learnActs) := goodIn_app (goodIn_of _ (by decide +kernel)) ggX1_make_X1_learnActs
set_option maxRecDepth 20000 in
theorem ggX1_make_X1_learnMeetings : GoodIn wsX1_make wsX1_learnMeetings := goodIn_r _ [48, 3, 21, 22, 23, 66, 67, 68, 69, 70, 71, 72, 73, 74, 75, 76, 77] rfl (by decide +kernel)
set_option maxRecDepth 20000 in
theorem gX1_make_X1_learnMeetings : GoodIn wsX1_make (wsV RX1 66 RX1 yX1_learnMeetings wsX1_learnMeetings) := goodIn_app (goodIn_of _ (by decide +kernel)) ggX1_make_X1_learnMeetings
set_option maxRecDepth 20000 in
theorem ggX1_make_X1_makeGroups : GoodIn wsX1_make wsX1_makeGroups := goodIn_r _ [52, 9, 53, 10, 54, 2, 55, 56, 57, 58, 11, 12, 13, 14, 59, 60, 61, 18, 62, 3, 66, 67, 68, 69, 70, 71, 72, 73, 74, 75, 76, 77] rfl (by decide +kernel)
set_option maxRecDepth 20000 in
theorem gX1_make_X1_makeGroups : GoodIn wsX1_make (wsV RX1 70 RX1 yX1_makeGroups wsX1_makeGroups) := goodIn_app (goodIn_of _ (by decide +kernel)) ggX1_make_X1_makeGroups
set_option maxRecDepth 20000 in
theorem ggX1_make_X1_bitsToTell : GoodIn wsX1_make wsX1_bitsToTell := goodIn_r _ [65] rfl (by decide +kernel)
set_option maxRecDepth 20000 in
theorem gX1_make_X1_bitsToTell : GoodIn wsX1_make (va_wsS RX1 73 yX1_bitsToTell wsX1_bitsToTell) := goodIn_app (goodIn_of _ (by decide +kernel)) ggX1_make_X1_bitsToTell
def fw_dX1_make_0 : List (Nat × Instr × Nat) := [(0, .aload_n 0, 1), (1, .iconst 0, 1), (2, .putfield 41, 3), (5, .aload_n 0, 1), (6, .getfield 21, 3), (9, .iconst 0, 1), (10, .invokestatic 45, 3), (13, .aload_n 0, 1), (14, .getfield 24, 3), (17, .iconst 0, 1), (18, .invokestatic 45, 3), (21, .iconst 0, 1), (22, .istore_n 1, 1), (23, .iload_n 1, 1), (24, .aload_n 0, 1), (25, .getfield 37, 3), (28, .getfield 51, 3), (31, .if_icmp .ge 35, 3), (34, .aload_n 0, 1), (35, .aload_n 0, 1), (36, .aload_n 0, 1), (37, .getfield 37, 3), (40, .getfield 56, 3), (43, .iload_n 1, 1), (44, .iaload, 1), (45, .aload_n 0, 1), (46, .getfield 37, 3), (49, .getfield 59, 3), (52, .iload_n 1, 1), (53, .iaload, 1), (54, .invokevirtual 62, 3), (57, .invokevirtual 66, 3)]
theorem fw_dX1_make_0_c : fchk 0 (cX1_make.data.toList.drop 0) fw_dX1_make_0 = true := by decide +kernel
theorem dX1_make_0 : decode cX1_make 0 = .ok (.aload_n 0, 1) := fchk_d fw_dX1_make_0_c (0, .aload_n 0, 1) (List.mem_of_getElem? (i := 0) rfl)
theorem dX1_make_1 : decode cX1_make 1 = .ok (.iconst 0, 1) := fchk_d fw_dX1_make_0_c (1, .iconst 0, 1) (List.mem_of_getElem? (i := 1) rfl)
theorem dX1_make_2 : decode cX1_make 2 = .ok (.putfield 41, 3) := fchk_d fw_dX1_make_0_c (2, .putfield 41, 3) (List.mem_of_getElem? (i := 2) rfl)
theorem dX1_make_5 : decode cX1_make 5 = .ok (.aload_n 0, 1) := fchk_d fw_dX1_make_0_c (5, .aload_n 0, 1) (List.mem_of_getElem? (i := 3) rfl)
theorem dX1_make_6 : decode cX1_make 6 = .ok (.getfield 21, 3) := fchk_d fw_dX1_make_0_c (6, .getfield 21, 3) (List.mem_of_getElem? (i := 4) rfl)
theorem dX1_make_9 : decode cX1_make 9 = .ok (.iconst 0, 1) := fchk_d fw_dX1_make_0_c (9, .iconst 0, 1) (List.mem_of_getElem? (i := 5) rfl)
theorem dX1_make_10 : decode cX1_make 10 = .ok (.invokestatic 45, 3) := fchk_d fw_dX1_make_0_c (10, .invokestatic 45, 3) (List.mem_of_getElem? (i := 6) rfl)
theorem dX1_make_13 : decode cX1_make 13 = .ok (.aload_n 0, 1) := fchk_d fw_dX1_make_0_c (13, .aload_n 0, 1) (List.mem_of_getElem? (i := 7) rfl)
theorem dX1_make_14 : decode cX1_make 14 = .ok (.getfield 24, 3) := fchk_d fw_dX1_make_0_c (14, .getfield 24, 3) (List.mem_of_getElem? (i := 8) rfl)
theorem dX1_make_17 : decode cX1_make 17 = .ok (.iconst 0, 1) := fchk_d fw_dX1_make_0_c (17, .iconst 0, 1) (List.mem_of_getElem? (i := 9) rfl)
theorem dX1_make_18 : decode cX1_make 18 = .ok (.invokestatic 45, 3) := fchk_d fw_dX1_make_0_c (18, .invokestatic 45, 3) (List.mem_of_getElem? (i := 10) rfl)
theorem dX1_make_21 : decode cX1_make 21 = .ok (.iconst 0, 1) := fchk_d fw_dX1_make_0_c (21, .iconst 0, 1) (List.mem_of_getElem? (i := 11) rfl)
theorem dX1_make_22 : decode cX1_make 22 = .ok (.istore_n 1, 1) := fchk_d fw_dX1_make_0_c (22, .istore_n 1, 1) (List.mem_of_getElem? (i := 12) rfl)
theorem dX1_make_23 : decode cX1_make 23 = .ok (.iload_n 1, 1) := fchk_d fw_dX1_make_0_c (23, .iload_n 1, 1) (List.mem_of_getElem? (i := 13) rfl)
theorem dX1_make_24 : decode cX1_make 24 = .ok (.aload_n 0, 1) := fchk_d fw_dX1_make_0_c (24, .aload_n 0, 1) (List.mem_of_getElem? (i := 14) rfl)
theorem dX1_make_25 : decode cX1_make 25 = .ok (.getfield 37, 3) := fchk_d fw_dX1_make_0_c (25, .getfield 37, 3) (List.mem_of_getElem? (i := 15) rfl)
theorem dX1_make_28 : decode cX1_make 28 = .ok (.getfield 51, 3) := fchk_d fw_dX1_make_0_c (28, .getfield 51, 3) (List.mem_of_getElem? (i := 16) rfl)
theorem dX1_make_31 : decode cX1_make 31 = .ok (.if_icmp .ge 35, 3) := fchk_d fw_dX1_make_0_c (31, .if_icmp .ge 35, 3) (List.mem_of_getElem? (i := 17) rfl)
theorem dX1_make_34 : decode cX1_make 34 = .ok (.aload_n 0, 1) := fchk_d fw_dX1_make_0_c (34, .aload_n 0, 1) (List.mem_of_getElem? (i := 18) rfl)
theorem dX1_make_35 : decode cX1_make 35 = .ok (.aload_n 0, 1) := fchk_d fw_dX1_make_0_c (35, .aload_n 0, 1) (List.mem_of_getElem? (i := 19) rfl)
theorem dX1_make_36 : decode cX1_make 36 = .ok (.aload_n 0, 1) := fchk_d fw_dX1_make_0_c (36, .aload_n 0, 1) (List.mem_of_getElem? (i := 20) rfl)
theorem dX1_make_37 : decode cX1_make 37 = .ok (.getfield 37, 3) := fchk_d fw_dX1_make_0_c (37, .getfield 37, 3) (List.mem_of_getElem? (i := 21) rfl)
theorem dX1_make_40 : decode cX1_make 40 = .ok (.getfield 56, 3) := fchk_d fw_dX1_make_0_c (40, .getfield 56, 3) (List.mem_of_getElem? (i := 22) rfl)
theorem dX1_make_43 : decode cX1_make 43 = .ok (.iload_n 1, 1) := fchk_d fw_dX1_make_0_c (43, .iload_n 1, 1) (List.mem_of_getElem? (i := 23) rfl)
theorem dX1_make_44 : decode cX1_make 44 = .ok (.iaload, 1) := fchk_d fw_dX1_make_0_c (44, .iaload, 1) (List.mem_of_getElem? (i := 24) rfl)
theorem dX1_make_45 : decode cX1_make 45 = .ok (.aload_n 0, 1) := fchk_d fw_dX1_make_0_c (45, .aload_n 0, 1) (List.mem_of_getElem? (i := 25) rfl)
theorem dX1_make_46 : decode cX1_make 46 = .ok (.getfield 37, 3) := fchk_d fw_dX1_make_0_c (46, .getfield 37, 3) (List.mem_of_getElem? (i := 26) rfl)
theorem dX1_make_49 : decode cX1_make 49 = .ok (.getfield 59, 3) := fchk_d fw_dX1_make_0_c (49, .getfield 59, 3) (List.mem_of_getElem? (i := 27) rfl)
theorem dX1_make_52 : decode cX1_make 52 = .ok (.iload_n 1, 1) := fchk_d fw_dX1_make_0_c (52, .iload_n 1, 1) (List.mem_of_getElem? (i := 28) rfl)
theorem dX1_make_53 : decode cX1_make 53 = .ok (.iaload, 1) := fchk_d fw_dX1_make_0_c (53, .iaload, 1) (List.mem_of_getElem? (i := 29) rfl)
theorem dX1_make_54 : decode cX1_make 54 = .ok (.invokevirtual 62, 3) := fchk_d fw_dX1_make_0_c (54, .invokevirtual 62, 3) (List.mem_of_getElem? (i := 30) rfl)
theorem dX1_make_57 : decode cX1_make 57 = .ok (.invokevirtual 66, 3) := fchk_d fw_dX1_make_0_c (57, .invokevirtual 66, 3) (List.mem_of_getElem? (i := 31) rfl)
theorem dX1_make_60 : decode cX1_make 60 = .ok (.iinc 1 1, 3) := by decide +kernel
def fw_dX1_make_63 : List (Nat × Instr × Nat) := [(63, .goto (-40), 3), (66, .aload_n 0, 1), (67, .invokevirtual 70, 3), (70, .aload_n 0, 1), (71, .aload_n 0, 1), (72, .getfield 37, 3), (75, .getfield 51, 3), (78, .iconst 1, 1), (79, .iadd, 1), (80, .invokestatic 73, 3), (83, .putfield 77, 3), (86, .iconst 0, 1), (87, .istore_n 1, 1), (88, .iload_n 1, 1), (89, .aload_n 0, 1), (90, .getfield 80, 3), (93, .if_icmp .ge 29, 3), (96, .aload_n 0, 1), (97, .dup, 1), (98, .getfield 77, 3), (101, .aload_n 0, 1), (102, .getfield 30, 3), (105, .iload_n 1, 1), (106, .iaload, 1), (107, .iconst 1, 1), (108, .iadd, 1), (109, .invokestatic 73, 3), (112, .iadd, 1), (113, .putfield 77, 3)]
theorem fw_dX1_make_63_c : fchk 63 (cX1_make.data.toList.drop 63) fw_dX1_make_63 = true := by decide +kernel
theorem dX1_make_63 : decode cX1_make 63 = .ok (.goto (-40), 3) := fchk_d fw_dX1_make_63_c (63, .goto (-40), 3) (List.mem_of_getElem? (i := 0) rfl)
theorem dX1_make_66 : decode cX1_make 66 = .ok (.aload_n 0, 1) := fchk_d fw_dX1_make_63_c (66, .aload_n 0, 1) (List.mem_of_getElem? (i := 1) rfl)
theorem dX1_make_67 : decode cX1_make 67 = .ok (.invokevirtual 70, 3) := fchk_d fw_dX1_make_63_c (67, .invokevirtual 70, 3) (List.mem_of_getElem? (i := 2) rfl)
theorem dX1_make_70 : decode cX1_make 70 = .ok (.aload_n 0, 1) := fchk_d fw_dX1_make_63_c (70, .aload_n 0, 1) (List.mem_of_getElem? (i := 3) rfl)
theorem dX1_make_71 : decode cX1_make 71 = .ok (.aload_n 0, 1) := fchk_d fw_dX1_make_63_c (71, .aload_n 0, 1) (List.mem_of_getElem? (i := 4) rfl)
theorem dX1_make_72 : decode cX1_make 72 = .ok (.getfield 37, 3) := fchk_d fw_dX1_make_63_c (72, .getfield 37, 3) (List.mem_of_getElem? (i := 5) rfl)
theorem dX1_make_75 : decode cX1_make 75 = .ok (.getfield 51, 3) := fchk_d fw_dX1_make_63_c (75, .getfield 51, 3) (List.mem_of_getElem? (i := 6) rfl)
theorem dX1_make_78 : decode cX1_make 78 = .ok (.iconst 1, 1) := fchk_d fw_dX1_make_63_c (78, .iconst 1, 1) (List.mem_of_getElem? (i := 7) rfl)
theorem dX1_make_79 : decode cX1_make 79 = .ok (.iadd, 1) := fchk_d fw_dX1_make_63_c (79, .iadd, 1) (List.mem_of_getElem? (i := 8) rfl)
theorem dX1_make_80 : decode cX1_make 80 = .ok (.invokestatic 73, 3) := fchk_d fw_dX1_make_63_c (80, .invokestatic 73, 3) (List.mem_of_getElem? (i := 9) rfl)
theorem dX1_make_83 : decode cX1_make 83 = .ok (.putfield 77, 3) := fchk_d fw_dX1_make_63_c (83, .putfield 77, 3) (List.mem_of_getElem? (i := 10) rfl)
theorem dX1_make_86 : decode cX1_make 86 = .ok (.iconst 0, 1) := fchk_d fw_dX1_make_63_c (86, .iconst 0, 1) (List.mem_of_getElem? (i := 11) rfl)
theorem dX1_make_87 : decode cX1_make 87 = .ok (.istore_n 1, 1) := fchk_d fw_dX1_make_63_c (87, .istore_n 1, 1) (List.mem_of_getElem? (i := 12) rfl)
theorem dX1_make_88 : decode cX1_make 88 = .ok (.iload_n 1, 1) := fchk_d fw_dX1_make_63_c (88, .iload_n 1, 1) (List.mem_of_getElem? (i := 13) rfl)
theorem dX1_make_89 : decode cX1_make 89 = .ok (.aload_n 0, 1) := fchk_d fw_dX1_make_63_c (89, .aload_n 0, 1) (List.mem_of_getElem? (i := 14) rfl)
theorem dX1_make_90 : decode cX1_make 90 = .ok (.getfield 80, 3) := fchk_d fw_dX1_make_63_c (90, .getfield 80, 3) (List.mem_of_getElem? (i := 15) rfl)
theorem dX1_make_93 : decode cX1_make 93 = .ok (.if_icmp .ge 29, 3) := fchk_d fw_dX1_make_63_c (93, .if_icmp .ge 29, 3) (List.mem_of_getElem? (i := 16) rfl)
theorem dX1_make_96 : decode cX1_make 96 = .ok (.aload_n 0, 1) := fchk_d fw_dX1_make_63_c (96, .aload_n 0, 1) (List.mem_of_getElem? (i := 17) rfl)
theorem dX1_make_97 : decode cX1_make 97 = .ok (.dup, 1) := fchk_d fw_dX1_make_63_c (97, .dup, 1) (List.mem_of_getElem? (i := 18) rfl)
theorem dX1_make_98 : decode cX1_make 98 = .ok (.getfield 77, 3) := fchk_d fw_dX1_make_63_c (98, .getfield 77, 3) (List.mem_of_getElem? (i := 19) rfl)
theorem dX1_make_101 : decode cX1_make 101 = .ok (.aload_n 0, 1) := fchk_d fw_dX1_make_63_c (101, .aload_n 0, 1) (List.mem_of_getElem? (i := 20) rfl)
theorem dX1_make_102 : decode cX1_make 102 = .ok (.getfield 30, 3) := fchk_d fw_dX1_make_63_c (102, .getfield 30, 3) (List.mem_of_getElem? (i := 21) rfl)
theorem dX1_make_105 : decode cX1_make 105 = .ok (.iload_n 1, 1) := fchk_d fw_dX1_make_63_c (105, .iload_n 1, 1) (List.mem_of_getElem? (i := 22) rfl)
theorem dX1_make_106 : decode cX1_make 106 = .ok (.iaload, 1) := fchk_d fw_dX1_make_63_c (106, .iaload, 1) (List.mem_of_getElem? (i := 23) rfl)
theorem dX1_make_107 : decode cX1_make 107 = .ok (.iconst 1, 1) := fchk_d fw_dX1_make_63_c (107, .iconst 1, 1) (List.mem_of_getElem? (i := 24) rfl)
theorem dX1_make_108 : decode cX1_make 108 = .ok (.iadd, 1) := fchk_d fw_dX1_make_63_c (108, .iadd, 1) (List.mem_of_getElem? (i := 25) rfl)
theorem dX1_make_109 : decode cX1_make 109 = .ok (.invokestatic 73, 3) := fchk_d fw_dX1_make_63_c (109, .invokestatic 73, 3) (List.mem_of_getElem? (i := 26) rfl)
theorem dX1_make_112 : decode cX1_make 112 = .ok (.iadd, 1) := fchk_d fw_dX1_make_63_c (112, .iadd, 1) (List.mem_of_getElem? (i := 27) rfl)
theorem dX1_make_113 : decode cX1_make 113 = .ok (.putfield 77, 3) := fchk_d fw_dX1_make_63_c (113, .putfield 77, 3) (List.mem_of_getElem? (i := 28) rfl)
theorem dX1_make_116 : decode cX1_make 116 = .ok (.iinc 1 1, 3) := by decide +kernel
def fw_dX1_make_119 : List (Nat × Instr × Nat) := [(119, .goto (-31), 3), (122, .return_, 1)]
theorem fw_dX1_make_119_c : fchk 119 (cX1_make.data.toList.drop 119) fw_dX1_make_119 = true := by decide +kernel
theorem dX1_make_119 : decode cX1_make 119 = .ok (.goto (-31), 3) := fchk_d fw_dX1_make_119_c (119, .goto (-31), 3) (List.mem_of_getElem? (i := 0) rfl)
theorem dX1_make_122 : decode cX1_make 122 = .ok (.return_, 1) := fchk_d fw_dX1_make_119_c (122, .return_, 1) (List.mem_of_getElem? (i := 1) rfl)
set_option maxRecDepth 20000 in
theorem ggX1_learnActs_X7_isIn : GoodIn wsX1_learnActs wsX7_isIn := goodIn_r _ [4] rfl (by decide +kernel)
set_option maxRecDepth 20000 in
theorem gX1_learnActs_X7_isIn_n83 : GoodIn wsX1_learnActs (wsX7_isIn) := ggX1_learnActs_X7_isIn
set_option maxRecDepth 20000 in
theorem ggX1_learnActs_X7_slot : GoodIn wsX1_learnActs wsX7_slot := goodIn_r _ [6] rfl (by decide +kernel)
set_option maxRecDepth 20000 in
theorem gX1_learnActs_X7_slot_n87 : GoodIn wsX1_learnActs (wsX7_slot) := ggX1_learnActs_X7_slot
set_option maxRecDepth 20000 in
theorem ggX1_learnActs_X5_partOf : GoodIn wsX1_learnActs wsX5_partOf := goodIn_r _ [11, 12, 41, 42, 43, 44, 45, 46, 47] rfl (by decide +kernel)
set_option maxRecDepth 20000 in
theorem gX1_learnActs_X5_partOf : GoodIn wsX1_learnActs (wsV RX1 90 RX5 yX5_partOf wsX5_partOf) := goodIn_app (goodIn_of _ (by decide +kernel)) ggX1_learnActs_X5_partOf
set_option maxRecDepth 20000 in
theorem ggX1_learnActs_X1_addIfNew : GoodIn wsX1_learnActs wsX1_addIfNew := goodIn_r _ [17, 18, 19, 1, 20, 21, 22, 23, 24, 10, 25, 12, 26, 27, 28, 29, 30, 31, 32, 33, 34, 35, 36, 37, 38, 39, 40, 41, 42, 43, 44, 45, 46, 47] rfl (by decide +kernel)
set_option maxRecDepth 20000 in
theorem gX1_learnActs_X1_addIfNew : GoodIn wsX1_learnActs (wsV RX1 95 RX1 yX1_addIfNew wsX1_addIfNew) := goodIn_app (goodIn_of _ (by decide +kernel)) ggX1_learnActs_X1_addIfNew
def fw_dX1_learnActs_0 : List (Nat × Instr × Nat) := [(0, .iconst 0, 1), (1, .istore_n 3, 1), (2, .iconst 0, 1), (3, .istore 4, 2), (5, .iconst 0, 1), (6, .istore 5, 2), (8, .iload 5, 2), (10, .bipush 10, 2), (12, .if_icmp .ge 73, 3), (15, .iload_n 2, 1), (16, .iload 5, 2), (18, .invokestatic 83, 3), (21, .ifCond .eq 58, 3), (24, .iload_n 1, 1), (25, .iload 5, 2), (27, .invokestatic 87, 3), (30, .istore 6, 2), (32, .aload_n 0, 1), (33, .getfield 33, 3), (36, .iload 6, 2), (38, .invokevirtual 90, 3), (41, .istore 7, 2), (43, .iload 7, 2), (45, .ifCond .ne 11, 3), (48, .iload 4, 2)]
theorem fw_dX1_learnActs_0_c : fchk 0 (cX1_learnActs.data.toList.drop 0) fw_dX1_learnActs_0 = true := by decide +kernel
theorem dX1_learnActs_0 : decode cX1_learnActs 0 = .ok (.iconst 0, 1) := fchk_d fw_dX1_learnActs_0_c (0, .iconst 0, 1) (List.mem_of_getElem? (i := 0) rfl)
theorem dX1_learnActs_1 : decode cX1_learnActs 1 = .ok (.istore_n 3, 1) := fchk_d fw_dX1_learnActs_0_c (1, .istore_n 3, 1) (List.mem_of_getElem? (i := 1) rfl)
theorem dX1_learnActs_2 : decode cX1_learnActs 2 = .ok (.iconst 0, 1) := fchk_d fw_dX1_learnActs_0_c (2, .iconst 0, 1) (List.mem_of_getElem? (i := 2) rfl)
theorem dX1_learnActs_3 : decode cX1_learnActs 3 = .ok (.istore 4, 2) := fchk_d fw_dX1_learnActs_0_c (3, .istore 4, 2) (List.mem_of_getElem? (i := 3) rfl)
theorem dX1_learnActs_5 : decode cX1_learnActs 5 = .ok (.iconst 0, 1) := fchk_d fw_dX1_learnActs_0_c (5, .iconst 0, 1) (List.mem_of_getElem? (i := 4) rfl)
theorem dX1_learnActs_6 : decode cX1_learnActs 6 = .ok (.istore 5, 2) := fchk_d fw_dX1_learnActs_0_c (6, .istore 5, 2) (List.mem_of_getElem? (i := 5) rfl)
theorem dX1_learnActs_8 : decode cX1_learnActs 8 = .ok (.iload 5, 2) := fchk_d fw_dX1_learnActs_0_c (8, .iload 5, 2) (List.mem_of_getElem? (i := 6) rfl)
theorem dX1_learnActs_10 : decode cX1_learnActs 10 = .ok (.bipush 10, 2) := fchk_d fw_dX1_learnActs_0_c (10, .bipush 10, 2) (List.mem_of_getElem? (i := 7) rfl)
theorem dX1_learnActs_12 : decode cX1_learnActs 12 = .ok (.if_icmp .ge 73, 3) := fchk_d fw_dX1_learnActs_0_c (12, .if_icmp .ge 73, 3) (List.mem_of_getElem? (i := 8) rfl)
theorem dX1_learnActs_15 : decode cX1_learnActs 15 = .ok (.iload_n 2, 1) := fchk_d fw_dX1_learnActs_0_c (15, .iload_n 2, 1) (List.mem_of_getElem? (i := 9) rfl)
theorem dX1_learnActs_16 : decode cX1_learnActs 16 = .ok (.iload 5, 2) := fchk_d fw_dX1_learnActs_0_c (16, .iload 5, 2) (List.mem_of_getElem? (i := 10) rfl)
theorem dX1_learnActs_18 : decode cX1_learnActs 18 = .ok (.invokestatic 83, 3) := fchk_d fw_dX1_learnActs_0_c (18, .invokestatic 83, 3) (List.mem_of_getElem? (i := 11) rfl)
theorem dX1_learnActs_21 : decode cX1_learnActs 21 = .ok (.ifCond .eq 58, 3) := fchk_d fw_dX1_learnActs_0_c (21, .ifCond .eq 58, 3) (List.mem_of_getElem? (i := 12) rfl)
theorem dX1_learnActs_24 : decode cX1_learnActs 24 = .ok (.iload_n 1, 1) := fchk_d fw_dX1_learnActs_0_c (24, .iload_n 1, 1) (List.mem_of_getElem? (i := 13) rfl)
theorem dX1_learnActs_25 : decode cX1_learnActs 25 = .ok (.iload 5, 2) := fchk_d fw_dX1_learnActs_0_c (25, .iload 5, 2) (List.mem_of_getElem? (i := 14) rfl)
theorem dX1_learnActs_27 : decode cX1_learnActs 27 = .ok (.invokestatic 87, 3) := fchk_d fw_dX1_learnActs_0_c (27, .invokestatic 87, 3) (List.mem_of_getElem? (i := 15) rfl)
theorem dX1_learnActs_30 : decode cX1_learnActs 30 = .ok (.istore 6, 2) := fchk_d fw_dX1_learnActs_0_c (30, .istore 6, 2) (List.mem_of_getElem? (i := 16) rfl)
theorem dX1_learnActs_32 : decode cX1_learnActs 32 = .ok (.aload_n 0, 1) := fchk_d fw_dX1_learnActs_0_c (32, .aload_n 0, 1) (List.mem_of_getElem? (i := 17) rfl)
theorem dX1_learnActs_33 : decode cX1_learnActs 33 = .ok (.getfield 33, 3) := fchk_d fw_dX1_learnActs_0_c (33, .getfield 33, 3) (List.mem_of_getElem? (i := 18) rfl)
theorem dX1_learnActs_36 : decode cX1_learnActs 36 = .ok (.iload 6, 2) := fchk_d fw_dX1_learnActs_0_c (36, .iload 6, 2) (List.mem_of_getElem? (i := 19) rfl)
theorem dX1_learnActs_38 : decode cX1_learnActs 38 = .ok (.invokevirtual 90, 3) := fchk_d fw_dX1_learnActs_0_c (38, .invokevirtual 90, 3) (List.mem_of_getElem? (i := 20) rfl)
theorem dX1_learnActs_41 : decode cX1_learnActs 41 = .ok (.istore 7, 2) := fchk_d fw_dX1_learnActs_0_c (41, .istore 7, 2) (List.mem_of_getElem? (i := 21) rfl)
theorem dX1_learnActs_43 : decode cX1_learnActs 43 = .ok (.iload 7, 2) := fchk_d fw_dX1_learnActs_0_c (43, .iload 7, 2) (List.mem_of_getElem? (i := 22) rfl)
theorem dX1_learnActs_45 : decode cX1_learnActs 45 = .ok (.ifCond .ne 11, 3) := fchk_d fw_dX1_learnActs_0_c (45, .ifCond .ne 11, 3) (List.mem_of_getElem? (i := 23) rfl)
theorem dX1_learnActs_48 : decode cX1_learnActs 48 = .ok (.iload 4, 2) := fchk_d fw_dX1_learnActs_0_c (48, .iload 4, 2) (List.mem_of_getElem? (i := 24) rfl)
theorem dX1_learnActs_50 : decode cX1_learnActs 50 = .ok (.iinc 4 1, 3) := by decide +kernel
def fw_dX1_learnActs_53 : List (Nat × Instr × Nat) := [(53, .goto 9, 3), (56, .iconst 3, 1), (57, .iload 7, 2), (59, .iadd, 1), (60, .iconst 1, 1), (61, .isub, 1), (62, .istore 8, 2), (64, .iload_n 3, 1), (65, .iconst 1, 1), (66, .iload 8, 2), (68, .ishl, 1), (69, .ior, 1), (70, .istore_n 3, 1), (71, .aload_n 0, 1), (72, .iload 6, 2), (74, .iload 8, 2), (76, .invokevirtual 95, 3)]
theorem fw_dX1_learnActs_53_c : fchk 53 (cX1_learnActs.data.toList.drop 53) fw_dX1_learnActs_53 = true := by decide +kernel
theorem dX1_learnActs_53 : decode cX1_learnActs 53 = .ok (.goto 9, 3) := fchk_d fw_dX1_learnActs_53_c (53, .goto 9, 3) (List.mem_of_getElem? (i := 0) rfl)
theorem dX1_learnActs_56 : decode cX1_learnActs 56 = .ok (.iconst 3, 1) := fchk_d fw_dX1_learnActs_53_c (56, .iconst 3, 1) (List.mem_of_getElem? (i := 1) rfl)
theorem dX1_learnActs_57 : decode cX1_learnActs 57 = .ok (.iload 7, 2) := fchk_d fw_dX1_learnActs_53_c (57, .iload 7, 2) (List.mem_of_getElem? (i := 2) rfl)
theorem dX1_learnActs_59 : decode cX1_learnActs 59 = .ok (.iadd, 1) := fchk_d fw_dX1_learnActs_53_c (59, .iadd, 1) (List.mem_of_getElem? (i := 3) rfl)
theorem dX1_learnActs_60 : decode cX1_learnActs 60 = .ok (.iconst 1, 1) := fchk_d fw_dX1_learnActs_53_c (60, .iconst 1, 1) (List.mem_of_getElem? (i := 4) rfl)
theorem dX1_learnActs_61 : decode cX1_learnActs 61 = .ok (.isub, 1) := fchk_d fw_dX1_learnActs_53_c (61, .isub, 1) (List.mem_of_getElem? (i := 5) rfl)
theorem dX1_learnActs_62 : decode cX1_learnActs 62 = .ok (.istore 8, 2) := fchk_d fw_dX1_learnActs_53_c (62, .istore 8, 2) (List.mem_of_getElem? (i := 6) rfl)
theorem dX1_learnActs_64 : decode cX1_learnActs 64 = .ok (.iload_n 3, 1) := fchk_d fw_dX1_learnActs_53_c (64, .iload_n 3, 1) (List.mem_of_getElem? (i := 7) rfl)
theorem dX1_learnActs_65 : decode cX1_learnActs 65 = .ok (.iconst 1, 1) := fchk_d fw_dX1_learnActs_53_c (65, .iconst 1, 1) (List.mem_of_getElem? (i := 8) rfl)
theorem dX1_learnActs_66 : decode cX1_learnActs 66 = .ok (.iload 8, 2) := fchk_d fw_dX1_learnActs_53_c (66, .iload 8, 2) (List.mem_of_getElem? (i := 9) rfl)
theorem dX1_learnActs_68 : decode cX1_learnActs 68 = .ok (.ishl, 1) := fchk_d fw_dX1_learnActs_53_c (68, .ishl, 1) (List.mem_of_getElem? (i := 10) rfl)
theorem dX1_learnActs_69 : decode cX1_learnActs 69 = .ok (.ior, 1) := fchk_d fw_dX1_learnActs_53_c (69, .ior, 1) (List.mem_of_getElem? (i := 11) rfl)
theorem dX1_learnActs_70 : decode cX1_learnActs 70 = .ok (.istore_n 3, 1) := fchk_d fw_dX1_learnActs_53_c (70, .istore_n 3, 1) (List.mem_of_getElem? (i := 12) rfl)
theorem dX1_learnActs_71 : decode cX1_learnActs 71 = .ok (.aload_n 0, 1) := fchk_d fw_dX1_learnActs_53_c (71, .aload_n 0, 1) (List.mem_of_getElem? (i := 13) rfl)
theorem dX1_learnActs_72 : decode cX1_learnActs 72 = .ok (.iload 6, 2) := fchk_d fw_dX1_learnActs_53_c (72, .iload 6, 2) (List.mem_of_getElem? (i := 14) rfl)
theorem dX1_learnActs_74 : decode cX1_learnActs 74 = .ok (.iload 8, 2) := fchk_d fw_dX1_learnActs_53_c (74, .iload 8, 2) (List.mem_of_getElem? (i := 15) rfl)
theorem dX1_learnActs_76 : decode cX1_learnActs 76 = .ok (.invokevirtual 95, 3) := fchk_d fw_dX1_learnActs_53_c (76, .invokevirtual 95, 3) (List.mem_of_getElem? (i := 16) rfl)
theorem dX1_learnActs_79 : decode cX1_learnActs 79 = .ok (.iinc 5 1, 3) := by decide +kernel
def fw_dX1_learnActs_82 : List (Nat × Instr × Nat) := [(82, .goto (-74), 3), (85, .iload_n 3, 1), (86, .ireturn, 1)]
theorem fw_dX1_learnActs_82_c : fchk 82 (cX1_learnActs.data.toList.drop 82) fw_dX1_learnActs_82 = true := by decide +kernel
theorem dX1_learnActs_82 : decode cX1_learnActs 82 = .ok (.goto (-74), 3) := fchk_d fw_dX1_learnActs_82_c (82, .goto (-74), 3) (List.mem_of_getElem? (i := 0) rfl)
theorem dX1_learnActs_85 : decode cX1_learnActs 85 = .ok (.iload_n 3, 1) := fchk_d fw_dX1_learnActs_82_c (85, .iload_n 3, 1) (List.mem_of_getElem? (i := 1) rfl)
theorem dX1_learnActs_86 : decode cX1_learnActs 86 = .ok (.ireturn, 1) := fchk_d fw_dX1_learnActs_82_c (86, .ireturn, 1) (List.mem_of_getElem? (i := 2) rfl)
set_option maxRecDepth 20000 in
theorem ggX1_addIfNew_X5_same : GoodIn wsX1_addIfNew wsX5_same := goodIn_r _ [10, 11, 12, 13, 14, 27, 28, 29, 30, 31, 32, 33] rfl (by decide +kernel)
set_option maxRecDepth 20000 in
theorem gX1_addIfNew_X5_same : GoodIn wsX1_addIfNew (wsV RX1 99 RX5 yX5_same wsX5_same) := goodIn_app (goodIn_of _ (by decide +kernel)) ggX1_addIfNew_X5_same
def fw_dX1_addIfNew_0 : List (Nat × Instr × Nat) := [(0, .iconst 0, 1), (1, .istore_n 3, 1), (2, .iload_n 3, 1), (3, .aload_n 0, 1), (4, .getfield 41, 3), (7, .if_icmp .ge 37, 3), (10, .aload_n 0, 1), (11, .getfield 18, 3), (14, .iload_n 3, 1), (15, .iaload, 1), (16, .iload_n 2, 1), (17, .if_icmp .ne 21, 3), (20, .aload_n 0, 1), (21, .getfield 33, 3), (24, .aload_n 0, 1), (25, .getfield 15, 3), (28, .iload_n 3, 1), (29, .iaload, 1), (30, .iload_n 1, 1), (31, .invokevirtual 99, 3), (34, .ifCond .eq 4, 3), (37, .return_, 1)]
theorem fw_dX1_addIfNew_0_c : fchk 0 (cX1_addIfNew.data.toList.drop 0) fw_dX1_addIfNew_0 = true := by decide +kernel
theorem dX1_addIfNew_0 : decode cX1_addIfNew 0 = .ok (.iconst 0, 1) := fchk_d fw_dX1_addIfNew_0_c (0, .iconst 0, 1) (List.mem_of_getElem? (i := 0) rfl)
theorem dX1_addIfNew_1 : decode cX1_addIfNew 1 = .ok (.istore_n 3, 1) := fchk_d fw_dX1_addIfNew_0_c (1, .istore_n 3, 1) (List.mem_of_getElem? (i := 1) rfl)
theorem dX1_addIfNew_2 : decode cX1_addIfNew 2 = .ok (.iload_n 3, 1) := fchk_d fw_dX1_addIfNew_0_c (2, .iload_n 3, 1) (List.mem_of_getElem? (i := 2) rfl)
theorem dX1_addIfNew_3 : decode cX1_addIfNew 3 = .ok (.aload_n 0, 1) := fchk_d fw_dX1_addIfNew_0_c (3, .aload_n 0, 1) (List.mem_of_getElem? (i := 3) rfl)
theorem dX1_addIfNew_4 : decode cX1_addIfNew 4 = .ok (.getfield 41, 3) := fchk_d fw_dX1_addIfNew_0_c (4, .getfield 41, 3) (List.mem_of_getElem? (i := 4) rfl)
theorem dX1_addIfNew_7 : decode cX1_addIfNew 7 = .ok (.if_icmp .ge 37, 3) := fchk_d fw_dX1_addIfNew_0_c (7, .if_icmp .ge 37, 3) (List.mem_of_getElem? (i := 5) rfl)
theorem dX1_addIfNew_10 : decode cX1_addIfNew 10 = .ok (.aload_n 0, 1) := fchk_d fw_dX1_addIfNew_0_c (10, .aload_n 0, 1) (List.mem_of_getElem? (i := 6) rfl)
theorem dX1_addIfNew_11 : decode cX1_addIfNew 11 = .ok (.getfield 18, 3) := fchk_d fw_dX1_addIfNew_0_c (11, .getfield 18, 3) (List.mem_of_getElem? (i := 7) rfl)
theorem dX1_addIfNew_14 : decode cX1_addIfNew 14 = .ok (.iload_n 3, 1) := fchk_d fw_dX1_addIfNew_0_c (14, .iload_n 3, 1) (List.mem_of_getElem? (i := 8) rfl)
theorem dX1_addIfNew_15 : decode cX1_addIfNew 15 = .ok (.iaload, 1) := fchk_d fw_dX1_addIfNew_0_c (15, .iaload, 1) (List.mem_of_getElem? (i := 9) rfl)
theorem dX1_addIfNew_16 : decode cX1_addIfNew 16 = .ok (.iload_n 2, 1) := fchk_d fw_dX1_addIfNew_0_c (16, .iload_n 2, 1) (List.mem_of_getElem? (i := 10) rfl)
theorem dX1_addIfNew_17 : decode cX1_addIfNew 17 = .ok (.if_icmp .ne 21, 3) := fchk_d fw_dX1_addIfNew_0_c (17, .if_icmp .ne 21, 3) (List.mem_of_getElem? (i := 11) rfl)
theorem dX1_addIfNew_20 : decode cX1_addIfNew 20 = .ok (.aload_n 0, 1) := fchk_d fw_dX1_addIfNew_0_c (20, .aload_n 0, 1) (List.mem_of_getElem? (i := 12) rfl)
theorem dX1_addIfNew_21 : decode cX1_addIfNew 21 = .ok (.getfield 33, 3) := fchk_d fw_dX1_addIfNew_0_c (21, .getfield 33, 3) (List.mem_of_getElem? (i := 13) rfl)
theorem dX1_addIfNew_24 : decode cX1_addIfNew 24 = .ok (.aload_n 0, 1) := fchk_d fw_dX1_addIfNew_0_c (24, .aload_n 0, 1) (List.mem_of_getElem? (i := 14) rfl)
theorem dX1_addIfNew_25 : decode cX1_addIfNew 25 = .ok (.getfield 15, 3) := fchk_d fw_dX1_addIfNew_0_c (25, .getfield 15, 3) (List.mem_of_getElem? (i := 15) rfl)
theorem dX1_addIfNew_28 : decode cX1_addIfNew 28 = .ok (.iload_n 3, 1) := fchk_d fw_dX1_addIfNew_0_c (28, .iload_n 3, 1) (List.mem_of_getElem? (i := 16) rfl)
theorem dX1_addIfNew_29 : decode cX1_addIfNew 29 = .ok (.iaload, 1) := fchk_d fw_dX1_addIfNew_0_c (29, .iaload, 1) (List.mem_of_getElem? (i := 17) rfl)
theorem dX1_addIfNew_30 : decode cX1_addIfNew 30 = .ok (.iload_n 1, 1) := fchk_d fw_dX1_addIfNew_0_c (30, .iload_n 1, 1) (List.mem_of_getElem? (i := 18) rfl)
theorem dX1_addIfNew_31 : decode cX1_addIfNew 31 = .ok (.invokevirtual 99, 3) := fchk_d fw_dX1_addIfNew_0_c (31, .invokevirtual 99, 3) (List.mem_of_getElem? (i := 19) rfl)
theorem dX1_addIfNew_34 : decode cX1_addIfNew 34 = .ok (.ifCond .eq 4, 3) := fchk_d fw_dX1_addIfNew_0_c (34, .ifCond .eq 4, 3) (List.mem_of_getElem? (i := 20) rfl)
theorem dX1_addIfNew_37 : decode cX1_addIfNew 37 = .ok (.return_, 1) := fchk_d fw_dX1_addIfNew_0_c (37, .return_, 1) (List.mem_of_getElem? (i := 21) rfl)
theorem dX1_addIfNew_38 : decode cX1_addIfNew 38 = .ok (.iinc 3 1, 3) := by decide +kernel
def fw_dX1_addIfNew_41 : List (Nat × Instr × Nat) := [(41, .goto (-39), 3), (44, .aload_n 0, 1), (45, .getfield 15, 3), (48, .aload_n 0, 1), (49, .getfield 41, 3), (52, .iload_n 1, 1), (53, .iastore, 1), (54, .aload_n 0, 1), (55, .getfield 18, 3), (58, .aload_n 0, 1), (59, .getfield 41, 3), (62, .iload_n 2, 1), (63, .iastore, 1), (64, .aload_n 0, 1), (65, .dup, 1), (66, .getfield 41, 3), (69, .iconst 1, 1), (70, .iadd, 1), (71, .putfield 41, 3), (74, .aload_n 0, 1), (75, .getfield 21, 3), (78, .iload_n 2, 1), (79, .dup2, 1), (80, .iaload, 1), (81, .iconst 1, 1), (82, .iadd, 1), (83, .iastore, 1), (84, .return_, 1)]
theorem fw_dX1_addIfNew_41_c : fchk 41 (cX1_addIfNew.data.toList.drop 41) fw_dX1_addIfNew_41 = true := by decide +kernel
theorem dX1_addIfNew_41 : decode cX1_addIfNew 41 = .ok (.goto (-39), 3) := fchk_d fw_dX1_addIfNew_41_c (41, .goto (-39), 3) (List.mem_of_getElem? (i := 0) rfl)
theorem dX1_addIfNew_44 : decode cX1_addIfNew 44 = .ok (.aload_n 0, 1) := fchk_d fw_dX1_addIfNew_41_c (44, .aload_n 0, 1) (List.mem_of_getElem? (i := 1) rfl)
theorem dX1_addIfNew_45 : decode cX1_addIfNew 45 = .ok (.getfield 15, 3) := fchk_d fw_dX1_addIfNew_41_c (45, .getfield 15, 3) (List.mem_of_getElem? (i := 2) rfl)
theorem dX1_addIfNew_48 : decode cX1_addIfNew 48 = .ok (.aload_n 0, 1) := fchk_d fw_dX1_addIfNew_41_c (48, .aload_n 0, 1) (List.mem_of_getElem? (i := 3) rfl)
theorem dX1_addIfNew_49 : decode cX1_addIfNew 49 = .ok (.getfield 41, 3) := fchk_d fw_dX1_addIfNew_41_c (49, .getfield 41, 3) (List.mem_of_getElem? (i := 4) rfl)
theorem dX1_addIfNew_52 : decode cX1_addIfNew 52 = .ok (.iload_n 1, 1) := fchk_d fw_dX1_addIfNew_41_c (52, .iload_n 1, 1) (List.mem_of_getElem? (i := 5) rfl)
theorem dX1_addIfNew_53 : decode cX1_addIfNew 53 = .ok (.iastore, 1) := fchk_d fw_dX1_addIfNew_41_c (53, .iastore, 1) (List.mem_of_getElem? (i := 6) rfl)
theorem dX1_addIfNew_54 : decode cX1_addIfNew 54 = .ok (.aload_n 0, 1) := fchk_d fw_dX1_addIfNew_41_c (54, .aload_n 0, 1) (List.mem_of_getElem? (i := 7) rfl)
theorem dX1_addIfNew_55 : decode cX1_addIfNew 55 = .ok (.getfield 18, 3) := fchk_d fw_dX1_addIfNew_41_c (55, .getfield 18, 3) (List.mem_of_getElem? (i := 8) rfl)
theorem dX1_addIfNew_58 : decode cX1_addIfNew 58 = .ok (.aload_n 0, 1) := fchk_d fw_dX1_addIfNew_41_c (58, .aload_n 0, 1) (List.mem_of_getElem? (i := 9) rfl)
theorem dX1_addIfNew_59 : decode cX1_addIfNew 59 = .ok (.getfield 41, 3) := fchk_d fw_dX1_addIfNew_41_c (59, .getfield 41, 3) (List.mem_of_getElem? (i := 10) rfl)
theorem dX1_addIfNew_62 : decode cX1_addIfNew 62 = .ok (.iload_n 2, 1) := fchk_d fw_dX1_addIfNew_41_c (62, .iload_n 2, 1) (List.mem_of_getElem? (i := 11) rfl)
theorem dX1_addIfNew_63 : decode cX1_addIfNew 63 = .ok (.iastore, 1) := fchk_d fw_dX1_addIfNew_41_c (63, .iastore, 1) (List.mem_of_getElem? (i := 12) rfl)
theorem dX1_addIfNew_64 : decode cX1_addIfNew 64 = .ok (.aload_n 0, 1) := fchk_d fw_dX1_addIfNew_41_c (64, .aload_n 0, 1) (List.mem_of_getElem? (i := 13) rfl)
theorem dX1_addIfNew_65 : decode cX1_addIfNew 65 = .ok (.dup, 1) := fchk_d fw_dX1_addIfNew_41_c (65, .dup, 1) (List.mem_of_getElem? (i := 14) rfl)
theorem dX1_addIfNew_66 : decode cX1_addIfNew 66 = .ok (.getfield 41, 3) := fchk_d fw_dX1_addIfNew_41_c (66, .getfield 41, 3) (List.mem_of_getElem? (i := 15) rfl)
theorem dX1_addIfNew_69 : decode cX1_addIfNew 69 = .ok (.iconst 1, 1) := fchk_d fw_dX1_addIfNew_41_c (69, .iconst 1, 1) (List.mem_of_getElem? (i := 16) rfl)
theorem dX1_addIfNew_70 : decode cX1_addIfNew 70 = .ok (.iadd, 1) := fchk_d fw_dX1_addIfNew_41_c (70, .iadd, 1) (List.mem_of_getElem? (i := 17) rfl)
theorem dX1_addIfNew_71 : decode cX1_addIfNew 71 = .ok (.putfield 41, 3) := fchk_d fw_dX1_addIfNew_41_c (71, .putfield 41, 3) (List.mem_of_getElem? (i := 18) rfl)
theorem dX1_addIfNew_74 : decode cX1_addIfNew 74 = .ok (.aload_n 0, 1) := fchk_d fw_dX1_addIfNew_41_c (74, .aload_n 0, 1) (List.mem_of_getElem? (i := 19) rfl)
theorem dX1_addIfNew_75 : decode cX1_addIfNew 75 = .ok (.getfield 21, 3) := fchk_d fw_dX1_addIfNew_41_c (75, .getfield 21, 3) (List.mem_of_getElem? (i := 20) rfl)
theorem dX1_addIfNew_78 : decode cX1_addIfNew 78 = .ok (.iload_n 2, 1) := fchk_d fw_dX1_addIfNew_41_c (78, .iload_n 2, 1) (List.mem_of_getElem? (i := 21) rfl)
theorem dX1_addIfNew_79 : decode cX1_addIfNew 79 = .ok (.dup2, 1) := fchk_d fw_dX1_addIfNew_41_c (79, .dup2, 1) (List.mem_of_getElem? (i := 22) rfl)
theorem dX1_addIfNew_80 : decode cX1_addIfNew 80 = .ok (.iaload, 1) := fchk_d fw_dX1_addIfNew_41_c (80, .iaload, 1) (List.mem_of_getElem? (i := 23) rfl)
theorem dX1_addIfNew_81 : decode cX1_addIfNew 81 = .ok (.iconst 1, 1) := fchk_d fw_dX1_addIfNew_41_c (81, .iconst 1, 1) (List.mem_of_getElem? (i := 24) rfl)
theorem dX1_addIfNew_82 : decode cX1_addIfNew 82 = .ok (.iadd, 1) := fchk_d fw_dX1_addIfNew_41_c (82, .iadd, 1) (List.mem_of_getElem? (i := 25) rfl)
theorem dX1_addIfNew_83 : decode cX1_addIfNew 83 = .ok (.iastore, 1) := fchk_d fw_dX1_addIfNew_41_c (83, .iastore, 1) (List.mem_of_getElem? (i := 26) rfl)
theorem dX1_addIfNew_84 : decode cX1_addIfNew 84 = .ok (.return_, 1) := fchk_d fw_dX1_addIfNew_41_c (84, .return_, 1) (List.mem_of_getElem? (i := 27) rfl)
set_option maxRecDepth 20000 in
theorem ggX1_learnMeetings_X7_isIn : GoodIn wsX1_learnMeetings wsX7_isIn := goodIn_r _ [4] rfl (by decide +kernel)
set_option maxRecDepth 20000 in
theorem gX1_learnMeetings_X7_isIn_n83 : GoodIn wsX1_learnMeetings (wsX7_isIn) := ggX1_learnMeetings_X7_isIn
def fw_dX1_learnMeetings_0 : List (Nat × Instr × Nat) := [(0, .iconst 0, 1), (1, .istore_n 2, 1), (2, .iload_n 2, 1), (3, .bipush 7, 2), (5, .if_icmp .ge 27, 3), (8, .iload_n 1, 1), (9, .iload_n 2, 1), (10, .invokestatic 83, 3), (13, .ifCond .eq 13, 3), (16, .aload_n 0, 1), (17, .getfield 24, 3), (20, .iload_n 2, 1), (21, .dup2, 1), (22, .iaload, 1), (23, .iload_n 1, 1), (24, .ior, 1), (25, .iastore, 1)]
theorem fw_dX1_learnMeetings_0_c : fchk 0 (cX1_learnMeetings.data.toList.drop 0) fw_dX1_learnMeetings_0 = true := by decide +kernel
theorem dX1_learnMeetings_0 : decode cX1_learnMeetings 0 = .ok (.iconst 0, 1) := fchk_d fw_dX1_learnMeetings_0_c (0, .iconst 0, 1) (List.mem_of_getElem? (i := 0) rfl)
theorem dX1_learnMeetings_1 : decode cX1_learnMeetings 1 = .ok (.istore_n 2, 1) := fchk_d fw_dX1_learnMeetings_0_c (1, .istore_n 2, 1) (List.mem_of_getElem? (i := 1) rfl)
theorem dX1_learnMeetings_2 : decode cX1_learnMeetings 2 = .ok (.iload_n 2, 1) := fchk_d fw_dX1_learnMeetings_0_c (2, .iload_n 2, 1) (List.mem_of_getElem? (i := 2) rfl)
theorem dX1_learnMeetings_3 : decode cX1_learnMeetings 3 = .ok (.bipush 7, 2) := fchk_d fw_dX1_learnMeetings_0_c (3, .bipush 7, 2) (List.mem_of_getElem? (i := 3) rfl)
theorem dX1_learnMeetings_5 : decode cX1_learnMeetings 5 = .ok (.if_icmp .ge 27, 3) := fchk_d fw_dX1_learnMeetings_0_c (5, .if_icmp .ge 27, 3) (List.mem_of_getElem? (i := 4) rfl)
theorem dX1_learnMeetings_8 : decode cX1_learnMeetings 8 = .ok (.iload_n 1, 1) := fchk_d fw_dX1_learnMeetings_0_c (8, .iload_n 1, 1) (List.mem_of_getElem? (i := 5) rfl)
theorem dX1_learnMeetings_9 : decode cX1_learnMeetings 9 = .ok (.iload_n 2, 1) := fchk_d fw_dX1_learnMeetings_0_c (9, .iload_n 2, 1) (List.mem_of_getElem? (i := 6) rfl)
theorem dX1_learnMeetings_10 : decode cX1_learnMeetings 10 = .ok (.invokestatic 83, 3) := fchk_d fw_dX1_learnMeetings_0_c (10, .invokestatic 83, 3) (List.mem_of_getElem? (i := 7) rfl)
theorem dX1_learnMeetings_13 : decode cX1_learnMeetings 13 = .ok (.ifCond .eq 13, 3) := fchk_d fw_dX1_learnMeetings_0_c (13, .ifCond .eq 13, 3) (List.mem_of_getElem? (i := 8) rfl)
theorem dX1_learnMeetings_16 : decode cX1_learnMeetings 16 = .ok (.aload_n 0, 1) := fchk_d fw_dX1_learnMeetings_0_c (16, .aload_n 0, 1) (List.mem_of_getElem? (i := 9) rfl)
theorem dX1_learnMeetings_17 : decode cX1_learnMeetings 17 = .ok (.getfield 24, 3) := fchk_d fw_dX1_learnMeetings_0_c (17, .getfield 24, 3) (List.mem_of_getElem? (i := 10) rfl)
theorem dX1_learnMeetings_20 : decode cX1_learnMeetings 20 = .ok (.iload_n 2, 1) := fchk_d fw_dX1_learnMeetings_0_c (20, .iload_n 2, 1) (List.mem_of_getElem? (i := 11) rfl)
theorem dX1_learnMeetings_21 : decode cX1_learnMeetings 21 = .ok (.dup2, 1) := fchk_d fw_dX1_learnMeetings_0_c (21, .dup2, 1) (List.mem_of_getElem? (i := 12) rfl)
theorem dX1_learnMeetings_22 : decode cX1_learnMeetings 22 = .ok (.iaload, 1) := fchk_d fw_dX1_learnMeetings_0_c (22, .iaload, 1) (List.mem_of_getElem? (i := 13) rfl)
theorem dX1_learnMeetings_23 : decode cX1_learnMeetings 23 = .ok (.iload_n 1, 1) := fchk_d fw_dX1_learnMeetings_0_c (23, .iload_n 1, 1) (List.mem_of_getElem? (i := 14) rfl)
theorem dX1_learnMeetings_24 : decode cX1_learnMeetings 24 = .ok (.ior, 1) := fchk_d fw_dX1_learnMeetings_0_c (24, .ior, 1) (List.mem_of_getElem? (i := 15) rfl)
theorem dX1_learnMeetings_25 : decode cX1_learnMeetings 25 = .ok (.iastore, 1) := fchk_d fw_dX1_learnMeetings_0_c (25, .iastore, 1) (List.mem_of_getElem? (i := 16) rfl)
theorem dX1_learnMeetings_26 : decode cX1_learnMeetings 26 = .ok (.iinc 2 1, 3) := by decide +kernel
def fw_dX1_learnMeetings_29 : List (Nat × Instr × Nat) := [(29, .goto (-27), 3), (32, .return_, 1)]
theorem fw_dX1_learnMeetings_29_c : fchk 29 (cX1_learnMeetings.data.toList.drop 29) fw_dX1_learnMeetings_29 = true := by decide +kernel
theorem dX1_learnMeetings_29 : decode cX1_learnMeetings 29 = .ok (.goto (-27), 3) := fchk_d fw_dX1_learnMeetings_29_c (29, .goto (-27), 3) (List.mem_of_getElem? (i := 0) rfl)
theorem dX1_learnMeetings_32 : decode cX1_learnMeetings 32 = .ok (.return_, 1) := fchk_d fw_dX1_learnMeetings_29_c (32, .return_, 1) (List.mem_of_getElem? (i := 1) rfl)
set_option maxRecDepth 20000 in
theorem ggX1_makeGroups_J7_fill_53178 : GoodIn wsX1_makeGroups wsJ7_fill_53178 := goodIn_r _ [13] rfl (by decide +kernel)
set_option maxRecDepth 20000 in
theorem gX1_makeGroups_J7_fill_53178 : GoodIn wsX1_makeGroups (va_wsS RX1 45 yJ7_fill_53178 wsJ7_fill_53178) := goodIn_app (goodIn_of _ (by decide +kernel)) ggX1_makeGroups_J7_fill_53178
set_option maxRecDepth 20000 in
theorem ggX1_makeGroups_X1_firstGroupFor : GoodIn wsX1_makeGroups wsX1_firstGroupFor := goodIn_r _ [18, 1, 2, 19, 20, 21, 22, 23, 24, 25, 26, 27, 28, 29, 30, 31] rfl (by decide +kernel)
set_option maxRecDepth 20000 in
theorem gX1_makeGroups_X1_firstGroupFor : GoodIn wsX1_makeGroups (wsV RX1 102 RX1 yX1_firstGroupFor wsX1_firstGroupFor) := goodIn_app (goodIn_of _ (by decide +kernel)) ggX1_makeGroups_X1_firstGroupFor
def fw_dX1_makeGroups_0 : List (Nat × Instr × Nat) := [(0, .aload_n 0, 1), (1, .iconst 0, 1), (2, .putfield 80, 3), (5, .aload_n 0, 1), (6, .getfield 27, 3), (9, .iconst 0, 1), (10, .invokestatic 45, 3), (13, .aload_n 0, 1), (14, .getfield 30, 3), (17, .iconst 0, 1), (18, .invokestatic 45, 3), (21, .iconst 0, 1), (22, .istore_n 1, 1), (23, .iload_n 1, 1), (24, .bipush 7, 2), (26, .if_icmp .ge 79, 3), (29, .aload_n 0, 1), (30, .getfield 9, 3), (33, .iload_n 1, 1), (34, .iconst (-1), 1), (35, .iastore, 1), (36, .aload_n 0, 1), (37, .getfield 21, 3), (40, .iload_n 1, 1), (41, .iaload, 1), (42, .ifCond .le 57, 3), (45, .aload_n 0, 1), (46, .iload_n 1, 1), (47, .invokevirtual 102, 3), (50, .istore_n 2, 1), (51, .aload_n 0, 1), (52, .getfield 9, 3), (55, .iload_n 1, 1), (56, .iload_n 2, 1), (57, .iastore, 1), (58, .aload_n 0, 1), (59, .getfield 27, 3), (62, .iload_n 2, 1), (63, .dup2, 1), (64, .iaload, 1)]
theorem fw_dX1_makeGroups_0_c : fchk 0 (cX1_makeGroups.data.toList.drop 0) fw_dX1_makeGroups_0 = true := by decide +kernel
theorem dX1_makeGroups_0 : decode cX1_makeGroups 0 = .ok (.aload_n 0, 1) := fchk_d fw_dX1_makeGroups_0_c (0, .aload_n 0, 1) (List.mem_of_getElem? (i := 0) rfl)
theorem dX1_makeGroups_1 : decode cX1_makeGroups 1 = .ok (.iconst 0, 1) := fchk_d fw_dX1_makeGroups_0_c (1, .iconst 0, 1) (List.mem_of_getElem? (i := 1) rfl)
theorem dX1_makeGroups_2 : decode cX1_makeGroups 2 = .ok (.putfield 80, 3) := fchk_d fw_dX1_makeGroups_0_c (2, .putfield 80, 3) (List.mem_of_getElem? (i := 2) rfl)
theorem dX1_makeGroups_5 : decode cX1_makeGroups 5 = .ok (.aload_n 0, 1) := fchk_d fw_dX1_makeGroups_0_c (5, .aload_n 0, 1) (List.mem_of_getElem? (i := 3) rfl)
theorem dX1_makeGroups_6 : decode cX1_makeGroups 6 = .ok (.getfield 27, 3) := fchk_d fw_dX1_makeGroups_0_c (6, .getfield 27, 3) (List.mem_of_getElem? (i := 4) rfl)
theorem dX1_makeGroups_9 : decode cX1_makeGroups 9 = .ok (.iconst 0, 1) := fchk_d fw_dX1_makeGroups_0_c (9, .iconst 0, 1) (List.mem_of_getElem? (i := 5) rfl)
theorem dX1_makeGroups_10 : decode cX1_makeGroups 10 = .ok (.invokestatic 45, 3) := fchk_d fw_dX1_makeGroups_0_c (10, .invokestatic 45, 3) (List.mem_of_getElem? (i := 6) rfl)
theorem dX1_makeGroups_13 : decode cX1_makeGroups 13 = .ok (.aload_n 0, 1) := fchk_d fw_dX1_makeGroups_0_c (13, .aload_n 0, 1) (List.mem_of_getElem? (i := 7) rfl)
theorem dX1_makeGroups_14 : decode cX1_makeGroups 14 = .ok (.getfield 30, 3) := fchk_d fw_dX1_makeGroups_0_c (14, .getfield 30, 3) (List.mem_of_getElem? (i := 8) rfl)
theorem dX1_makeGroups_17 : decode cX1_makeGroups 17 = .ok (.iconst 0, 1) := fchk_d fw_dX1_makeGroups_0_c (17, .iconst 0, 1) (List.mem_of_getElem? (i := 9) rfl)
theorem dX1_makeGroups_18 : decode cX1_makeGroups 18 = .ok (.invokestatic 45, 3) := fchk_d fw_dX1_makeGroups_0_c (18, .invokestatic 45, 3) (List.mem_of_getElem? (i := 10) rfl)
theorem dX1_makeGroups_21 : decode cX1_makeGroups 21 = .ok (.iconst 0, 1) := fchk_d fw_dX1_makeGroups_0_c (21, .iconst 0, 1) (List.mem_of_getElem? (i := 11) rfl)
theorem dX1_makeGroups_22 : decode cX1_makeGroups 22 = .ok (.istore_n 1, 1) := fchk_d fw_dX1_makeGroups_0_c (22, .istore_n 1, 1) (List.mem_of_getElem? (i := 12) rfl)
theorem dX1_makeGroups_23 : decode cX1_makeGroups 23 = .ok (.iload_n 1, 1) := fchk_d fw_dX1_makeGroups_0_c (23, .iload_n 1, 1) (List.mem_of_getElem? (i := 13) rfl)
theorem dX1_makeGroups_24 : decode cX1_makeGroups 24 = .ok (.bipush 7, 2) := fchk_d fw_dX1_makeGroups_0_c (24, .bipush 7, 2) (List.mem_of_getElem? (i := 14) rfl)
theorem dX1_makeGroups_26 : decode cX1_makeGroups 26 = .ok (.if_icmp .ge 79, 3) := fchk_d fw_dX1_makeGroups_0_c (26, .if_icmp .ge 79, 3) (List.mem_of_getElem? (i := 15) rfl)
theorem dX1_makeGroups_29 : decode cX1_makeGroups 29 = .ok (.aload_n 0, 1) := fchk_d fw_dX1_makeGroups_0_c (29, .aload_n 0, 1) (List.mem_of_getElem? (i := 16) rfl)
theorem dX1_makeGroups_30 : decode cX1_makeGroups 30 = .ok (.getfield 9, 3) := fchk_d fw_dX1_makeGroups_0_c (30, .getfield 9, 3) (List.mem_of_getElem? (i := 17) rfl)
theorem dX1_makeGroups_33 : decode cX1_makeGroups 33 = .ok (.iload_n 1, 1) := fchk_d fw_dX1_makeGroups_0_c (33, .iload_n 1, 1) (List.mem_of_getElem? (i := 18) rfl)
theorem dX1_makeGroups_34 : decode cX1_makeGroups 34 = .ok (.iconst (-1), 1) := fchk_d fw_dX1_makeGroups_0_c (34, .iconst (-1), 1) (List.mem_of_getElem? (i := 19) rfl)
theorem dX1_makeGroups_35 : decode cX1_makeGroups 35 = .ok (.iastore, 1) := fchk_d fw_dX1_makeGroups_0_c (35, .iastore, 1) (List.mem_of_getElem? (i := 20) rfl)
theorem dX1_makeGroups_36 : decode cX1_makeGroups 36 = .ok (.aload_n 0, 1) := fchk_d fw_dX1_makeGroups_0_c (36, .aload_n 0, 1) (List.mem_of_getElem? (i := 21) rfl)
theorem dX1_makeGroups_37 : decode cX1_makeGroups 37 = .ok (.getfield 21, 3) := fchk_d fw_dX1_makeGroups_0_c (37, .getfield 21, 3) (List.mem_of_getElem? (i := 22) rfl)
theorem dX1_makeGroups_40 : decode cX1_makeGroups 40 = .ok (.iload_n 1, 1) := fchk_d fw_dX1_makeGroups_0_c (40, .iload_n 1, 1) (List.mem_of_getElem? (i := 23) rfl)
theorem dX1_makeGroups_41 : decode cX1_makeGroups 41 = .ok (.iaload, 1) := fchk_d fw_dX1_makeGroups_0_c (41, .iaload, 1) (List.mem_of_getElem? (i := 24) rfl)
theorem dX1_makeGroups_42 : decode cX1_makeGroups 42 = .ok (.ifCond .le 57, 3) := fchk_d fw_dX1_makeGroups_0_c (42, .ifCond .le 57, 3) (List.mem_of_getElem? (i := 25) rfl)
theorem dX1_makeGroups_45 : decode cX1_makeGroups 45 = .ok (.aload_n 0, 1) := fchk_d fw_dX1_makeGroups_0_c (45, .aload_n 0, 1) (List.mem_of_getElem? (i := 26) rfl)
theorem dX1_makeGroups_46 : decode cX1_makeGroups 46 = .ok (.iload_n 1, 1) := fchk_d fw_dX1_makeGroups_0_c (46, .iload_n 1, 1) (List.mem_of_getElem? (i := 27) rfl)
theorem dX1_makeGroups_47 : decode cX1_makeGroups 47 = .ok (.invokevirtual 102, 3) := fchk_d fw_dX1_makeGroups_0_c (47, .invokevirtual 102, 3) (List.mem_of_getElem? (i := 28) rfl)
theorem dX1_makeGroups_50 : decode cX1_makeGroups 50 = .ok (.istore_n 2, 1) := fchk_d fw_dX1_makeGroups_0_c (50, .istore_n 2, 1) (List.mem_of_getElem? (i := 29) rfl)
theorem dX1_makeGroups_51 : decode cX1_makeGroups 51 = .ok (.aload_n 0, 1) := fchk_d fw_dX1_makeGroups_0_c (51, .aload_n 0, 1) (List.mem_of_getElem? (i := 30) rfl)
theorem dX1_makeGroups_52 : decode cX1_makeGroups 52 = .ok (.getfield 9, 3) := fchk_d fw_dX1_makeGroups_0_c (52, .getfield 9, 3) (List.mem_of_getElem? (i := 31) rfl)
theorem dX1_makeGroups_55 : decode cX1_makeGroups 55 = .ok (.iload_n 1, 1) := fchk_d fw_dX1_makeGroups_0_c (55, .iload_n 1, 1) (List.mem_of_getElem? (i := 32) rfl)
theorem dX1_makeGroups_56 : decode cX1_makeGroups 56 = .ok (.iload_n 2, 1) := fchk_d fw_dX1_makeGroups_0_c (56, .iload_n 2, 1) (List.mem_of_getElem? (i := 33) rfl)
theorem dX1_makeGroups_57 : decode cX1_makeGroups 57 = .ok (.iastore, 1) := fchk_d fw_dX1_makeGroups_0_c (57, .iastore, 1) (List.mem_of_getElem? (i := 34) rfl)
theorem dX1_makeGroups_58 : decode cX1_makeGroups 58 = .ok (.aload_n 0, 1) := fchk_d fw_dX1_makeGroups_0_c (58, .aload_n 0, 1) (List.mem_of_getElem? (i := 35) rfl)
theorem dX1_makeGroups_59 : decode cX1_makeGroups 59 = .ok (.getfield 27, 3) := fchk_d fw_dX1_makeGroups_0_c (59, .getfield 27, 3) (List.mem_of_getElem? (i := 36) rfl)
theorem dX1_makeGroups_62 : decode cX1_makeGroups 62 = .ok (.iload_n 2, 1) := fchk_d fw_dX1_makeGroups_0_c (62, .iload_n 2, 1) (List.mem_of_getElem? (i := 37) rfl)
theorem dX1_makeGroups_63 : decode cX1_makeGroups 63 = .ok (.dup2, 1) := fchk_d fw_dX1_makeGroups_0_c (63, .dup2, 1) (List.mem_of_getElem? (i := 38) rfl)
theorem dX1_makeGroups_64 : decode cX1_makeGroups 64 = .ok (.iaload, 1) := fchk_d fw_dX1_makeGroups_0_c (64, .iaload, 1) (List.mem_of_getElem? (i := 39) rfl)
def fw_dX1_makeGroups_65 : List (Nat × Instr × Nat) := [(65, .iconst 1, 1), (66, .iload_n 1, 1), (67, .ishl, 1), (68, .ior, 1), (69, .iastore, 1), (70, .aload_n 0, 1), (71, .getfield 30, 3), (74, .iload_n 2, 1), (75, .dup2, 1), (76, .iaload, 1), (77, .aload_n 0, 1), (78, .getfield 21, 3), (81, .iload_n 1, 1), (82, .iaload, 1), (83, .iadd, 1), (84, .iastore, 1), (85, .aload_n 0, 1), (86, .aload_n 0, 1), (87, .getfield 80, 3), (90, .iload_n 2, 1), (91, .iconst 1, 1), (92, .iadd, 1), (93, .invokestatic 105, 3), (96, .putfield 80, 3)]
theorem fw_dX1_makeGroups_65_c : fchk 65 (cX1_makeGroups.data.toList.drop 65) fw_dX1_makeGroups_65 = true := by decide +kernel
theorem dX1_makeGroups_65 : decode cX1_makeGroups 65 = .ok (.iconst 1, 1) := fchk_d fw_dX1_makeGroups_65_c (65, .iconst 1, 1) (List.mem_of_getElem? (i := 0) rfl)
theorem dX1_makeGroups_66 : decode cX1_makeGroups 66 = .ok (.iload_n 1, 1) := fchk_d fw_dX1_makeGroups_65_c (66, .iload_n 1, 1) (List.mem_of_getElem? (i := 1) rfl)
theorem dX1_makeGroups_67 : decode cX1_makeGroups 67 = .ok (.ishl, 1) := fchk_d fw_dX1_makeGroups_65_c (67, .ishl, 1) (List.mem_of_getElem? (i := 2) rfl)
theorem dX1_makeGroups_68 : decode cX1_makeGroups 68 = .ok (.ior, 1) := fchk_d fw_dX1_makeGroups_65_c (68, .ior, 1) (List.mem_of_getElem? (i := 3) rfl)
theorem dX1_makeGroups_69 : decode cX1_makeGroups 69 = .ok (.iastore, 1) := fchk_d fw_dX1_makeGroups_65_c (69, .iastore, 1) (List.mem_of_getElem? (i := 4) rfl)
theorem dX1_makeGroups_70 : decode cX1_makeGroups 70 = .ok (.aload_n 0, 1) := fchk_d fw_dX1_makeGroups_65_c (70, .aload_n 0, 1) (List.mem_of_getElem? (i := 5) rfl)
theorem dX1_makeGroups_71 : decode cX1_makeGroups 71 = .ok (.getfield 30, 3) := fchk_d fw_dX1_makeGroups_65_c (71, .getfield 30, 3) (List.mem_of_getElem? (i := 6) rfl)
theorem dX1_makeGroups_74 : decode cX1_makeGroups 74 = .ok (.iload_n 2, 1) := fchk_d fw_dX1_makeGroups_65_c (74, .iload_n 2, 1) (List.mem_of_getElem? (i := 7) rfl)
theorem dX1_makeGroups_75 : decode cX1_makeGroups 75 = .ok (.dup2, 1) := fchk_d fw_dX1_makeGroups_65_c (75, .dup2, 1) (List.mem_of_getElem? (i := 8) rfl)
theorem dX1_makeGroups_76 : decode cX1_makeGroups 76 = .ok (.iaload, 1) := fchk_d fw_dX1_makeGroups_65_c (76, .iaload, 1) (List.mem_of_getElem? (i := 9) rfl)
theorem dX1_makeGroups_77 : decode cX1_makeGroups 77 = .ok (.aload_n 0, 1) := fchk_d fw_dX1_makeGroups_65_c (77, .aload_n 0, 1) (List.mem_of_getElem? (i := 10) rfl)
theorem dX1_makeGroups_78 : decode cX1_makeGroups 78 = .ok (.getfield 21, 3) := fchk_d fw_dX1_makeGroups_65_c (78, .getfield 21, 3) (List.mem_of_getElem? (i := 11) rfl)
theorem dX1_makeGroups_81 : decode cX1_makeGroups 81 = .ok (.iload_n 1, 1) := fchk_d fw_dX1_makeGroups_65_c (81, .iload_n 1, 1) (List.mem_of_getElem? (i := 12) rfl)
theorem dX1_makeGroups_82 : decode cX1_makeGroups 82 = .ok (.iaload, 1) := fchk_d fw_dX1_makeGroups_65_c (82, .iaload, 1) (List.mem_of_getElem? (i := 13) rfl)
theorem dX1_makeGroups_83 : decode cX1_makeGroups 83 = .ok (.iadd, 1) := fchk_d fw_dX1_makeGroups_65_c (83, .iadd, 1) (List.mem_of_getElem? (i := 14) rfl)
theorem dX1_makeGroups_84 : decode cX1_makeGroups 84 = .ok (.iastore, 1) := fchk_d fw_dX1_makeGroups_65_c (84, .iastore, 1) (List.mem_of_getElem? (i := 15) rfl)
theorem dX1_makeGroups_85 : decode cX1_makeGroups 85 = .ok (.aload_n 0, 1) := fchk_d fw_dX1_makeGroups_65_c (85, .aload_n 0, 1) (List.mem_of_getElem? (i := 16) rfl)
theorem dX1_makeGroups_86 : decode cX1_makeGroups 86 = .ok (.aload_n 0, 1) := fchk_d fw_dX1_makeGroups_65_c (86, .aload_n 0, 1) (List.mem_of_getElem? (i := 17) rfl)
theorem dX1_makeGroups_87 : decode cX1_makeGroups 87 = .ok (.getfield 80, 3) := fchk_d fw_dX1_makeGroups_65_c (87, .getfield 80, 3) (List.mem_of_getElem? (i := 18) rfl)
theorem dX1_makeGroups_90 : decode cX1_makeGroups 90 = .ok (.iload_n 2, 1) := fchk_d fw_dX1_makeGroups_65_c (90, .iload_n 2, 1) (List.mem_of_getElem? (i := 19) rfl)
theorem dX1_makeGroups_91 : decode cX1_makeGroups 91 = .ok (.iconst 1, 1) := fchk_d fw_dX1_makeGroups_65_c (91, .iconst 1, 1) (List.mem_of_getElem? (i := 20) rfl)
theorem dX1_makeGroups_92 : decode cX1_makeGroups 92 = .ok (.iadd, 1) := fchk_d fw_dX1_makeGroups_65_c (92, .iadd, 1) (List.mem_of_getElem? (i := 21) rfl)
theorem dX1_makeGroups_93 : decode cX1_makeGroups 93 = .ok (.invokestatic 105, 3) := fchk_d fw_dX1_makeGroups_65_c (93, .invokestatic 105, 3) (List.mem_of_getElem? (i := 22) rfl)
theorem dX1_makeGroups_96 : decode cX1_makeGroups 96 = .ok (.putfield 80, 3) := fchk_d fw_dX1_makeGroups_65_c (96, .putfield 80, 3) (List.mem_of_getElem? (i := 23) rfl)
theorem dX1_makeGroups_99 : decode cX1_makeGroups 99 = .ok (.iinc 1 1, 3) := by decide +kernel
def fw_dX1_makeGroups_102 : List (Nat × Instr × Nat) := [(102, .goto (-79), 3), (105, .return_, 1)]
theorem fw_dX1_makeGroups_102_c : fchk 102 (cX1_makeGroups.data.toList.drop 102) fw_dX1_makeGroups_102 = true := by decide +kernel
theorem dX1_makeGroups_102 : decode cX1_makeGroups 102 = .ok (.goto (-79), 3) := fchk_d fw_dX1_makeGroups_102_c (102, .goto (-79), 3) (List.mem_of_getElem? (i := 0) rfl)
theorem dX1_makeGroups_105 : decode cX1_makeGroups 105 = .ok (.return_, 1) := fchk_d fw_dX1_makeGroups_102_c (105, .return_, 1) (List.mem_of_getElem? (i := 1) rfl)
def fw_dX1_firstGroupFor_0 : List (Nat × Instr × Nat) := [(0, .iconst 0, 1), (1, .istore_n 2, 1), (2, .iload_n 2, 1), (3, .aload_n 0, 1), (4, .getfield 80, 3), (7, .if_icmp .ge 27, 3), (10, .aload_n 0, 1), (11, .getfield 27, 3), (14, .iload_n 2, 1), (15, .iaload, 1), (16, .aload_n 0, 1), (17, .getfield 24, 3), (20, .iload_n 1, 1), (21, .iaload, 1), (22, .iand, 1), (23, .ifCond .ne 5, 3), (26, .iload_n 2, 1), (27, .ireturn, 1)]
theorem fw_dX1_firstGroupFor_0_c : fchk 0 (cX1_firstGroupFor.data.toList.drop 0) fw_dX1_firstGroupFor_0 = true := by decide +kernel
theorem dX1_firstGroupFor_0 : decode cX1_firstGroupFor 0 = .ok (.iconst 0, 1) := fchk_d fw_dX1_firstGroupFor_0_c (0, .iconst 0, 1) (List.mem_of_getElem? (i := 0) rfl)
theorem dX1_firstGroupFor_1 : decode cX1_firstGroupFor 1 = .ok (.istore_n 2, 1) := fchk_d fw_dX1_firstGroupFor_0_c (1, .istore_n 2, 1) (List.mem_of_getElem? (i := 1) rfl)
theorem dX1_firstGroupFor_2 : decode cX1_firstGroupFor 2 = .ok (.iload_n 2, 1) := fchk_d fw_dX1_firstGroupFor_0_c (2, .iload_n 2, 1) (List.mem_of_getElem? (i := 2) rfl)
theorem dX1_firstGroupFor_3 : decode cX1_firstGroupFor 3 = .ok (.aload_n 0, 1) := fchk_d fw_dX1_firstGroupFor_0_c (3, .aload_n 0, 1) (List.mem_of_getElem? (i := 3) rfl)
theorem dX1_firstGroupFor_4 : decode cX1_firstGroupFor 4 = .ok (.getfield 80, 3) := fchk_d fw_dX1_firstGroupFor_0_c (4, .getfield 80, 3) (List.mem_of_getElem? (i := 4) rfl)
theorem dX1_firstGroupFor_7 : decode cX1_firstGroupFor 7 = .ok (.if_icmp .ge 27, 3) := fchk_d fw_dX1_firstGroupFor_0_c (7, .if_icmp .ge 27, 3) (List.mem_of_getElem? (i := 5) rfl)
theorem dX1_firstGroupFor_10 : decode cX1_firstGroupFor 10 = .ok (.aload_n 0, 1) := fchk_d fw_dX1_firstGroupFor_0_c (10, .aload_n 0, 1) (List.mem_of_getElem? (i := 6) rfl)
theorem dX1_firstGroupFor_11 : decode cX1_firstGroupFor 11 = .ok (.getfield 27, 3) := fchk_d fw_dX1_firstGroupFor_0_c (11, .getfield 27, 3) (List.mem_of_getElem? (i := 7) rfl)
theorem dX1_firstGroupFor_14 : decode cX1_firstGroupFor 14 = .ok (.iload_n 2, 1) := fchk_d fw_dX1_firstGroupFor_0_c (14, .iload_n 2, 1) (List.mem_of_getElem? (i := 8) rfl)
theorem dX1_firstGroupFor_15 : decode cX1_firstGroupFor 15 = .ok (.iaload, 1) := fchk_d fw_dX1_firstGroupFor_0_c (15, .iaload, 1) (List.mem_of_getElem? (i := 9) rfl)
theorem dX1_firstGroupFor_16 : decode cX1_firstGroupFor 16 = .ok (.aload_n 0, 1) := fchk_d fw_dX1_firstGroupFor_0_c (16, .aload_n 0, 1) (List.mem_of_getElem? (i := 10) rfl)
theorem dX1_firstGroupFor_17 : decode cX1_firstGroupFor 17 = .ok (.getfield 24, 3) := fchk_d fw_dX1_firstGroupFor_0_c (17, .getfield 24, 3) (List.mem_of_getElem? (i := 11) rfl)
theorem dX1_firstGroupFor_20 : decode cX1_firstGroupFor 20 = .ok (.iload_n 1, 1) := fchk_d fw_dX1_firstGroupFor_0_c (20, .iload_n 1, 1) (List.mem_of_getElem? (i := 12) rfl)
theorem dX1_firstGroupFor_21 : decode cX1_firstGroupFor 21 = .ok (.iaload, 1) := fchk_d fw_dX1_firstGroupFor_0_c (21, .iaload, 1) (List.mem_of_getElem? (i := 13) rfl)
theorem dX1_firstGroupFor_22 : decode cX1_firstGroupFor 22 = .ok (.iand, 1) := fchk_d fw_dX1_firstGroupFor_0_c (22, .iand, 1) (List.mem_of_getElem? (i := 14) rfl)
theorem dX1_firstGroupFor_23 : decode cX1_firstGroupFor 23 = .ok (.ifCond .ne 5, 3) := fchk_d fw_dX1_firstGroupFor_0_c (23, .ifCond .ne 5, 3) (List.mem_of_getElem? (i := 15) rfl)
theorem dX1_firstGroupFor_26 : decode cX1_firstGroupFor 26 = .ok (.iload_n 2, 1) := fchk_d fw_dX1_firstGroupFor_0_c (26, .iload_n 2, 1) (List.mem_of_getElem? (i := 16) rfl)
theorem dX1_firstGroupFor_27 : decode cX1_firstGroupFor 27 = .ok (.ireturn, 1) := fchk_d fw_dX1_firstGroupFor_0_c (27, .ireturn, 1) (List.mem_of_getElem? (i := 17) rfl)
theorem dX1_firstGroupFor_28 : decode cX1_firstGroupFor 28 = .ok (.iinc 2 1, 3) := by decide +kernel
def fw_dX1_firstGroupFor_31 : List (Nat × Instr × Nat) := [(31, .goto (-29), 3), (34, .aload_n 0, 1), (35, .getfield 80, 3), (38, .ireturn, 1)]
theorem fw_dX1_firstGroupFor_31_c : fchk 31 (cX1_firstGroupFor.data.toList.drop 31) fw_dX1_firstGroupFor_31 = true := by decide +kernel
theorem dX1_firstGroupFor_31 : decode cX1_firstGroupFor 31 = .ok (.goto (-29), 3) := fchk_d fw_dX1_firstGroupFor_31_c (31, .goto (-29), 3) (List.mem_of_getElem? (i := 0) rfl)
theorem dX1_firstGroupFor_34 : decode cX1_firstGroupFor 34 = .ok (.aload_n 0, 1) := fchk_d fw_dX1_firstGroupFor_31_c (34, .aload_n 0, 1) (List.mem_of_getElem? (i := 1) rfl)
theorem dX1_firstGroupFor_35 : decode cX1_firstGroupFor 35 = .ok (.getfield 80, 3) := fchk_d fw_dX1_firstGroupFor_31_c (35, .getfield 80, 3) (List.mem_of_getElem? (i := 2) rfl)
theorem dX1_firstGroupFor_38 : decode cX1_firstGroupFor 38 = .ok (.ireturn, 1) := fchk_d fw_dX1_firstGroupFor_31_c (38, .ireturn, 1) (List.mem_of_getElem? (i := 3) rfl)
def fw_dX1_bitsToTell_0 : List (Nat × Instr × Nat) := [(0, .iconst 0, 1), (1, .istore_n 1, 1), (2, .iconst 1, 1), (3, .istore_n 2, 1), (4, .iload_n 2, 1), (5, .iload_n 0, 1), (6, .if_icmp .ge 13, 3)]
theorem fw_dX1_bitsToTell_0_c : fchk 0 (cX1_bitsToTell.data.toList.drop 0) fw_dX1_bitsToTell_0 = true := by decide +kernel
theorem dX1_bitsToTell_0 : decode cX1_bitsToTell 0 = .ok (.iconst 0, 1) := fchk_d fw_dX1_bitsToTell_0_c (0, .iconst 0, 1) (List.mem_of_getElem? (i := 0) rfl)
theorem dX1_bitsToTell_1 : decode cX1_bitsToTell 1 = .ok (.istore_n 1, 1) := fchk_d fw_dX1_bitsToTell_0_c (1, .istore_n 1, 1) (List.mem_of_getElem? (i := 1) rfl)
theorem dX1_bitsToTell_2 : decode cX1_bitsToTell 2 = .ok (.iconst 1, 1) := fchk_d fw_dX1_bitsToTell_0_c (2, .iconst 1, 1) (List.mem_of_getElem? (i := 2) rfl)
theorem dX1_bitsToTell_3 : decode cX1_bitsToTell 3 = .ok (.istore_n 2, 1) := fchk_d fw_dX1_bitsToTell_0_c (3, .istore_n 2, 1) (List.mem_of_getElem? (i := 3) rfl)
theorem dX1_bitsToTell_4 : decode cX1_bitsToTell 4 = .ok (.iload_n 2, 1) := fchk_d fw_dX1_bitsToTell_0_c (4, .iload_n 2, 1) (List.mem_of_getElem? (i := 4) rfl)
theorem dX1_bitsToTell_5 : decode cX1_bitsToTell 5 = .ok (.iload_n 0, 1) := fchk_d fw_dX1_bitsToTell_0_c (5, .iload_n 0, 1) (List.mem_of_getElem? (i := 5) rfl)
theorem dX1_bitsToTell_6 : decode cX1_bitsToTell 6 = .ok (.if_icmp .ge 13, 3) := fchk_d fw_dX1_bitsToTell_0_c (6, .if_icmp .ge 13, 3) (List.mem_of_getElem? (i := 6) rfl)
theorem dX1_bitsToTell_9 : decode cX1_bitsToTell 9 = .ok (.iinc 1 1, 3) := by decide +kernel
def fw_dX1_bitsToTell_12 : List (Nat × Instr × Nat) := [(12, .iload_n 2, 1), (13, .iconst 2, 1), (14, .imul, 1), (15, .istore_n 2, 1), (16, .goto (-12), 3), (19, .iload_n 1, 1), (20, .ireturn, 1)]
theorem fw_dX1_bitsToTell_12_c : fchk 12 (cX1_bitsToTell.data.toList.drop 12) fw_dX1_bitsToTell_12 = true := by decide +kernel
theorem dX1_bitsToTell_12 : decode cX1_bitsToTell 12 = .ok (.iload_n 2, 1) := fchk_d fw_dX1_bitsToTell_12_c (12, .iload_n 2, 1) (List.mem_of_getElem? (i := 0) rfl)
theorem dX1_bitsToTell_13 : decode cX1_bitsToTell 13 = .ok (.iconst 2, 1) := fchk_d fw_dX1_bitsToTell_12_c (13, .iconst 2, 1) (List.mem_of_getElem? (i := 1) rfl)
theorem dX1_bitsToTell_14 : decode cX1_bitsToTell 14 = .ok (.imul, 1) := fchk_d fw_dX1_bitsToTell_12_c (14, .imul, 1) (List.mem_of_getElem? (i := 2) rfl)
theorem dX1_bitsToTell_15 : decode cX1_bitsToTell 15 = .ok (.istore_n 2, 1) := fchk_d fw_dX1_bitsToTell_12_c (15, .istore_n 2, 1) (List.mem_of_getElem? (i := 3) rfl)
theorem dX1_bitsToTell_16 : decode cX1_bitsToTell 16 = .ok (.goto (-12), 3) := fchk_d fw_dX1_bitsToTell_12_c (16, .goto (-12), 3) (List.mem_of_getElem? (i := 4) rfl)
theorem dX1_bitsToTell_19 : decode cX1_bitsToTell 19 = .ok (.iload_n 1, 1) := fchk_d fw_dX1_bitsToTell_12_c (19, .iload_n 1, 1) (List.mem_of_getElem? (i := 5) rfl)
theorem dX1_bitsToTell_20 : decode cX1_bitsToTell 20 = .ok (.ireturn, 1) := fchk_d fw_dX1_bitsToTell_12_c (20, .ireturn, 1) (List.mem_of_getElem? (i := 6) rfl)
set_option maxRecDepth 20000 in
theorem ggX2_init_J7_fill_53178 : GoodIn wsX2_init wsJ7_fill_53178 := goodIn_r _ [13] rfl (by decide +kernel)
set_option maxRecDepth 20000 in
theorem gX2_init_J7_fill_53178 : GoodIn wsX2_init (va_wsS RX2 25 yJ7_fill_53178 wsJ7_fill_53178) := goodIn_app (goodIn_of _ (by decide +kernel)) ggX2_init_J7_fill_53178
def fw_dX2_init_0 : List (Nat × Instr × Nat) := [(0, .aload_n 0, 1), (1, .invokespecial 3, 3), (4, .aload_n 0, 1), (5, .bipush 8, 2)]
theorem fw_dX2_init_0_c : fchk 0 (cX2_init.data.toList.drop 0) fw_dX2_init_0 = true := by decide +kernel
theorem dX2_init_0 : decode cX2_init 0 = .ok (.aload_n 0, 1) := fchk_d fw_dX2_init_0_c (0, .aload_n 0, 1) (List.mem_of_getElem? (i := 0) rfl)
theorem dX2_init_1 : decode cX2_init 1 = .ok (.invokespecial 3, 3) := fchk_d fw_dX2_init_0_c (1, .invokespecial 3, 3) (List.mem_of_getElem? (i := 1) rfl)
theorem dX2_init_4 : decode cX2_init 4 = .ok (.aload_n 0, 1) := fchk_d fw_dX2_init_0_c (4, .aload_n 0, 1) (List.mem_of_getElem? (i := 2) rfl)
theorem dX2_init_5 : decode cX2_init 5 = .ok (.bipush 8, 2) := fchk_d fw_dX2_init_0_c (5, .bipush 8, 2) (List.mem_of_getElem? (i := 3) rfl)
theorem dX2_init_7 : decode cX2_init 7 = .ok (.newarray .int, 2) := by decide +kernel
def fw_dX2_init_9 : List (Nat × Instr × Nat) := [(9, .putfield 9, 3), (12, .aload_n 0, 1), (13, .bipush 74, 2)]
theorem fw_dX2_init_9_c : fchk 9 (cX2_init.data.toList.drop 9) fw_dX2_init_9 = true := by decide +kernel
theorem dX2_init_9 : decode cX2_init 9 = .ok (.putfield 9, 3) := fchk_d fw_dX2_init_9_c (9, .putfield 9, 3) (List.mem_of_getElem? (i := 0) rfl)
theorem dX2_init_12 : decode cX2_init 12 = .ok (.aload_n 0, 1) := fchk_d fw_dX2_init_9_c (12, .aload_n 0, 1) (List.mem_of_getElem? (i := 1) rfl)
theorem dX2_init_13 : decode cX2_init 13 = .ok (.bipush 74, 2) := fchk_d fw_dX2_init_9_c (13, .bipush 74, 2) (List.mem_of_getElem? (i := 2) rfl)
theorem dX2_init_15 : decode cX2_init 15 = .ok (.newarray .long, 2) := by decide +kernel
def fw_dX2_init_17 : List (Nat × Instr × Nat) := [(17, .putfield 15, 3), (20, .aload_n 0, 1), (21, .bipush 30, 2)]
theorem fw_dX2_init_17_c : fchk 17 (cX2_init.data.toList.drop 17) fw_dX2_init_17 = true := by decide +kernel
theorem dX2_init_17 : decode cX2_init 17 = .ok (.putfield 15, 3) := fchk_d fw_dX2_init_17_c (17, .putfield 15, 3) (List.mem_of_getElem? (i := 0) rfl)
theorem dX2_init_20 : decode cX2_init 20 = .ok (.aload_n 0, 1) := fchk_d fw_dX2_init_17_c (20, .aload_n 0, 1) (List.mem_of_getElem? (i := 1) rfl)
theorem dX2_init_21 : decode cX2_init 21 = .ok (.bipush 30, 2) := fchk_d fw_dX2_init_17_c (21, .bipush 30, 2) (List.mem_of_getElem? (i := 2) rfl)
theorem dX2_init_23 : decode cX2_init 23 = .ok (.newarray .int, 2) := by decide +kernel
def fw_dX2_init_25 : List (Nat × Instr × Nat) := [(25, .putfield 19, 3), (28, .aload_n 0, 1), (29, .bipush 30, 2)]
theorem fw_dX2_init_25_c : fchk 25 (cX2_init.data.toList.drop 25) fw_dX2_init_25 = true := by decide +kernel
theorem dX2_init_25 : decode cX2_init 25 = .ok (.putfield 19, 3) := fchk_d fw_dX2_init_25_c (25, .putfield 19, 3) (List.mem_of_getElem? (i := 0) rfl)
theorem dX2_init_28 : decode cX2_init 28 = .ok (.aload_n 0, 1) := fchk_d fw_dX2_init_25_c (28, .aload_n 0, 1) (List.mem_of_getElem? (i := 1) rfl)
theorem dX2_init_29 : decode cX2_init 29 = .ok (.bipush 30, 2) := fchk_d fw_dX2_init_25_c (29, .bipush 30, 2) (List.mem_of_getElem? (i := 2) rfl)
theorem dX2_init_31 : decode cX2_init 31 = .ok (.newarray .long, 2) := by decide +kernel
def fw_dX2_init_33 : List (Nat × Instr × Nat) := [(33, .putfield 22, 3), (36, .aload_n 0, 1), (37, .getfield 9, 3), (40, .bipush 16, 2), (42, .invokestatic 25, 3), (45, .return_, 1)]
theorem fw_dX2_init_33_c : fchk 33 (cX2_init.data.toList.drop 33) fw_dX2_init_33 = true := by decide +kernel
theorem dX2_init_33 : decode cX2_init 33 = .ok (.putfield 22, 3) := fchk_d fw_dX2_init_33_c (33, .putfield 22, 3) (List.mem_of_getElem? (i := 0) rfl)
theorem dX2_init_36 : decode cX2_init 36 = .ok (.aload_n 0, 1) := fchk_d fw_dX2_init_33_c (36, .aload_n 0, 1) (List.mem_of_getElem? (i := 1) rfl)
theorem dX2_init_37 : decode cX2_init 37 = .ok (.getfield 9, 3) := fchk_d fw_dX2_init_33_c (37, .getfield 9, 3) (List.mem_of_getElem? (i := 2) rfl)
theorem dX2_init_40 : decode cX2_init 40 = .ok (.bipush 16, 2) := fchk_d fw_dX2_init_33_c (40, .bipush 16, 2) (List.mem_of_getElem? (i := 3) rfl)
theorem dX2_init_42 : decode cX2_init 42 = .ok (.invokestatic 25, 3) := fchk_d fw_dX2_init_33_c (42, .invokestatic 25, 3) (List.mem_of_getElem? (i := 4) rfl)
theorem dX2_init_45 : decode cX2_init 45 = .ok (.return_, 1) := fchk_d fw_dX2_init_33_c (45, .return_, 1) (List.mem_of_getElem? (i := 5) rfl)
def fw_dX2_cutFor_0 : List (Nat × Instr × Nat) := [(0, .iload_n 1, 1), (1, .bipush 8, 2), (3, .if_icmp .ge 12, 3), (6, .aload_n 0, 1), (7, .getfield 9, 3), (10, .iload_n 1, 1), (11, .iaload, 1), (12, .goto 5, 3), (15, .bipush 32, 2), (17, .istore 4, 2), (19, .lload_n 2, 1), (20, .lconst 1, 1), (21, .iload 4, 2), (23, .lshl, 1), (24, .lconst 1, 1), (25, .lsub, 1), (26, .land, 1), (27, .lreturn, 1)]
theorem fw_dX2_cutFor_0_c : fchk 0 (cX2_cutFor.data.toList.drop 0) fw_dX2_cutFor_0 = true := by decide +kernel
theorem dX2_cutFor_0 : decode cX2_cutFor 0 = .ok (.iload_n 1, 1) := fchk_d fw_dX2_cutFor_0_c (0, .iload_n 1, 1) (List.mem_of_getElem? (i := 0) rfl)
theorem dX2_cutFor_1 : decode cX2_cutFor 1 = .ok (.bipush 8, 2) := fchk_d fw_dX2_cutFor_0_c (1, .bipush 8, 2) (List.mem_of_getElem? (i := 1) rfl)
theorem dX2_cutFor_3 : decode cX2_cutFor 3 = .ok (.if_icmp .ge 12, 3) := fchk_d fw_dX2_cutFor_0_c (3, .if_icmp .ge 12, 3) (List.mem_of_getElem? (i := 2) rfl)
theorem dX2_cutFor_6 : decode cX2_cutFor 6 = .ok (.aload_n 0, 1) := fchk_d fw_dX2_cutFor_0_c (6, .aload_n 0, 1) (List.mem_of_getElem? (i := 3) rfl)
theorem dX2_cutFor_7 : decode cX2_cutFor 7 = .ok (.getfield 9, 3) := fchk_d fw_dX2_cutFor_0_c (7, .getfield 9, 3) (List.mem_of_getElem? (i := 4) rfl)
theorem dX2_cutFor_10 : decode cX2_cutFor 10 = .ok (.iload_n 1, 1) := fchk_d fw_dX2_cutFor_0_c (10, .iload_n 1, 1) (List.mem_of_getElem? (i := 5) rfl)
theorem dX2_cutFor_11 : decode cX2_cutFor 11 = .ok (.iaload, 1) := fchk_d fw_dX2_cutFor_0_c (11, .iaload, 1) (List.mem_of_getElem? (i := 6) rfl)
theorem dX2_cutFor_12 : decode cX2_cutFor 12 = .ok (.goto 5, 3) := fchk_d fw_dX2_cutFor_0_c (12, .goto 5, 3) (List.mem_of_getElem? (i := 7) rfl)
theorem dX2_cutFor_15 : decode cX2_cutFor 15 = .ok (.bipush 32, 2) := fchk_d fw_dX2_cutFor_0_c (15, .bipush 32, 2) (List.mem_of_getElem? (i := 8) rfl)
theorem dX2_cutFor_17 : decode cX2_cutFor 17 = .ok (.istore 4, 2) := fchk_d fw_dX2_cutFor_0_c (17, .istore 4, 2) (List.mem_of_getElem? (i := 9) rfl)
theorem dX2_cutFor_19 : decode cX2_cutFor 19 = .ok (.lload_n 2, 1) := fchk_d fw_dX2_cutFor_0_c (19, .lload_n 2, 1) (List.mem_of_getElem? (i := 10) rfl)
theorem dX2_cutFor_20 : decode cX2_cutFor 20 = .ok (.lconst 1, 1) := fchk_d fw_dX2_cutFor_0_c (20, .lconst 1, 1) (List.mem_of_getElem? (i := 11) rfl)
theorem dX2_cutFor_21 : decode cX2_cutFor 21 = .ok (.iload 4, 2) := fchk_d fw_dX2_cutFor_0_c (21, .iload 4, 2) (List.mem_of_getElem? (i := 12) rfl)
theorem dX2_cutFor_23 : decode cX2_cutFor 23 = .ok (.lshl, 1) := fchk_d fw_dX2_cutFor_0_c (23, .lshl, 1) (List.mem_of_getElem? (i := 13) rfl)
theorem dX2_cutFor_24 : decode cX2_cutFor 24 = .ok (.lconst 1, 1) := fchk_d fw_dX2_cutFor_0_c (24, .lconst 1, 1) (List.mem_of_getElem? (i := 14) rfl)
theorem dX2_cutFor_25 : decode cX2_cutFor 25 = .ok (.lsub, 1) := fchk_d fw_dX2_cutFor_0_c (25, .lsub, 1) (List.mem_of_getElem? (i := 15) rfl)
theorem dX2_cutFor_26 : decode cX2_cutFor 26 = .ok (.land, 1) := fchk_d fw_dX2_cutFor_0_c (26, .land, 1) (List.mem_of_getElem? (i := 16) rfl)
theorem dX2_cutFor_27 : decode cX2_cutFor 27 = .ok (.lreturn, 1) := fchk_d fw_dX2_cutFor_0_c (27, .lreturn, 1) (List.mem_of_getElem? (i := 17) rfl)
set_option maxRecDepth 20000 in
theorem ggX2_put_X2_cutFor : GoodIn wsX2_put wsX2_cutFor := goodIn_r _ [6, 7, 8, 9, 10, 11, 12] rfl (by decide +kernel)
set_option maxRecDepth 20000 in
theorem gX2_put_X2_cutFor : GoodIn wsX2_put (wsV RX2 31 RX2 yX2_cutFor wsX2_cutFor) := goodIn_app (goodIn_of _ (by decide +kernel)) ggX2_put_X2_cutFor
def fw_dX2_put_0 : List (Nat × Instr × Nat) := [(0, .aload_n 0, 1), (1, .getfield 15, 3), (4, .iload_n 1, 1), (5, .laload, 1), (6, .lstore 4, 2), (8, .aload_n 0, 1), (9, .getfield 15, 3), (12, .iload_n 1, 1), (13, .aload_n 0, 1), (14, .iload_n 1, 1), (15, .lload_n 2, 1), (16, .invokevirtual 31, 3), (19, .lastore, 1), (20, .aload_n 0, 1), (21, .getfield 15, 3), (24, .iload_n 1, 1), (25, .laload, 1), (26, .lload 4, 2), (28, .lcmp, 1), (29, .ifCond .ne 7, 3), (32, .iconst 0, 1), (33, .goto 4, 3), (36, .iconst 1, 1), (37, .ireturn, 1)]
theorem fw_dX2_put_0_c : fchk 0 (cX2_put.data.toList.drop 0) fw_dX2_put_0 = true := by decide +kernel
theorem dX2_put_0 : decode cX2_put 0 = .ok (.aload_n 0, 1) := fchk_d fw_dX2_put_0_c (0, .aload_n 0, 1) (List.mem_of_getElem? (i := 0) rfl)
theorem dX2_put_1 : decode cX2_put 1 = .ok (.getfield 15, 3) := fchk_d fw_dX2_put_0_c (1, .getfield 15, 3) (List.mem_of_getElem? (i := 1) rfl)
theorem dX2_put_4 : decode cX2_put 4 = .ok (.iload_n 1, 1) := fchk_d fw_dX2_put_0_c (4, .iload_n 1, 1) (List.mem_of_getElem? (i := 2) rfl)
theorem dX2_put_5 : decode cX2_put 5 = .ok (.laload, 1) := fchk_d fw_dX2_put_0_c (5, .laload, 1) (List.mem_of_getElem? (i := 3) rfl)
theorem dX2_put_6 : decode cX2_put 6 = .ok (.lstore 4, 2) := fchk_d fw_dX2_put_0_c (6, .lstore 4, 2) (List.mem_of_getElem? (i := 4) rfl)
theorem dX2_put_8 : decode cX2_put 8 = .ok (.aload_n 0, 1) := fchk_d fw_dX2_put_0_c (8, .aload_n 0, 1) (List.mem_of_getElem? (i := 5) rfl)
theorem dX2_put_9 : decode cX2_put 9 = .ok (.getfield 15, 3) := fchk_d fw_dX2_put_0_c (9, .getfield 15, 3) (List.mem_of_getElem? (i := 6) rfl)
theorem dX2_put_12 : decode cX2_put 12 = .ok (.iload_n 1, 1) := fchk_d fw_dX2_put_0_c (12, .iload_n 1, 1) (List.mem_of_getElem? (i := 7) rfl)
theorem dX2_put_13 : decode cX2_put 13 = .ok (.aload_n 0, 1) := fchk_d fw_dX2_put_0_c (13, .aload_n 0, 1) (List.mem_of_getElem? (i := 8) rfl)
theorem dX2_put_14 : decode cX2_put 14 = .ok (.iload_n 1, 1) := fchk_d fw_dX2_put_0_c (14, .iload_n 1, 1) (List.mem_of_getElem? (i := 9) rfl)
theorem dX2_put_15 : decode cX2_put 15 = .ok (.lload_n 2, 1) := fchk_d fw_dX2_put_0_c (15, .lload_n 2, 1) (List.mem_of_getElem? (i := 10) rfl)
theorem dX2_put_16 : decode cX2_put 16 = .ok (.invokevirtual 31, 3) := fchk_d fw_dX2_put_0_c (16, .invokevirtual 31, 3) (List.mem_of_getElem? (i := 11) rfl)
theorem dX2_put_19 : decode cX2_put 19 = .ok (.lastore, 1) := fchk_d fw_dX2_put_0_c (19, .lastore, 1) (List.mem_of_getElem? (i := 12) rfl)
theorem dX2_put_20 : decode cX2_put 20 = .ok (.aload_n 0, 1) := fchk_d fw_dX2_put_0_c (20, .aload_n 0, 1) (List.mem_of_getElem? (i := 13) rfl)
theorem dX2_put_21 : decode cX2_put 21 = .ok (.getfield 15, 3) := fchk_d fw_dX2_put_0_c (21, .getfield 15, 3) (List.mem_of_getElem? (i := 14) rfl)
theorem dX2_put_24 : decode cX2_put 24 = .ok (.iload_n 1, 1) := fchk_d fw_dX2_put_0_c (24, .iload_n 1, 1) (List.mem_of_getElem? (i := 15) rfl)
theorem dX2_put_25 : decode cX2_put 25 = .ok (.laload, 1) := fchk_d fw_dX2_put_0_c (25, .laload, 1) (List.mem_of_getElem? (i := 16) rfl)
theorem dX2_put_26 : decode cX2_put 26 = .ok (.lload 4, 2) := fchk_d fw_dX2_put_0_c (26, .lload 4, 2) (List.mem_of_getElem? (i := 17) rfl)
theorem dX2_put_28 : decode cX2_put 28 = .ok (.lcmp, 1) := fchk_d fw_dX2_put_0_c (28, .lcmp, 1) (List.mem_of_getElem? (i := 18) rfl)
theorem dX2_put_29 : decode cX2_put 29 = .ok (.ifCond .ne 7, 3) := fchk_d fw_dX2_put_0_c (29, .ifCond .ne 7, 3) (List.mem_of_getElem? (i := 19) rfl)
theorem dX2_put_32 : decode cX2_put 32 = .ok (.iconst 0, 1) := fchk_d fw_dX2_put_0_c (32, .iconst 0, 1) (List.mem_of_getElem? (i := 20) rfl)
theorem dX2_put_33 : decode cX2_put 33 = .ok (.goto 4, 3) := fchk_d fw_dX2_put_0_c (33, .goto 4, 3) (List.mem_of_getElem? (i := 21) rfl)
theorem dX2_put_36 : decode cX2_put 36 = .ok (.iconst 1, 1) := fchk_d fw_dX2_put_0_c (36, .iconst 1, 1) (List.mem_of_getElem? (i := 22) rfl)
theorem dX2_put_37 : decode cX2_put 37 = .ok (.ireturn, 1) := fchk_d fw_dX2_put_0_c (37, .ireturn, 1) (List.mem_of_getElem? (i := 23) rfl)
def fw_dX2_forgetOlds_0 : List (Nat × Instr × Nat) := [(0, .aload_n 0, 1), (1, .iconst 0, 1), (2, .putfield 35, 3), (5, .return_, 1)]
theorem fw_dX2_forgetOlds_0_c : fchk 0 (cX2_forgetOlds.data.toList.drop 0) fw_dX2_forgetOlds_0 = true := by decide +kernel
theorem dX2_forgetOlds_0 : decode cX2_forgetOlds 0 = .ok (.aload_n 0, 1) := fchk_d fw_dX2_forgetOlds_0_c (0, .aload_n 0, 1) (List.mem_of_getElem? (i := 0) rfl)
theorem dX2_forgetOlds_1 : decode cX2_forgetOlds 1 = .ok (.iconst 0, 1) := fchk_d fw_dX2_forgetOlds_0_c (1, .iconst 0, 1) (List.mem_of_getElem? (i := 1) rfl)
theorem dX2_forgetOlds_2 : decode cX2_forgetOlds 2 = .ok (.putfield 35, 3) := fchk_d fw_dX2_forgetOlds_0_c (2, .putfield 35, 3) (List.mem_of_getElem? (i := 2) rfl)
theorem dX2_forgetOlds_5 : decode cX2_forgetOlds 5 = .ok (.return_, 1) := fchk_d fw_dX2_forgetOlds_0_c (5, .return_, 1) (List.mem_of_getElem? (i := 3) rfl)
set_option maxRecDepth 20000 in
theorem ggX2_putAndRemember_X2_put : GoodIn wsX2_putAndRemember wsX2_put := goodIn_r _ [9, 4, 10, 11, 12, 8, 13, 14, 15, 16, 17, 18, 19] rfl (by decide +kernel)
set_option maxRecDepth 20000 in
theorem gX2_putAndRemember_X2_put : GoodIn wsX2_putAndRemember (wsV RX2 39 RX2 yX2_put wsX2_put) := goodIn_app (goodIn_of _ (by decide +kernel)) ggX2_putAndRemember_X2_put
def fw_dX2_putAndRemember_0 : List (Nat × Instr × Nat) := [(0, .aload_n 0, 1), (1, .getfield 35, 3), (4, .bipush 30, 2), (6, .if_icmp .ge 38, 3), (9, .aload_n 0, 1), (10, .getfield 19, 3), (13, .aload_n 0, 1), (14, .getfield 35, 3), (17, .iload_n 1, 1), (18, .iastore, 1), (19, .aload_n 0, 1), (20, .getfield 22, 3), (23, .aload_n 0, 1), (24, .getfield 35, 3), (27, .aload_n 0, 1), (28, .getfield 15, 3), (31, .iload_n 1, 1), (32, .laload, 1), (33, .lastore, 1), (34, .aload_n 0, 1), (35, .dup, 1), (36, .getfield 35, 3), (39, .iconst 1, 1), (40, .iadd, 1), (41, .putfield 35, 3), (44, .aload_n 0, 1), (45, .iload_n 1, 1), (46, .lload_n 2, 1), (47, .invokevirtual 39, 3), (50, .pop, 1), (51, .return_, 1)]
theorem fw_dX2_putAndRemember_0_c : fchk 0 (cX2_putAndRemember.data.toList.drop 0) fw_dX2_putAndRemember_0 = true := by decide +kernel
theorem dX2_putAndRemember_0 : decode cX2_putAndRemember 0 = .ok (.aload_n 0, 1) := fchk_d fw_dX2_putAndRemember_0_c (0, .aload_n 0, 1) (List.mem_of_getElem? (i := 0) rfl)
theorem dX2_putAndRemember_1 : decode cX2_putAndRemember 1 = .ok (.getfield 35, 3) := fchk_d fw_dX2_putAndRemember_0_c (1, .getfield 35, 3) (List.mem_of_getElem? (i := 1) rfl)
theorem dX2_putAndRemember_4 : decode cX2_putAndRemember 4 = .ok (.bipush 30, 2) := fchk_d fw_dX2_putAndRemember_0_c (4, .bipush 30, 2) (List.mem_of_getElem? (i := 2) rfl)
theorem dX2_putAndRemember_6 : decode cX2_putAndRemember 6 = .ok (.if_icmp .ge 38, 3) := fchk_d fw_dX2_putAndRemember_0_c (6, .if_icmp .ge 38, 3) (List.mem_of_getElem? (i := 3) rfl)
theorem dX2_putAndRemember_9 : decode cX2_putAndRemember 9 = .ok (.aload_n 0, 1) := fchk_d fw_dX2_putAndRemember_0_c (9, .aload_n 0, 1) (List.mem_of_getElem? (i := 4) rfl)
theorem dX2_putAndRemember_10 : decode cX2_putAndRemember 10 = .ok (.getfield 19, 3) := fchk_d fw_dX2_putAndRemember_0_c (10, .getfield 19, 3) (List.mem_of_getElem? (i := 5) rfl)
theorem dX2_putAndRemember_13 : decode cX2_putAndRemember 13 = .ok (.aload_n 0, 1) := fchk_d fw_dX2_putAndRemember_0_c (13, .aload_n 0, 1) (List.mem_of_getElem? (i := 6) rfl)
theorem dX2_putAndRemember_14 : decode cX2_putAndRemember 14 = .ok (.getfield 35, 3) := fchk_d fw_dX2_putAndRemember_0_c (14, .getfield 35, 3) (List.mem_of_getElem? (i := 7) rfl)
theorem dX2_putAndRemember_17 : decode cX2_putAndRemember 17 = .ok (.iload_n 1, 1) := fchk_d fw_dX2_putAndRemember_0_c (17, .iload_n 1, 1) (List.mem_of_getElem? (i := 8) rfl)
theorem dX2_putAndRemember_18 : decode cX2_putAndRemember 18 = .ok (.iastore, 1) := fchk_d fw_dX2_putAndRemember_0_c (18, .iastore, 1) (List.mem_of_getElem? (i := 9) rfl)
theorem dX2_putAndRemember_19 : decode cX2_putAndRemember 19 = .ok (.aload_n 0, 1) := fchk_d fw_dX2_putAndRemember_0_c (19, .aload_n 0, 1) (List.mem_of_getElem? (i := 10) rfl)
theorem dX2_putAndRemember_20 : decode cX2_putAndRemember 20 = .ok (.getfield 22, 3) := fchk_d fw_dX2_putAndRemember_0_c (20, .getfield 22, 3) (List.mem_of_getElem? (i := 11) rfl)
theorem dX2_putAndRemember_23 : decode cX2_putAndRemember 23 = .ok (.aload_n 0, 1) := fchk_d fw_dX2_putAndRemember_0_c (23, .aload_n 0, 1) (List.mem_of_getElem? (i := 12) rfl)
theorem dX2_putAndRemember_24 : decode cX2_putAndRemember 24 = .ok (.getfield 35, 3) := fchk_d fw_dX2_putAndRemember_0_c (24, .getfield 35, 3) (List.mem_of_getElem? (i := 13) rfl)
theorem dX2_putAndRemember_27 : decode cX2_putAndRemember 27 = .ok (.aload_n 0, 1) := fchk_d fw_dX2_putAndRemember_0_c (27, .aload_n 0, 1) (List.mem_of_getElem? (i := 14) rfl)
theorem dX2_putAndRemember_28 : decode cX2_putAndRemember 28 = .ok (.getfield 15, 3) := fchk_d fw_dX2_putAndRemember_0_c (28, .getfield 15, 3) (List.mem_of_getElem? (i := 15) rfl)
theorem dX2_putAndRemember_31 : decode cX2_putAndRemember 31 = .ok (.iload_n 1, 1) := fchk_d fw_dX2_putAndRemember_0_c (31, .iload_n 1, 1) (List.mem_of_getElem? (i := 16) rfl)
theorem dX2_putAndRemember_32 : decode cX2_putAndRemember 32 = .ok (.laload, 1) := fchk_d fw_dX2_putAndRemember_0_c (32, .laload, 1) (List.mem_of_getElem? (i := 17) rfl)
theorem dX2_putAndRemember_33 : decode cX2_putAndRemember 33 = .ok (.lastore, 1) := fchk_d fw_dX2_putAndRemember_0_c (33, .lastore, 1) (List.mem_of_getElem? (i := 18) rfl)
theorem dX2_putAndRemember_34 : decode cX2_putAndRemember 34 = .ok (.aload_n 0, 1) := fchk_d fw_dX2_putAndRemember_0_c (34, .aload_n 0, 1) (List.mem_of_getElem? (i := 19) rfl)
theorem dX2_putAndRemember_35 : decode cX2_putAndRemember 35 = .ok (.dup, 1) := fchk_d fw_dX2_putAndRemember_0_c (35, .dup, 1) (List.mem_of_getElem? (i := 20) rfl)
theorem dX2_putAndRemember_36 : decode cX2_putAndRemember 36 = .ok (.getfield 35, 3) := fchk_d fw_dX2_putAndRemember_0_c (36, .getfield 35, 3) (List.mem_of_getElem? (i := 21) rfl)
theorem dX2_putAndRemember_39 : decode cX2_putAndRemember 39 = .ok (.iconst 1, 1) := fchk_d fw_dX2_putAndRemember_0_c (39, .iconst 1, 1) (List.mem_of_getElem? (i := 22) rfl)
theorem dX2_putAndRemember_40 : decode cX2_putAndRemember 40 = .ok (.iadd, 1) := fchk_d fw_dX2_putAndRemember_0_c (40, .iadd, 1) (List.mem_of_getElem? (i := 23) rfl)
theorem dX2_putAndRemember_41 : decode cX2_putAndRemember 41 = .ok (.putfield 35, 3) := fchk_d fw_dX2_putAndRemember_0_c (41, .putfield 35, 3) (List.mem_of_getElem? (i := 24) rfl)
theorem dX2_putAndRemember_44 : decode cX2_putAndRemember 44 = .ok (.aload_n 0, 1) := fchk_d fw_dX2_putAndRemember_0_c (44, .aload_n 0, 1) (List.mem_of_getElem? (i := 25) rfl)
theorem dX2_putAndRemember_45 : decode cX2_putAndRemember 45 = .ok (.iload_n 1, 1) := fchk_d fw_dX2_putAndRemember_0_c (45, .iload_n 1, 1) (List.mem_of_getElem? (i := 26) rfl)
theorem dX2_putAndRemember_46 : decode cX2_putAndRemember 46 = .ok (.lload_n 2, 1) := fchk_d fw_dX2_putAndRemember_0_c (46, .lload_n 2, 1) (List.mem_of_getElem? (i := 27) rfl)
theorem dX2_putAndRemember_47 : decode cX2_putAndRemember 47 = .ok (.invokevirtual 39, 3) := fchk_d fw_dX2_putAndRemember_0_c (47, .invokevirtual 39, 3) (List.mem_of_getElem? (i := 28) rfl)
theorem dX2_putAndRemember_50 : decode cX2_putAndRemember 50 = .ok (.pop, 1) := fchk_d fw_dX2_putAndRemember_0_c (50, .pop, 1) (List.mem_of_getElem? (i := 29) rfl)
theorem dX2_putAndRemember_51 : decode cX2_putAndRemember 51 = .ok (.return_, 1) := fchk_d fw_dX2_putAndRemember_0_c (51, .return_, 1) (List.mem_of_getElem? (i := 30) rfl)
def fw_dX2_goBack_0 : List (Nat × Instr × Nat) := [(0, .aload_n 0, 1), (1, .getfield 35, 3), (4, .iconst 1, 1), (5, .isub, 1), (6, .istore_n 1, 1), (7, .iload_n 1, 1), (8, .ifCond .lt 26, 3), (11, .aload_n 0, 1), (12, .getfield 15, 3), (15, .aload_n 0, 1), (16, .getfield 19, 3), (19, .iload_n 1, 1), (20, .iaload, 1), (21, .aload_n 0, 1), (22, .getfield 22, 3), (25, .iload_n 1, 1), (26, .laload, 1), (27, .lastore, 1)]
theorem fw_dX2_goBack_0_c : fchk 0 (cX2_goBack.data.toList.drop 0) fw_dX2_goBack_0 = true := by decide +kernel
theorem dX2_goBack_0 : decode cX2_goBack 0 = .ok (.aload_n 0, 1) := fchk_d fw_dX2_goBack_0_c (0, .aload_n 0, 1) (List.mem_of_getElem? (i := 0) rfl)
theorem dX2_goBack_1 : decode cX2_goBack 1 = .ok (.getfield 35, 3) := fchk_d fw_dX2_goBack_0_c (1, .getfield 35, 3) (List.mem_of_getElem? (i := 1) rfl)
theorem dX2_goBack_4 : decode cX2_goBack 4 = .ok (.iconst 1, 1) := fchk_d fw_dX2_goBack_0_c (4, .iconst 1, 1) (List.mem_of_getElem? (i := 2) rfl)
theorem dX2_goBack_5 : decode cX2_goBack 5 = .ok (.isub, 1) := fchk_d fw_dX2_goBack_0_c (5, .isub, 1) (List.mem_of_getElem? (i := 3) rfl)
theorem dX2_goBack_6 : decode cX2_goBack 6 = .ok (.istore_n 1, 1) := fchk_d fw_dX2_goBack_0_c (6, .istore_n 1, 1) (List.mem_of_getElem? (i := 4) rfl)
theorem dX2_goBack_7 : decode cX2_goBack 7 = .ok (.iload_n 1, 1) := fchk_d fw_dX2_goBack_0_c (7, .iload_n 1, 1) (List.mem_of_getElem? (i := 5) rfl)
theorem dX2_goBack_8 : decode cX2_goBack 8 = .ok (.ifCond .lt 26, 3) := fchk_d fw_dX2_goBack_0_c (8, .ifCond .lt 26, 3) (List.mem_of_getElem? (i := 6) rfl)
theorem dX2_goBack_11 : decode cX2_goBack 11 = .ok (.aload_n 0, 1) := fchk_d fw_dX2_goBack_0_c (11, .aload_n 0, 1) (List.mem_of_getElem? (i := 7) rfl)
theorem dX2_goBack_12 : decode cX2_goBack 12 = .ok (.getfield 15, 3) := fchk_d fw_dX2_goBack_0_c (12, .getfield 15, 3) (List.mem_of_getElem? (i := 8) rfl)
theorem dX2_goBack_15 : decode cX2_goBack 15 = .ok (.aload_n 0, 1) := fchk_d fw_dX2_goBack_0_c (15, .aload_n 0, 1) (List.mem_of_getElem? (i := 9) rfl)
theorem dX2_goBack_16 : decode cX2_goBack 16 = .ok (.getfield 19, 3) := fchk_d fw_dX2_goBack_0_c (16, .getfield 19, 3) (List.mem_of_getElem? (i := 10) rfl)
theorem dX2_goBack_19 : decode cX2_goBack 19 = .ok (.iload_n 1, 1) := fchk_d fw_dX2_goBack_0_c (19, .iload_n 1, 1) (List.mem_of_getElem? (i := 11) rfl)
theorem dX2_goBack_20 : decode cX2_goBack 20 = .ok (.iaload, 1) := fchk_d fw_dX2_goBack_0_c (20, .iaload, 1) (List.mem_of_getElem? (i := 12) rfl)
theorem dX2_goBack_21 : decode cX2_goBack 21 = .ok (.aload_n 0, 1) := fchk_d fw_dX2_goBack_0_c (21, .aload_n 0, 1) (List.mem_of_getElem? (i := 13) rfl)
theorem dX2_goBack_22 : decode cX2_goBack 22 = .ok (.getfield 22, 3) := fchk_d fw_dX2_goBack_0_c (22, .getfield 22, 3) (List.mem_of_getElem? (i := 14) rfl)
theorem dX2_goBack_25 : decode cX2_goBack 25 = .ok (.iload_n 1, 1) := fchk_d fw_dX2_goBack_0_c (25, .iload_n 1, 1) (List.mem_of_getElem? (i := 15) rfl)
theorem dX2_goBack_26 : decode cX2_goBack 26 = .ok (.laload, 1) := fchk_d fw_dX2_goBack_0_c (26, .laload, 1) (List.mem_of_getElem? (i := 16) rfl)
theorem dX2_goBack_27 : decode cX2_goBack 27 = .ok (.lastore, 1) := fchk_d fw_dX2_goBack_0_c (27, .lastore, 1) (List.mem_of_getElem? (i := 17) rfl)
theorem dX2_goBack_28 : decode cX2_goBack 28 = .ok (.iinc 1 (-1), 3) := by decide +kernel
def fw_dX2_goBack_31 : List (Nat × Instr × Nat) := [(31, .goto (-24), 3), (34, .aload_n 0, 1), (35, .iconst 0, 1), (36, .putfield 35, 3), (39, .return_, 1)]
theorem fw_dX2_goBack_31_c : fchk 31 (cX2_goBack.data.toList.drop 31) fw_dX2_goBack_31 = true := by decide +kernel
theorem dX2_goBack_31 : decode cX2_goBack 31 = .ok (.goto (-24), 3) := fchk_d fw_dX2_goBack_31_c (31, .goto (-24), 3) (List.mem_of_getElem? (i := 0) rfl)
theorem dX2_goBack_34 : decode cX2_goBack 34 = .ok (.aload_n 0, 1) := fchk_d fw_dX2_goBack_31_c (34, .aload_n 0, 1) (List.mem_of_getElem? (i := 1) rfl)
theorem dX2_goBack_35 : decode cX2_goBack 35 = .ok (.iconst 0, 1) := fchk_d fw_dX2_goBack_31_c (35, .iconst 0, 1) (List.mem_of_getElem? (i := 2) rfl)
theorem dX2_goBack_36 : decode cX2_goBack 36 = .ok (.putfield 35, 3) := fchk_d fw_dX2_goBack_31_c (36, .putfield 35, 3) (List.mem_of_getElem? (i := 3) rfl)
theorem dX2_goBack_39 : decode cX2_goBack 39 = .ok (.return_, 1) := fchk_d fw_dX2_goBack_31_c (39, .return_, 1) (List.mem_of_getElem? (i := 4) rfl)
set_option maxRecDepth 20000 in
theorem ggX3_init_X6_init : GoodIn wsX3_init wsX6_init := goodIn_r _ [18, 19, 2, 3, 6, 20, 21, 22, 23, 24, 25, 26, 27, 28, 36, 37, 38, 39, 40, 41, 42, 43, 44, 45] rfl (by decide +kernel)
set_option maxRecDepth 20000 in
theorem gX3_init_X6_init : GoodIn wsX3_init (wsX6_init) := ggX3_init_X6_init
def fw_dX3_init_0 : List (Nat × Instr × Nat) := [(0, .aload_n 0, 1), (1, .invokespecial 3, 3), (4, .aload_n 0, 1), (5, .bipush 12, 2)]
theorem fw_dX3_init_0_c : fchk 0 (cX3_init.data.toList.drop 0) fw_dX3_init_0 = true := by decide +kernel
theorem dX3_init_0 : decode cX3_init 0 = .ok (.aload_n 0, 1) := fchk_d fw_dX3_init_0_c (0, .aload_n 0, 1) (List.mem_of_getElem? (i := 0) rfl)
theorem dX3_init_1 : decode cX3_init 1 = .ok (.invokespecial 3, 3) := fchk_d fw_dX3_init_0_c (1, .invokespecial 3, 3) (List.mem_of_getElem? (i := 1) rfl)
theorem dX3_init_4 : decode cX3_init 4 = .ok (.aload_n 0, 1) := fchk_d fw_dX3_init_0_c (4, .aload_n 0, 1) (List.mem_of_getElem? (i := 2) rfl)
theorem dX3_init_5 : decode cX3_init 5 = .ok (.bipush 12, 2) := fchk_d fw_dX3_init_0_c (5, .bipush 12, 2) (List.mem_of_getElem? (i := 3) rfl)
theorem dX3_init_7 : decode cX3_init 7 = .ok (.newarray .boolean, 2) := by decide +kernel
def fw_dX3_init_9 : List (Nat × Instr × Nat) := [(9, .putfield 9, 3), (12, .aload_n 0, 1), (13, .bipush 12, 2)]
theorem fw_dX3_init_9_c : fchk 9 (cX3_init.data.toList.drop 9) fw_dX3_init_9 = true := by decide +kernel
theorem dX3_init_9 : decode cX3_init 9 = .ok (.putfield 9, 3) := fchk_d fw_dX3_init_9_c (9, .putfield 9, 3) (List.mem_of_getElem? (i := 0) rfl)
theorem dX3_init_12 : decode cX3_init 12 = .ok (.aload_n 0, 1) := fchk_d fw_dX3_init_9_c (12, .aload_n 0, 1) (List.mem_of_getElem? (i := 1) rfl)
theorem dX3_init_13 : decode cX3_init 13 = .ok (.bipush 12, 2) := fchk_d fw_dX3_init_9_c (13, .bipush 12, 2) (List.mem_of_getElem? (i := 2) rfl)
theorem dX3_init_15 : decode cX3_init 15 = .ok (.newarray .int, 2) := by decide +kernel
def fw_dX3_init_17 : List (Nat × Instr × Nat) := [(17, .putfield 15, 3), (20, .aload_n 0, 1), (21, .bipush 120, 2)]
theorem fw_dX3_init_17_c : fchk 17 (cX3_init.data.toList.drop 17) fw_dX3_init_17 = true := by decide +kernel
theorem dX3_init_17 : decode cX3_init 17 = .ok (.putfield 15, 3) := fchk_d fw_dX3_init_17_c (17, .putfield 15, 3) (List.mem_of_getElem? (i := 0) rfl)
theorem dX3_init_20 : decode cX3_init 20 = .ok (.aload_n 0, 1) := fchk_d fw_dX3_init_17_c (20, .aload_n 0, 1) (List.mem_of_getElem? (i := 1) rfl)
theorem dX3_init_21 : decode cX3_init 21 = .ok (.bipush 120, 2) := fchk_d fw_dX3_init_17_c (21, .bipush 120, 2) (List.mem_of_getElem? (i := 2) rfl)
theorem dX3_init_23 : decode cX3_init 23 = .ok (.newarray .int, 2) := by decide +kernel
def fw_dX3_init_25 : List (Nat × Instr × Nat) := [(25, .putfield 19, 3), (28, .aload_n 0, 1), (29, .bipush 120, 2)]
theorem fw_dX3_init_25_c : fchk 25 (cX3_init.data.toList.drop 25) fw_dX3_init_25 = true := by decide +kernel
theorem dX3_init_25 : decode cX3_init 25 = .ok (.putfield 19, 3) := fchk_d fw_dX3_init_25_c (25, .putfield 19, 3) (List.mem_of_getElem? (i := 0) rfl)
theorem dX3_init_28 : decode cX3_init 28 = .ok (.aload_n 0, 1) := fchk_d fw_dX3_init_25_c (28, .aload_n 0, 1) (List.mem_of_getElem? (i := 1) rfl)
theorem dX3_init_29 : decode cX3_init 29 = .ok (.bipush 120, 2) := fchk_d fw_dX3_init_25_c (29, .bipush 120, 2) (List.mem_of_getElem? (i := 2) rfl)
theorem dX3_init_31 : decode cX3_init 31 = .ok (.newarray .int, 2) := by decide +kernel
def fw_dX3_init_33 : List (Nat × Instr × Nat) := [(33, .putfield 22, 3), (36, .aload_n 0, 1), (37, .iconst 1, 1), (38, .putfield 25, 3), (41, .aload_n 0, 1), (42, .aload_n 1, 1), (43, .putfield 29, 3), (46, .aload_n 0, 1), (47, .new 33, 3), (50, .dup, 1), (51, .aload_n 1, 1), (52, .invokespecial 35, 3), (55, .putfield 38, 3), (58, .return_, 1)]
theorem fw_dX3_init_33_c : fchk 33 (cX3_init.data.toList.drop 33) fw_dX3_init_33 = true := by decide +kernel
theorem dX3_init_33 : decode cX3_init 33 = .ok (.putfield 22, 3) := fchk_d fw_dX3_init_33_c (33, .putfield 22, 3) (List.mem_of_getElem? (i := 0) rfl)
theorem dX3_init_36 : decode cX3_init 36 = .ok (.aload_n 0, 1) := fchk_d fw_dX3_init_33_c (36, .aload_n 0, 1) (List.mem_of_getElem? (i := 1) rfl)
theorem dX3_init_37 : decode cX3_init 37 = .ok (.iconst 1, 1) := fchk_d fw_dX3_init_33_c (37, .iconst 1, 1) (List.mem_of_getElem? (i := 2) rfl)
theorem dX3_init_38 : decode cX3_init 38 = .ok (.putfield 25, 3) := fchk_d fw_dX3_init_33_c (38, .putfield 25, 3) (List.mem_of_getElem? (i := 3) rfl)
theorem dX3_init_41 : decode cX3_init 41 = .ok (.aload_n 0, 1) := fchk_d fw_dX3_init_33_c (41, .aload_n 0, 1) (List.mem_of_getElem? (i := 4) rfl)
theorem dX3_init_42 : decode cX3_init 42 = .ok (.aload_n 1, 1) := fchk_d fw_dX3_init_33_c (42, .aload_n 1, 1) (List.mem_of_getElem? (i := 5) rfl)
theorem dX3_init_43 : decode cX3_init 43 = .ok (.putfield 29, 3) := fchk_d fw_dX3_init_33_c (43, .putfield 29, 3) (List.mem_of_getElem? (i := 6) rfl)
theorem dX3_init_46 : decode cX3_init 46 = .ok (.aload_n 0, 1) := fchk_d fw_dX3_init_33_c (46, .aload_n 0, 1) (List.mem_of_getElem? (i := 7) rfl)
theorem dX3_init_47 : decode cX3_init 47 = .ok (.new 33, 3) := fchk_d fw_dX3_init_33_c (47, .new 33, 3) (List.mem_of_getElem? (i := 8) rfl)
theorem dX3_init_50 : decode cX3_init 50 = .ok (.dup, 1) := fchk_d fw_dX3_init_33_c (50, .dup, 1) (List.mem_of_getElem? (i := 9) rfl)
theorem dX3_init_51 : decode cX3_init 51 = .ok (.aload_n 1, 1) := fchk_d fw_dX3_init_33_c (51, .aload_n 1, 1) (List.mem_of_getElem? (i := 10) rfl)
theorem dX3_init_52 : decode cX3_init 52 = .ok (.invokespecial 35, 3) := fchk_d fw_dX3_init_33_c (52, .invokespecial 35, 3) (List.mem_of_getElem? (i := 11) rfl)
theorem dX3_init_55 : decode cX3_init 55 = .ok (.putfield 38, 3) := fchk_d fw_dX3_init_33_c (55, .putfield 38, 3) (List.mem_of_getElem? (i := 12) rfl)
theorem dX3_init_58 : decode cX3_init 58 = .ok (.return_, 1) := fchk_d fw_dX3_init_33_c (58, .return_, 1) (List.mem_of_getElem? (i := 13) rfl)
set_option maxRecDepth 20000 in
theorem ggX3_make_X6_solve : GoodIn wsX3_make wsX6_solve := goodIn_r _ [12, 13, 14, 15, 16, 17, 18, 19, 20, 11, 21, 22, 23, 24, 25, 26, 27, 28, 29, 30, 31, 32, 33, 34, 35, 36, 37, 38, 39, 40, 41, 42, 43, 44, 45, 46, 47, 48, 49, 50, 51, 52, 53, 54, 55, 56, 57, 58, 59, 60, 61, 62, 63, 64, 65, 66, 67, 68, 69, 70, 71, 72, 73, 74, 75, 76, 77, 78, 79, 80, 81, 82, 83, 84, 85, 86, 94, 95, 96, 97, 98, 99, 100, 101, 102, 103, 104, 105, 106, 107, 108, 109, 110] rfl (by decide +kernel)
set_option maxRecDepth 20000 in
theorem gX3_make_X6_solve : GoodIn wsX3_make (wsV RX3 42 RX6 yX6_solve wsX6_solve) := goodIn_app (goodIn_of _ (by decide +kernel)) ggX3_make_X6_solve
set_option maxRecDepth 20000 in
theorem ggX3_make_X7_slot : GoodIn wsX3_make wsX7_slot := goodIn_r _ [30] rfl (by decide +kernel)
set_option maxRecDepth 20000 in
theorem gX3_make_X7_slot_n49 : GoodIn wsX3_make (wsX7_slot) := ggX3_make_X7_slot
set_option maxRecDepth 20000 in
theorem ggX3_make_X7_isIn : GoodIn wsX3_make wsX7_isIn := goodIn_r _ [74] rfl (by decide +kernel)
set_option maxRecDepth 20000 in
theorem gX3_make_X7_isIn_n52 : GoodIn wsX3_make (wsX7_isIn) := ggX3_make_X7_isIn
def fw_dX3_make_0 : List (Nat × Instr × Nat) := [(0, .aload_n 0, 1), (1, .getfield 9, 3), (4, .iload_n 1, 1), (5, .baload, 1), (6, .ifCond .eq 4, 3), (9, .return_, 1), (10, .aload_n 0, 1), (11, .getfield 38, 3), (14, .iload_n 1, 1), (15, .aload_n 0, 1), (16, .getfield 25, 3), (19, .invokevirtual 42, 3), (22, .istore_n 2, 1), (23, .iconst 0, 1), (24, .istore_n 3, 1), (25, .iload_n 3, 1), (26, .iload_n 2, 1), (27, .if_icmp .ge 70, 3), (30, .aload_n 0, 1), (31, .getfield 38, 3), (34, .getfield 46, 3), (37, .iload_n 3, 1), (38, .iaload, 1), (39, .istore 4, 2), (41, .aload_n 0, 1), (42, .getfield 22, 3), (45, .iload_n 1, 1), (46, .iload_n 3, 1), (47, .invokestatic 49, 3), (50, .iload 4, 2), (52, .iastore, 1), (53, .iconst 0, 1), (54, .istore 5, 2), (56, .iload 5, 2), (58, .bipush 10, 2), (60, .if_icmp .ge 31, 3), (63, .iload 4, 2), (65, .iload 5, 2), (67, .invokestatic 52, 3), (70, .ifCond .eq 15, 3)]
theorem fw_dX3_make_0_c : fchk 0 (cX3_make.data.toList.drop 0) fw_dX3_make_0 = true := by decide +kernel
theorem dX3_make_0 : decode cX3_make 0 = .ok (.aload_n 0, 1) := fchk_d fw_dX3_make_0_c (0, .aload_n 0, 1) (List.mem_of_getElem? (i := 0) rfl)
theorem dX3_make_1 : decode cX3_make 1 = .ok (.getfield 9, 3) := fchk_d fw_dX3_make_0_c (1, .getfield 9, 3) (List.mem_of_getElem? (i := 1) rfl)
theorem dX3_make_4 : decode cX3_make 4 = .ok (.iload_n 1, 1) := fchk_d fw_dX3_make_0_c (4, .iload_n 1, 1) (List.mem_of_getElem? (i := 2) rfl)
theorem dX3_make_5 : decode cX3_make 5 = .ok (.baload, 1) := fchk_d fw_dX3_make_0_c (5, .baload, 1) (List.mem_of_getElem? (i := 3) rfl)
theorem dX3_make_6 : decode cX3_make 6 = .ok (.ifCond .eq 4, 3) := fchk_d fw_dX3_make_0_c (6, .ifCond .eq 4, 3) (List.mem_of_getElem? (i := 4) rfl)
theorem dX3_make_9 : decode cX3_make 9 = .ok (.return_, 1) := fchk_d fw_dX3_make_0_c (9, .return_, 1) (List.mem_of_getElem? (i := 5) rfl)
theorem dX3_make_10 : decode cX3_make 10 = .ok (.aload_n 0, 1) := fchk_d fw_dX3_make_0_c (10, .aload_n 0, 1) (List.mem_of_getElem? (i := 6) rfl)
theorem dX3_make_11 : decode cX3_make 11 = .ok (.getfield 38, 3) := fchk_d fw_dX3_make_0_c (11, .getfield 38, 3) (List.mem_of_getElem? (i := 7) rfl)
theorem dX3_make_14 : decode cX3_make 14 = .ok (.iload_n 1, 1) := fchk_d fw_dX3_make_0_c (14, .iload_n 1, 1) (List.mem_of_getElem? (i := 8) rfl)
theorem dX3_make_15 : decode cX3_make 15 = .ok (.aload_n 0, 1) := fchk_d fw_dX3_make_0_c (15, .aload_n 0, 1) (List.mem_of_getElem? (i := 9) rfl)
theorem dX3_make_16 : decode cX3_make 16 = .ok (.getfield 25, 3) := fchk_d fw_dX3_make_0_c (16, .getfield 25, 3) (List.mem_of_getElem? (i := 10) rfl)
theorem dX3_make_19 : decode cX3_make 19 = .ok (.invokevirtual 42, 3) := fchk_d fw_dX3_make_0_c (19, .invokevirtual 42, 3) (List.mem_of_getElem? (i := 11) rfl)
theorem dX3_make_22 : decode cX3_make 22 = .ok (.istore_n 2, 1) := fchk_d fw_dX3_make_0_c (22, .istore_n 2, 1) (List.mem_of_getElem? (i := 12) rfl)
theorem dX3_make_23 : decode cX3_make 23 = .ok (.iconst 0, 1) := fchk_d fw_dX3_make_0_c (23, .iconst 0, 1) (List.mem_of_getElem? (i := 13) rfl)
theorem dX3_make_24 : decode cX3_make 24 = .ok (.istore_n 3, 1) := fchk_d fw_dX3_make_0_c (24, .istore_n 3, 1) (List.mem_of_getElem? (i := 14) rfl)
theorem dX3_make_25 : decode cX3_make 25 = .ok (.iload_n 3, 1) := fchk_d fw_dX3_make_0_c (25, .iload_n 3, 1) (List.mem_of_getElem? (i := 15) rfl)
theorem dX3_make_26 : decode cX3_make 26 = .ok (.iload_n 2, 1) := fchk_d fw_dX3_make_0_c (26, .iload_n 2, 1) (List.mem_of_getElem? (i := 16) rfl)
theorem dX3_make_27 : decode cX3_make 27 = .ok (.if_icmp .ge 70, 3) := fchk_d fw_dX3_make_0_c (27, .if_icmp .ge 70, 3) (List.mem_of_getElem? (i := 17) rfl)
theorem dX3_make_30 : decode cX3_make 30 = .ok (.aload_n 0, 1) := fchk_d fw_dX3_make_0_c (30, .aload_n 0, 1) (List.mem_of_getElem? (i := 18) rfl)
theorem dX3_make_31 : decode cX3_make 31 = .ok (.getfield 38, 3) := fchk_d fw_dX3_make_0_c (31, .getfield 38, 3) (List.mem_of_getElem? (i := 19) rfl)
theorem dX3_make_34 : decode cX3_make 34 = .ok (.getfield 46, 3) := fchk_d fw_dX3_make_0_c (34, .getfield 46, 3) (List.mem_of_getElem? (i := 20) rfl)
theorem dX3_make_37 : decode cX3_make 37 = .ok (.iload_n 3, 1) := fchk_d fw_dX3_make_0_c (37, .iload_n 3, 1) (List.mem_of_getElem? (i := 21) rfl)
theorem dX3_make_38 : decode cX3_make 38 = .ok (.iaload, 1) := fchk_d fw_dX3_make_0_c (38, .iaload, 1) (List.mem_of_getElem? (i := 22) rfl)
theorem dX3_make_39 : decode cX3_make 39 = .ok (.istore 4, 2) := fchk_d fw_dX3_make_0_c (39, .istore 4, 2) (List.mem_of_getElem? (i := 23) rfl)
theorem dX3_make_41 : decode cX3_make 41 = .ok (.aload_n 0, 1) := fchk_d fw_dX3_make_0_c (41, .aload_n 0, 1) (List.mem_of_getElem? (i := 24) rfl)
theorem dX3_make_42 : decode cX3_make 42 = .ok (.getfield 22, 3) := fchk_d fw_dX3_make_0_c (42, .getfield 22, 3) (List.mem_of_getElem? (i := 25) rfl)
theorem dX3_make_45 : decode cX3_make 45 = .ok (.iload_n 1, 1) := fchk_d fw_dX3_make_0_c (45, .iload_n 1, 1) (List.mem_of_getElem? (i := 26) rfl)
theorem dX3_make_46 : decode cX3_make 46 = .ok (.iload_n 3, 1) := fchk_d fw_dX3_make_0_c (46, .iload_n 3, 1) (List.mem_of_getElem? (i := 27) rfl)
theorem dX3_make_47 : decode cX3_make 47 = .ok (.invokestatic 49, 3) := fchk_d fw_dX3_make_0_c (47, .invokestatic 49, 3) (List.mem_of_getElem? (i := 28) rfl)
theorem dX3_make_50 : decode cX3_make 50 = .ok (.iload 4, 2) := fchk_d fw_dX3_make_0_c (50, .iload 4, 2) (List.mem_of_getElem? (i := 29) rfl)
theorem dX3_make_52 : decode cX3_make 52 = .ok (.iastore, 1) := fchk_d fw_dX3_make_0_c (52, .iastore, 1) (List.mem_of_getElem? (i := 30) rfl)
theorem dX3_make_53 : decode cX3_make 53 = .ok (.iconst 0, 1) := fchk_d fw_dX3_make_0_c (53, .iconst 0, 1) (List.mem_of_getElem? (i := 31) rfl)
theorem dX3_make_54 : decode cX3_make 54 = .ok (.istore 5, 2) := fchk_d fw_dX3_make_0_c (54, .istore 5, 2) (List.mem_of_getElem? (i := 32) rfl)
theorem dX3_make_56 : decode cX3_make 56 = .ok (.iload 5, 2) := fchk_d fw_dX3_make_0_c (56, .iload 5, 2) (List.mem_of_getElem? (i := 33) rfl)
theorem dX3_make_58 : decode cX3_make 58 = .ok (.bipush 10, 2) := fchk_d fw_dX3_make_0_c (58, .bipush 10, 2) (List.mem_of_getElem? (i := 34) rfl)
theorem dX3_make_60 : decode cX3_make 60 = .ok (.if_icmp .ge 31, 3) := fchk_d fw_dX3_make_0_c (60, .if_icmp .ge 31, 3) (List.mem_of_getElem? (i := 35) rfl)
theorem dX3_make_63 : decode cX3_make 63 = .ok (.iload 4, 2) := fchk_d fw_dX3_make_0_c (63, .iload 4, 2) (List.mem_of_getElem? (i := 36) rfl)
theorem dX3_make_65 : decode cX3_make 65 = .ok (.iload 5, 2) := fchk_d fw_dX3_make_0_c (65, .iload 5, 2) (List.mem_of_getElem? (i := 37) rfl)
theorem dX3_make_67 : decode cX3_make 67 = .ok (.invokestatic 52, 3) := fchk_d fw_dX3_make_0_c (67, .invokestatic 52, 3) (List.mem_of_getElem? (i := 38) rfl)
theorem dX3_make_70 : decode cX3_make 70 = .ok (.ifCond .eq 15, 3) := fchk_d fw_dX3_make_0_c (70, .ifCond .eq 15, 3) (List.mem_of_getElem? (i := 39) rfl)
def fw_dX3_make_73 : List (Nat × Instr × Nat) := [(73, .aload_n 0, 1), (74, .getfield 19, 3), (77, .iload_n 1, 1), (78, .iload 5, 2), (80, .invokestatic 49, 3), (83, .iload_n 3, 1), (84, .iastore, 1)]
theorem fw_dX3_make_73_c : fchk 73 (cX3_make.data.toList.drop 73) fw_dX3_make_73 = true := by decide +kernel
theorem dX3_make_73 : decode cX3_make 73 = .ok (.aload_n 0, 1) := fchk_d fw_dX3_make_73_c (73, .aload_n 0, 1) (List.mem_of_getElem? (i := 0) rfl)
theorem dX3_make_74 : decode cX3_make 74 = .ok (.getfield 19, 3) := fchk_d fw_dX3_make_73_c (74, .getfield 19, 3) (List.mem_of_getElem? (i := 1) rfl)
theorem dX3_make_77 : decode cX3_make 77 = .ok (.iload_n 1, 1) := fchk_d fw_dX3_make_73_c (77, .iload_n 1, 1) (List.mem_of_getElem? (i := 2) rfl)
theorem dX3_make_78 : decode cX3_make 78 = .ok (.iload 5, 2) := fchk_d fw_dX3_make_73_c (78, .iload 5, 2) (List.mem_of_getElem? (i := 3) rfl)
theorem dX3_make_80 : decode cX3_make 80 = .ok (.invokestatic 49, 3) := fchk_d fw_dX3_make_73_c (80, .invokestatic 49, 3) (List.mem_of_getElem? (i := 4) rfl)
theorem dX3_make_83 : decode cX3_make 83 = .ok (.iload_n 3, 1) := fchk_d fw_dX3_make_73_c (83, .iload_n 3, 1) (List.mem_of_getElem? (i := 5) rfl)
theorem dX3_make_84 : decode cX3_make 84 = .ok (.iastore, 1) := fchk_d fw_dX3_make_73_c (84, .iastore, 1) (List.mem_of_getElem? (i := 6) rfl)
theorem dX3_make_85 : decode cX3_make 85 = .ok (.iinc 5 1, 3) := by decide +kernel
def fw_dX3_make_88 : List (Nat × Instr × Nat) := [(88, .goto (-32), 3)]
theorem fw_dX3_make_88_c : fchk 88 (cX3_make.data.toList.drop 88) fw_dX3_make_88 = true := by decide +kernel
theorem dX3_make_88 : decode cX3_make 88 = .ok (.goto (-32), 3) := fchk_d fw_dX3_make_88_c (88, .goto (-32), 3) (List.mem_of_getElem? (i := 0) rfl)
theorem dX3_make_91 : decode cX3_make 91 = .ok (.iinc 3 1, 3) := by decide +kernel
def fw_dX3_make_94 : List (Nat × Instr × Nat) := [(94, .goto (-69), 3), (97, .aload_n 0, 1), (98, .getfield 15, 3), (101, .iload_n 1, 1), (102, .iload_n 2, 1), (103, .iastore, 1), (104, .aload_n 0, 1), (105, .getfield 9, 3), (108, .iload_n 1, 1), (109, .iconst 1, 1), (110, .bastore, 1), (111, .return_, 1)]
theorem fw_dX3_make_94_c : fchk 94 (cX3_make.data.toList.drop 94) fw_dX3_make_94 = true := by decide +kernel
theorem dX3_make_94 : decode cX3_make 94 = .ok (.goto (-69), 3) := fchk_d fw_dX3_make_94_c (94, .goto (-69), 3) (List.mem_of_getElem? (i := 0) rfl)
theorem dX3_make_97 : decode cX3_make 97 = .ok (.aload_n 0, 1) := fchk_d fw_dX3_make_94_c (97, .aload_n 0, 1) (List.mem_of_getElem? (i := 1) rfl)
theorem dX3_make_98 : decode cX3_make 98 = .ok (.getfield 15, 3) := fchk_d fw_dX3_make_94_c (98, .getfield 15, 3) (List.mem_of_getElem? (i := 2) rfl)
theorem dX3_make_101 : decode cX3_make 101 = .ok (.iload_n 1, 1) := fchk_d fw_dX3_make_94_c (101, .iload_n 1, 1) (List.mem_of_getElem? (i := 3) rfl)
theorem dX3_make_102 : decode cX3_make 102 = .ok (.iload_n 2, 1) := fchk_d fw_dX3_make_94_c (102, .iload_n 2, 1) (List.mem_of_getElem? (i := 4) rfl)
theorem dX3_make_103 : decode cX3_make 103 = .ok (.iastore, 1) := fchk_d fw_dX3_make_94_c (103, .iastore, 1) (List.mem_of_getElem? (i := 5) rfl)
theorem dX3_make_104 : decode cX3_make 104 = .ok (.aload_n 0, 1) := fchk_d fw_dX3_make_94_c (104, .aload_n 0, 1) (List.mem_of_getElem? (i := 6) rfl)
theorem dX3_make_105 : decode cX3_make 105 = .ok (.getfield 9, 3) := fchk_d fw_dX3_make_94_c (105, .getfield 9, 3) (List.mem_of_getElem? (i := 7) rfl)
theorem dX3_make_108 : decode cX3_make 108 = .ok (.iload_n 1, 1) := fchk_d fw_dX3_make_94_c (108, .iload_n 1, 1) (List.mem_of_getElem? (i := 8) rfl)
theorem dX3_make_109 : decode cX3_make 109 = .ok (.iconst 1, 1) := fchk_d fw_dX3_make_94_c (109, .iconst 1, 1) (List.mem_of_getElem? (i := 9) rfl)
theorem dX3_make_110 : decode cX3_make 110 = .ok (.bastore, 1) := fchk_d fw_dX3_make_94_c (110, .bastore, 1) (List.mem_of_getElem? (i := 10) rfl)
theorem dX3_make_111 : decode cX3_make 111 = .ok (.return_, 1) := fchk_d fw_dX3_make_94_c (111, .return_, 1) (List.mem_of_getElem? (i := 11) rfl)
def fw_dX3_dropAll_0 : List (Nat × Instr × Nat) := [(0, .iconst 0, 1), (1, .istore_n 1, 1), (2, .iload_n 1, 1), (3, .bipush 12, 2), (5, .if_icmp .ge 16, 3), (8, .aload_n 0, 1), (9, .getfield 9, 3), (12, .iload_n 1, 1), (13, .iconst 0, 1), (14, .bastore, 1)]
theorem fw_dX3_dropAll_0_c : fchk 0 (cX3_dropAll.data.toList.drop 0) fw_dX3_dropAll_0 = true := by decide +kernel
theorem dX3_dropAll_0 : decode cX3_dropAll 0 = .ok (.iconst 0, 1) := fchk_d fw_dX3_dropAll_0_c (0, .iconst 0, 1) (List.mem_of_getElem? (i := 0) rfl)
theorem dX3_dropAll_1 : decode cX3_dropAll 1 = .ok (.istore_n 1, 1) := fchk_d fw_dX3_dropAll_0_c (1, .istore_n 1, 1) (List.mem_of_getElem? (i := 1) rfl)
theorem dX3_dropAll_2 : decode cX3_dropAll 2 = .ok (.iload_n 1, 1) := fchk_d fw_dX3_dropAll_0_c (2, .iload_n 1, 1) (List.mem_of_getElem? (i := 2) rfl)
theorem dX3_dropAll_3 : decode cX3_dropAll 3 = .ok (.bipush 12, 2) := fchk_d fw_dX3_dropAll_0_c (3, .bipush 12, 2) (List.mem_of_getElem? (i := 3) rfl)
theorem dX3_dropAll_5 : decode cX3_dropAll 5 = .ok (.if_icmp .ge 16, 3) := fchk_d fw_dX3_dropAll_0_c (5, .if_icmp .ge 16, 3) (List.mem_of_getElem? (i := 4) rfl)
theorem dX3_dropAll_8 : decode cX3_dropAll 8 = .ok (.aload_n 0, 1) := fchk_d fw_dX3_dropAll_0_c (8, .aload_n 0, 1) (List.mem_of_getElem? (i := 5) rfl)
theorem dX3_dropAll_9 : decode cX3_dropAll 9 = .ok (.getfield 9, 3) := fchk_d fw_dX3_dropAll_0_c (9, .getfield 9, 3) (List.mem_of_getElem? (i := 6) rfl)
theorem dX3_dropAll_12 : decode cX3_dropAll 12 = .ok (.iload_n 1, 1) := fchk_d fw_dX3_dropAll_0_c (12, .iload_n 1, 1) (List.mem_of_getElem? (i := 7) rfl)
theorem dX3_dropAll_13 : decode cX3_dropAll 13 = .ok (.iconst 0, 1) := fchk_d fw_dX3_dropAll_0_c (13, .iconst 0, 1) (List.mem_of_getElem? (i := 8) rfl)
theorem dX3_dropAll_14 : decode cX3_dropAll 14 = .ok (.bastore, 1) := fchk_d fw_dX3_dropAll_0_c (14, .bastore, 1) (List.mem_of_getElem? (i := 9) rfl)
theorem dX3_dropAll_15 : decode cX3_dropAll 15 = .ok (.iinc 1 1, 3) := by decide +kernel
def fw_dX3_dropAll_18 : List (Nat × Instr × Nat) := [(18, .goto (-16), 3), (21, .return_, 1)]
theorem fw_dX3_dropAll_18_c : fchk 18 (cX3_dropAll.data.toList.drop 18) fw_dX3_dropAll_18 = true := by decide +kernel
theorem dX3_dropAll_18 : decode cX3_dropAll 18 = .ok (.goto (-16), 3) := fchk_d fw_dX3_dropAll_18_c (18, .goto (-16), 3) (List.mem_of_getElem? (i := 0) rfl)
theorem dX3_dropAll_21 : decode cX3_dropAll 21 = .ok (.return_, 1) := fchk_d fw_dX3_dropAll_18_c (21, .return_, 1) (List.mem_of_getElem? (i := 1) rfl)
set_option maxRecDepth 20000 in
theorem ggX3_holderOf_X7_slot : GoodIn wsX3_holderOf wsX7_slot := goodIn_r _ [5] rfl (by decide +kernel)
set_option maxRecDepth 20000 in
theorem gX3_holderOf_X7_slot_n49 : GoodIn wsX3_holderOf (wsX7_slot) := ggX3_holderOf_X7_slot
set_option maxRecDepth 20000 in
theorem ggX3_holderOf_X5_need : GoodIn wsX3_holderOf wsX5_need := goodIn_r _ [10, 11, 12, 13, 14, 15, 16, 9, 17, 25, 26, 27, 28, 29, 30, 31] rfl (by decide +kernel)
set_option maxRecDepth 20000 in
theorem gX3_holderOf_X5_need : GoodIn wsX3_holderOf (wsV RX3 56 RX5 yX5_need wsX5_need) := goodIn_app (goodIn_of _ (by decide +kernel)) ggX3_holderOf_X5_need
def fw_dX3_holderOf_0 : List (Nat × Instr × Nat) := [(0, .iload_n 1, 1), (1, .iload_n 2, 1), (2, .invokestatic 49, 3), (5, .istore_n 3, 1), (6, .iconst 0, 1), (7, .istore 4, 2), (9, .iload 4, 2), (11, .iload_n 2, 1), (12, .if_icmp .ge 71, 3), (15, .iload_n 1, 1), (16, .iload 4, 2), (18, .invokestatic 49, 3), (21, .istore 5, 2), (23, .aload_n 0, 1), (24, .getfield 29, 3), (27, .iload 5, 2), (29, .iload_n 3, 1), (30, .invokevirtual 56, 3), (33, .istore 6, 2), (35, .aload_n 0, 1), (36, .getfield 19, 3), (39, .iload_n 3, 1), (40, .iaload, 1), (41, .aload_n 0, 1), (42, .getfield 19, 3), (45, .iload 5, 2), (47, .iaload, 1), (48, .isub, 1), (49, .istore 7, 2), (51, .iload 6, 2), (53, .iconst 2, 1), (54, .if_icmp .ne 9, 3), (57, .iload 7, 2), (59, .iconst 1, 1), (60, .if_icmp .eq 14, 3), (63, .iload 6, 2), (65, .iconst 1, 1), (66, .if_icmp .ne 11, 3), (69, .iload 7, 2), (71, .ifCond .ne 6, 3)]
theorem fw_dX3_holderOf_0_c : fchk 0 (cX3_holderOf.data.toList.drop 0) fw_dX3_holderOf_0 = true := by decide +kernel
theorem dX3_holderOf_0 : decode cX3_holderOf 0 = .ok (.iload_n 1, 1) := fchk_d fw_dX3_holderOf_0_c (0, .iload_n 1, 1) (List.mem_of_getElem? (i := 0) rfl)
theorem dX3_holderOf_1 : decode cX3_holderOf 1 = .ok (.iload_n 2, 1) := fchk_d fw_dX3_holderOf_0_c (1, .iload_n 2, 1) (List.mem_of_getElem? (i := 1) rfl)
theorem dX3_holderOf_2 : decode cX3_holderOf 2 = .ok (.invokestatic 49, 3) := fchk_d fw_dX3_holderOf_0_c (2, .invokestatic 49, 3) (List.mem_of_getElem? (i := 2) rfl)
theorem dX3_holderOf_5 : decode cX3_holderOf 5 = .ok (.istore_n 3, 1) := fchk_d fw_dX3_holderOf_0_c (5, .istore_n 3, 1) (List.mem_of_getElem? (i := 3) rfl)
theorem dX3_holderOf_6 : decode cX3_holderOf 6 = .ok (.iconst 0, 1) := fchk_d fw_dX3_holderOf_0_c (6, .iconst 0, 1) (List.mem_of_getElem? (i := 4) rfl)
theorem dX3_holderOf_7 : decode cX3_holderOf 7 = .ok (.istore 4, 2) := fchk_d fw_dX3_holderOf_0_c (7, .istore 4, 2) (List.mem_of_getElem? (i := 5) rfl)
theorem dX3_holderOf_9 : decode cX3_holderOf 9 = .ok (.iload 4, 2) := fchk_d fw_dX3_holderOf_0_c (9, .iload 4, 2) (List.mem_of_getElem? (i := 6) rfl)
theorem dX3_holderOf_11 : decode cX3_holderOf 11 = .ok (.iload_n 2, 1) := fchk_d fw_dX3_holderOf_0_c (11, .iload_n 2, 1) (List.mem_of_getElem? (i := 7) rfl)
theorem dX3_holderOf_12 : decode cX3_holderOf 12 = .ok (.if_icmp .ge 71, 3) := fchk_d fw_dX3_holderOf_0_c (12, .if_icmp .ge 71, 3) (List.mem_of_getElem? (i := 8) rfl)
theorem dX3_holderOf_15 : decode cX3_holderOf 15 = .ok (.iload_n 1, 1) := fchk_d fw_dX3_holderOf_0_c (15, .iload_n 1, 1) (List.mem_of_getElem? (i := 9) rfl)
theorem dX3_holderOf_16 : decode cX3_holderOf 16 = .ok (.iload 4, 2) := fchk_d fw_dX3_holderOf_0_c (16, .iload 4, 2) (List.mem_of_getElem? (i := 10) rfl)
theorem dX3_holderOf_18 : decode cX3_holderOf 18 = .ok (.invokestatic 49, 3) := fchk_d fw_dX3_holderOf_0_c (18, .invokestatic 49, 3) (List.mem_of_getElem? (i := 11) rfl)
theorem dX3_holderOf_21 : decode cX3_holderOf 21 = .ok (.istore 5, 2) := fchk_d fw_dX3_holderOf_0_c (21, .istore 5, 2) (List.mem_of_getElem? (i := 12) rfl)
theorem dX3_holderOf_23 : decode cX3_holderOf 23 = .ok (.aload_n 0, 1) := fchk_d fw_dX3_holderOf_0_c (23, .aload_n 0, 1) (List.mem_of_getElem? (i := 13) rfl)
theorem dX3_holderOf_24 : decode cX3_holderOf 24 = .ok (.getfield 29, 3) := fchk_d fw_dX3_holderOf_0_c (24, .getfield 29, 3) (List.mem_of_getElem? (i := 14) rfl)
theorem dX3_holderOf_27 : decode cX3_holderOf 27 = .ok (.iload 5, 2) := fchk_d fw_dX3_holderOf_0_c (27, .iload 5, 2) (List.mem_of_getElem? (i := 15) rfl)
theorem dX3_holderOf_29 : decode cX3_holderOf 29 = .ok (.iload_n 3, 1) := fchk_d fw_dX3_holderOf_0_c (29, .iload_n 3, 1) (List.mem_of_getElem? (i := 16) rfl)
theorem dX3_holderOf_30 : decode cX3_holderOf 30 = .ok (.invokevirtual 56, 3) := fchk_d fw_dX3_holderOf_0_c (30, .invokevirtual 56, 3) (List.mem_of_getElem? (i := 17) rfl)
theorem dX3_holderOf_33 : decode cX3_holderOf 33 = .ok (.istore 6, 2) := fchk_d fw_dX3_holderOf_0_c (33, .istore 6, 2) (List.mem_of_getElem? (i := 18) rfl)
theorem dX3_holderOf_35 : decode cX3_holderOf 35 = .ok (.aload_n 0, 1) := fchk_d fw_dX3_holderOf_0_c (35, .aload_n 0, 1) (List.mem_of_getElem? (i := 19) rfl)
theorem dX3_holderOf_36 : decode cX3_holderOf 36 = .ok (.getfield 19, 3) := fchk_d fw_dX3_holderOf_0_c (36, .getfield 19, 3) (List.mem_of_getElem? (i := 20) rfl)
theorem dX3_holderOf_39 : decode cX3_holderOf 39 = .ok (.iload_n 3, 1) := fchk_d fw_dX3_holderOf_0_c (39, .iload_n 3, 1) (List.mem_of_getElem? (i := 21) rfl)
theorem dX3_holderOf_40 : decode cX3_holderOf 40 = .ok (.iaload, 1) := fchk_d fw_dX3_holderOf_0_c (40, .iaload, 1) (List.mem_of_getElem? (i := 22) rfl)
theorem dX3_holderOf_41 : decode cX3_holderOf 41 = .ok (.aload_n 0, 1) := fchk_d fw_dX3_holderOf_0_c (41, .aload_n 0, 1) (List.mem_of_getElem? (i := 23) rfl)
theorem dX3_holderOf_42 : decode cX3_holderOf 42 = .ok (.getfield 19, 3) := fchk_d fw_dX3_holderOf_0_c (42, .getfield 19, 3) (List.mem_of_getElem? (i := 24) rfl)
theorem dX3_holderOf_45 : decode cX3_holderOf 45 = .ok (.iload 5, 2) := fchk_d fw_dX3_holderOf_0_c (45, .iload 5, 2) (List.mem_of_getElem? (i := 25) rfl)
theorem dX3_holderOf_47 : decode cX3_holderOf 47 = .ok (.iaload, 1) := fchk_d fw_dX3_holderOf_0_c (47, .iaload, 1) (List.mem_of_getElem? (i := 26) rfl)
theorem dX3_holderOf_48 : decode cX3_holderOf 48 = .ok (.isub, 1) := fchk_d fw_dX3_holderOf_0_c (48, .isub, 1) (List.mem_of_getElem? (i := 27) rfl)
theorem dX3_holderOf_49 : decode cX3_holderOf 49 = .ok (.istore 7, 2) := fchk_d fw_dX3_holderOf_0_c (49, .istore 7, 2) (List.mem_of_getElem? (i := 28) rfl)
theorem dX3_holderOf_51 : decode cX3_holderOf 51 = .ok (.iload 6, 2) := fchk_d fw_dX3_holderOf_0_c (51, .iload 6, 2) (List.mem_of_getElem? (i := 29) rfl)
theorem dX3_holderOf_53 : decode cX3_holderOf 53 = .ok (.iconst 2, 1) := fchk_d fw_dX3_holderOf_0_c (53, .iconst 2, 1) (List.mem_of_getElem? (i := 30) rfl)
theorem dX3_holderOf_54 : decode cX3_holderOf 54 = .ok (.if_icmp .ne 9, 3) := fchk_d fw_dX3_holderOf_0_c (54, .if_icmp .ne 9, 3) (List.mem_of_getElem? (i := 31) rfl)
theorem dX3_holderOf_57 : decode cX3_holderOf 57 = .ok (.iload 7, 2) := fchk_d fw_dX3_holderOf_0_c (57, .iload 7, 2) (List.mem_of_getElem? (i := 32) rfl)
theorem dX3_holderOf_59 : decode cX3_holderOf 59 = .ok (.iconst 1, 1) := fchk_d fw_dX3_holderOf_0_c (59, .iconst 1, 1) (List.mem_of_getElem? (i := 33) rfl)
theorem dX3_holderOf_60 : decode cX3_holderOf 60 = .ok (.if_icmp .eq 14, 3) := fchk_d fw_dX3_holderOf_0_c (60, .if_icmp .eq 14, 3) (List.mem_of_getElem? (i := 34) rfl)
theorem dX3_holderOf_63 : decode cX3_holderOf 63 = .ok (.iload 6, 2) := fchk_d fw_dX3_holderOf_0_c (63, .iload 6, 2) (List.mem_of_getElem? (i := 35) rfl)
theorem dX3_holderOf_65 : decode cX3_holderOf 65 = .ok (.iconst 1, 1) := fchk_d fw_dX3_holderOf_0_c (65, .iconst 1, 1) (List.mem_of_getElem? (i := 36) rfl)
theorem dX3_holderOf_66 : decode cX3_holderOf 66 = .ok (.if_icmp .ne 11, 3) := fchk_d fw_dX3_holderOf_0_c (66, .if_icmp .ne 11, 3) (List.mem_of_getElem? (i := 37) rfl)
theorem dX3_holderOf_69 : decode cX3_holderOf 69 = .ok (.iload 7, 2) := fchk_d fw_dX3_holderOf_0_c (69, .iload 7, 2) (List.mem_of_getElem? (i := 38) rfl)
theorem dX3_holderOf_71 : decode cX3_holderOf 71 = .ok (.ifCond .ne 6, 3) := fchk_d fw_dX3_holderOf_0_c (71, .ifCond .ne 6, 3) (List.mem_of_getElem? (i := 39) rfl)
def fw_dX3_holderOf_74 : List (Nat × Instr × Nat) := [(74, .iload 4, 2), (76, .ireturn, 1)]
theorem fw_dX3_holderOf_74_c : fchk 74 (cX3_holderOf.data.toList.drop 74) fw_dX3_holderOf_74 = true := by decide +kernel
theorem dX3_holderOf_74 : decode cX3_holderOf 74 = .ok (.iload 4, 2) := fchk_d fw_dX3_holderOf_74_c (74, .iload 4, 2) (List.mem_of_getElem? (i := 0) rfl)
theorem dX3_holderOf_76 : decode cX3_holderOf 76 = .ok (.ireturn, 1) := fchk_d fw_dX3_holderOf_74_c (76, .ireturn, 1) (List.mem_of_getElem? (i := 1) rfl)
theorem dX3_holderOf_77 : decode cX3_holderOf 77 = .ok (.iinc 4 1, 3) := by decide +kernel
def fw_dX3_holderOf_80 : List (Nat × Instr × Nat) := [(80, .goto (-71), 3), (83, .iconst (-1), 1), (84, .ireturn, 1)]
theorem fw_dX3_holderOf_80_c : fchk 80 (cX3_holderOf.data.toList.drop 80) fw_dX3_holderOf_80 = true := by decide +kernel
theorem dX3_holderOf_80 : decode cX3_holderOf 80 = .ok (.goto (-71), 3) := fchk_d fw_dX3_holderOf_80_c (80, .goto (-71), 3) (List.mem_of_getElem? (i := 0) rfl)
theorem dX3_holderOf_83 : decode cX3_holderOf 83 = .ok (.iconst (-1), 1) := fchk_d fw_dX3_holderOf_80_c (83, .iconst (-1), 1) (List.mem_of_getElem? (i := 1) rfl)
theorem dX3_holderOf_84 : decode cX3_holderOf 84 = .ok (.ireturn, 1) := fchk_d fw_dX3_holderOf_80_c (84, .ireturn, 1) (List.mem_of_getElem? (i := 2) rfl)
def fw_dX4_init_0 : List (Nat × Instr × Nat) := [(0, .aload_n 0, 1), (1, .invokespecial 3, 3), (4, .aload_n 0, 1), (5, .bipush 120, 2)]
theorem fw_dX4_init_0_c : fchk 0 (cX4_init.data.toList.drop 0) fw_dX4_init_0 = true := by decide +kernel
theorem dX4_init_0 : decode cX4_init 0 = .ok (.aload_n 0, 1) := fchk_d fw_dX4_init_0_c (0, .aload_n 0, 1) (List.mem_of_getElem? (i := 0) rfl)
theorem dX4_init_1 : decode cX4_init 1 = .ok (.invokespecial 3, 3) := fchk_d fw_dX4_init_0_c (1, .invokespecial 3, 3) (List.mem_of_getElem? (i := 1) rfl)
theorem dX4_init_4 : decode cX4_init 4 = .ok (.aload_n 0, 1) := fchk_d fw_dX4_init_0_c (4, .aload_n 0, 1) (List.mem_of_getElem? (i := 2) rfl)
theorem dX4_init_5 : decode cX4_init 5 = .ok (.bipush 120, 2) := fchk_d fw_dX4_init_0_c (5, .bipush 120, 2) (List.mem_of_getElem? (i := 3) rfl)
theorem dX4_init_7 : decode cX4_init 7 = .ok (.newarray .int, 2) := by decide +kernel
def fw_dX4_init_9 : List (Nat × Instr × Nat) := [(9, .putfield 9, 3), (12, .aload_n 0, 1), (13, .bipush 120, 2)]
theorem fw_dX4_init_9_c : fchk 9 (cX4_init.data.toList.drop 9) fw_dX4_init_9 = true := by decide +kernel
theorem dX4_init_9 : decode cX4_init 9 = .ok (.putfield 9, 3) := fchk_d fw_dX4_init_9_c (9, .putfield 9, 3) (List.mem_of_getElem? (i := 0) rfl)
theorem dX4_init_12 : decode cX4_init 12 = .ok (.aload_n 0, 1) := fchk_d fw_dX4_init_9_c (12, .aload_n 0, 1) (List.mem_of_getElem? (i := 1) rfl)
theorem dX4_init_13 : decode cX4_init 13 = .ok (.bipush 120, 2) := fchk_d fw_dX4_init_9_c (13, .bipush 120, 2) (List.mem_of_getElem? (i := 2) rfl)
theorem dX4_init_15 : decode cX4_init 15 = .ok (.newarray .int, 2) := by decide +kernel
def fw_dX4_init_17 : List (Nat × Instr × Nat) := [(17, .putfield 15, 3), (20, .aload_n 0, 1), (21, .bipush 120, 2)]
theorem fw_dX4_init_17_c : fchk 17 (cX4_init.data.toList.drop 17) fw_dX4_init_17 = true := by decide +kernel
theorem dX4_init_17 : decode cX4_init 17 = .ok (.putfield 15, 3) := fchk_d fw_dX4_init_17_c (17, .putfield 15, 3) (List.mem_of_getElem? (i := 0) rfl)
theorem dX4_init_20 : decode cX4_init 20 = .ok (.aload_n 0, 1) := fchk_d fw_dX4_init_17_c (20, .aload_n 0, 1) (List.mem_of_getElem? (i := 1) rfl)
theorem dX4_init_21 : decode cX4_init 21 = .ok (.bipush 120, 2) := fchk_d fw_dX4_init_17_c (21, .bipush 120, 2) (List.mem_of_getElem? (i := 2) rfl)
theorem dX4_init_23 : decode cX4_init 23 = .ok (.newarray .int, 2) := by decide +kernel
def fw_dX4_init_25 : List (Nat × Instr × Nat) := [(25, .putfield 18, 3), (28, .aload_n 0, 1), (29, .bipush 120, 2)]
theorem fw_dX4_init_25_c : fchk 25 (cX4_init.data.toList.drop 25) fw_dX4_init_25 = true := by decide +kernel
theorem dX4_init_25 : decode cX4_init 25 = .ok (.putfield 18, 3) := fchk_d fw_dX4_init_25_c (25, .putfield 18, 3) (List.mem_of_getElem? (i := 0) rfl)
theorem dX4_init_28 : decode cX4_init 28 = .ok (.aload_n 0, 1) := fchk_d fw_dX4_init_25_c (28, .aload_n 0, 1) (List.mem_of_getElem? (i := 1) rfl)
theorem dX4_init_29 : decode cX4_init 29 = .ok (.bipush 120, 2) := fchk_d fw_dX4_init_25_c (29, .bipush 120, 2) (List.mem_of_getElem? (i := 2) rfl)
theorem dX4_init_31 : decode cX4_init 31 = .ok (.newarray .int, 2) := by decide +kernel
def fw_dX4_init_33 : List (Nat × Instr × Nat) := [(33, .putfield 21, 3), (36, .aload_n 0, 1), (37, .bipush 120, 2)]
theorem fw_dX4_init_33_c : fchk 33 (cX4_init.data.toList.drop 33) fw_dX4_init_33 = true := by decide +kernel
theorem dX4_init_33 : decode cX4_init 33 = .ok (.putfield 21, 3) := fchk_d fw_dX4_init_33_c (33, .putfield 21, 3) (List.mem_of_getElem? (i := 0) rfl)
theorem dX4_init_36 : decode cX4_init 36 = .ok (.aload_n 0, 1) := fchk_d fw_dX4_init_33_c (36, .aload_n 0, 1) (List.mem_of_getElem? (i := 1) rfl)
theorem dX4_init_37 : decode cX4_init 37 = .ok (.bipush 120, 2) := fchk_d fw_dX4_init_33_c (37, .bipush 120, 2) (List.mem_of_getElem? (i := 2) rfl)
theorem dX4_init_39 : decode cX4_init 39 = .ok (.newarray .int, 2) := by decide +kernel
def fw_dX4_init_41 : List (Nat × Instr × Nat) := [(41, .putfield 24, 3), (44, .aload_n 0, 1), (45, .aload_n 1, 1), (46, .putfield 27, 3), (49, .aload_n 0, 1), (50, .aload_n 2, 1), (51, .putfield 31, 3), (54, .return_, 1)]
theorem fw_dX4_init_41_c : fchk 41 (cX4_init.data.toList.drop 41) fw_dX4_init_41 = true := by decide +kernel
theorem dX4_init_41 : decode cX4_init 41 = .ok (.putfield 24, 3) := fchk_d fw_dX4_init_41_c (41, .putfield 24, 3) (List.mem_of_getElem? (i := 0) rfl)
theorem dX4_init_44 : decode cX4_init 44 = .ok (.aload_n 0, 1) := fchk_d fw_dX4_init_41_c (44, .aload_n 0, 1) (List.mem_of_getElem? (i := 1) rfl)
theorem dX4_init_45 : decode cX4_init 45 = .ok (.aload_n 1, 1) := fchk_d fw_dX4_init_41_c (45, .aload_n 1, 1) (List.mem_of_getElem? (i := 2) rfl)
theorem dX4_init_46 : decode cX4_init 46 = .ok (.putfield 27, 3) := fchk_d fw_dX4_init_41_c (46, .putfield 27, 3) (List.mem_of_getElem? (i := 3) rfl)
theorem dX4_init_49 : decode cX4_init 49 = .ok (.aload_n 0, 1) := fchk_d fw_dX4_init_41_c (49, .aload_n 0, 1) (List.mem_of_getElem? (i := 4) rfl)
theorem dX4_init_50 : decode cX4_init 50 = .ok (.aload_n 2, 1) := fchk_d fw_dX4_init_41_c (50, .aload_n 2, 1) (List.mem_of_getElem? (i := 5) rfl)
theorem dX4_init_51 : decode cX4_init 51 = .ok (.putfield 31, 3) := fchk_d fw_dX4_init_41_c (51, .putfield 31, 3) (List.mem_of_getElem? (i := 6) rfl)
theorem dX4_init_54 : decode cX4_init 54 = .ok (.return_, 1) := fchk_d fw_dX4_init_41_c (54, .return_, 1) (List.mem_of_getElem? (i := 7) rfl)
set_option maxRecDepth 20000 in
theorem ggX4_make_X7_slot : GoodIn wsX4_make wsX7_slot := goodIn_r _ [10] rfl (by decide +kernel)
set_option maxRecDepth 20000 in
theorem gX4_make_X7_slot_n44 : GoodIn wsX4_make (wsX7_slot) := ggX4_make_X7_slot
set_option maxRecDepth 20000 in
theorem ggX4_make_X4_findOrAdd : GoodIn wsX4_make wsX4_findOrAdd := goodIn_r _ [15, 1, 16, 17, 18, 5, 19, 20, 21, 14, 22, 23, 24, 25, 26, 27, 28, 29, 30, 31, 9, 32, 33, 34, 35, 8, 10, 36, 37, 38, 39, 40, 41, 42, 43, 44, 45, 46, 47, 48, 49, 50, 51, 52, 53, 61, 62, 63, 64, 65, 66, 67] rfl (by decide +kernel)
set_option maxRecDepth 20000 in
theorem gX4_make_X4_findOrAdd : GoodIn wsX4_make (wsV RX4 51 RX4 yX4_findOrAdd wsX4_findOrAdd) := goodIn_app (goodIn_of _ (by decide +kernel)) ggX4_make_X4_findOrAdd
def fw_dX4_make_0 : List (Nat × Instr × Nat) := [(0, .aload_n 0, 1), (1, .iconst 0, 1), (2, .putfield 35, 3), (5, .iconst 0, 1), (6, .istore_n 1, 1), (7, .iload_n 1, 1), (8, .bipush 12, 2), (10, .if_icmp .ge 75, 3), (13, .iconst (-1), 1), (14, .istore_n 2, 1), (15, .aload_n 0, 1), (16, .getfield 31, 3), (19, .getfield 39, 3), (22, .iload_n 1, 1), (23, .iaload, 1), (24, .iconst 1, 1), (25, .isub, 1), (26, .istore_n 3, 1), (27, .iload_n 3, 1), (28, .ifCond .lt 51, 3), (31, .iload_n 1, 1), (32, .iload_n 3, 1), (33, .invokestatic 44, 3), (36, .istore 4, 2), (38, .aload_n 0, 1), (39, .iload_n 1, 1), (40, .aload_n 0, 1), (41, .getfield 31, 3), (44, .getfield 48, 3), (47, .iload 4, 2), (49, .iaload, 1), (50, .iload_n 2, 1), (51, .invokevirtual 51, 3), (54, .istore_n 2, 1), (55, .aload_n 0, 1), (56, .getfield 21, 3), (59, .iload_n 2, 1), (60, .dup2, 1), (61, .iaload, 1), (62, .iconst 1, 1)]
theorem fw_dX4_make_0_c : fchk 0 (cX4_make.data.toList.drop 0) fw_dX4_make_0 = true := by decide +kernel
theorem dX4_make_0 : decode cX4_make 0 = .ok (.aload_n 0, 1) := fchk_d fw_dX4_make_0_c (0, .aload_n 0, 1) (List.mem_of_getElem? (i := 0) rfl)
theorem dX4_make_1 : decode cX4_make 1 = .ok (.iconst 0, 1) := fchk_d fw_dX4_make_0_c (1, .iconst 0, 1) (List.mem_of_getElem? (i := 1) rfl)
theorem dX4_make_2 : decode cX4_make 2 = .ok (.putfield 35, 3) := fchk_d fw_dX4_make_0_c (2, .putfield 35, 3) (List.mem_of_getElem? (i := 2) rfl)
theorem dX4_make_5 : decode cX4_make 5 = .ok (.iconst 0, 1) := fchk_d fw_dX4_make_0_c (5, .iconst 0, 1) (List.mem_of_getElem? (i := 3) rfl)
theorem dX4_make_6 : decode cX4_make 6 = .ok (.istore_n 1, 1) := fchk_d fw_dX4_make_0_c (6, .istore_n 1, 1) (List.mem_of_getElem? (i := 4) rfl)
theorem dX4_make_7 : decode cX4_make 7 = .ok (.iload_n 1, 1) := fchk_d fw_dX4_make_0_c (7, .iload_n 1, 1) (List.mem_of_getElem? (i := 5) rfl)
theorem dX4_make_8 : decode cX4_make 8 = .ok (.bipush 12, 2) := fchk_d fw_dX4_make_0_c (8, .bipush 12, 2) (List.mem_of_getElem? (i := 6) rfl)
theorem dX4_make_10 : decode cX4_make 10 = .ok (.if_icmp .ge 75, 3) := fchk_d fw_dX4_make_0_c (10, .if_icmp .ge 75, 3) (List.mem_of_getElem? (i := 7) rfl)
theorem dX4_make_13 : decode cX4_make 13 = .ok (.iconst (-1), 1) := fchk_d fw_dX4_make_0_c (13, .iconst (-1), 1) (List.mem_of_getElem? (i := 8) rfl)
theorem dX4_make_14 : decode cX4_make 14 = .ok (.istore_n 2, 1) := fchk_d fw_dX4_make_0_c (14, .istore_n 2, 1) (List.mem_of_getElem? (i := 9) rfl)
theorem dX4_make_15 : decode cX4_make 15 = .ok (.aload_n 0, 1) := fchk_d fw_dX4_make_0_c (15, .aload_n 0, 1) (List.mem_of_getElem? (i := 10) rfl)
theorem dX4_make_16 : decode cX4_make 16 = .ok (.getfield 31, 3) := fchk_d fw_dX4_make_0_c (16, .getfield 31, 3) (List.mem_of_getElem? (i := 11) rfl)
theorem dX4_make_19 : decode cX4_make 19 = .ok (.getfield 39, 3) := fchk_d fw_dX4_make_0_c (19, .getfield 39, 3) (List.mem_of_getElem? (i := 12) rfl)
theorem dX4_make_22 : decode cX4_make 22 = .ok (.iload_n 1, 1) := fchk_d fw_dX4_make_0_c (22, .iload_n 1, 1) (List.mem_of_getElem? (i := 13) rfl)
theorem dX4_make_23 : decode cX4_make 23 = .ok (.iaload, 1) := fchk_d fw_dX4_make_0_c (23, .iaload, 1) (List.mem_of_getElem? (i := 14) rfl)
theorem dX4_make_24 : decode cX4_make 24 = .ok (.iconst 1, 1) := fchk_d fw_dX4_make_0_c (24, .iconst 1, 1) (List.mem_of_getElem? (i := 15) rfl)
theorem dX4_make_25 : decode cX4_make 25 = .ok (.isub, 1) := fchk_d fw_dX4_make_0_c (25, .isub, 1) (List.mem_of_getElem? (i := 16) rfl)
theorem dX4_make_26 : decode cX4_make 26 = .ok (.istore_n 3, 1) := fchk_d fw_dX4_make_0_c (26, .istore_n 3, 1) (List.mem_of_getElem? (i := 17) rfl)
theorem dX4_make_27 : decode cX4_make 27 = .ok (.iload_n 3, 1) := fchk_d fw_dX4_make_0_c (27, .iload_n 3, 1) (List.mem_of_getElem? (i := 18) rfl)
theorem dX4_make_28 : decode cX4_make 28 = .ok (.ifCond .lt 51, 3) := fchk_d fw_dX4_make_0_c (28, .ifCond .lt 51, 3) (List.mem_of_getElem? (i := 19) rfl)
theorem dX4_make_31 : decode cX4_make 31 = .ok (.iload_n 1, 1) := fchk_d fw_dX4_make_0_c (31, .iload_n 1, 1) (List.mem_of_getElem? (i := 20) rfl)
theorem dX4_make_32 : decode cX4_make 32 = .ok (.iload_n 3, 1) := fchk_d fw_dX4_make_0_c (32, .iload_n 3, 1) (List.mem_of_getElem? (i := 21) rfl)
theorem dX4_make_33 : decode cX4_make 33 = .ok (.invokestatic 44, 3) := fchk_d fw_dX4_make_0_c (33, .invokestatic 44, 3) (List.mem_of_getElem? (i := 22) rfl)
theorem dX4_make_36 : decode cX4_make 36 = .ok (.istore 4, 2) := fchk_d fw_dX4_make_0_c (36, .istore 4, 2) (List.mem_of_getElem? (i := 23) rfl)
theorem dX4_make_38 : decode cX4_make 38 = .ok (.aload_n 0, 1) := fchk_d fw_dX4_make_0_c (38, .aload_n 0, 1) (List.mem_of_getElem? (i := 24) rfl)
theorem dX4_make_39 : decode cX4_make 39 = .ok (.iload_n 1, 1) := fchk_d fw_dX4_make_0_c (39, .iload_n 1, 1) (List.mem_of_getElem? (i := 25) rfl)
theorem dX4_make_40 : decode cX4_make 40 = .ok (.aload_n 0, 1) := fchk_d fw_dX4_make_0_c (40, .aload_n 0, 1) (List.mem_of_getElem? (i := 26) rfl)
theorem dX4_make_41 : decode cX4_make 41 = .ok (.getfield 31, 3) := fchk_d fw_dX4_make_0_c (41, .getfield 31, 3) (List.mem_of_getElem? (i := 27) rfl)
theorem dX4_make_44 : decode cX4_make 44 = .ok (.getfield 48, 3) := fchk_d fw_dX4_make_0_c (44, .getfield 48, 3) (List.mem_of_getElem? (i := 28) rfl)
theorem dX4_make_47 : decode cX4_make 47 = .ok (.iload 4, 2) := fchk_d fw_dX4_make_0_c (47, .iload 4, 2) (List.mem_of_getElem? (i := 29) rfl)
theorem dX4_make_49 : decode cX4_make 49 = .ok (.iaload, 1) := fchk_d fw_dX4_make_0_c (49, .iaload, 1) (List.mem_of_getElem? (i := 30) rfl)
theorem dX4_make_50 : decode cX4_make 50 = .ok (.iload_n 2, 1) := fchk_d fw_dX4_make_0_c (50, .iload_n 2, 1) (List.mem_of_getElem? (i := 31) rfl)
theorem dX4_make_51 : decode cX4_make 51 = .ok (.invokevirtual 51, 3) := fchk_d fw_dX4_make_0_c (51, .invokevirtual 51, 3) (List.mem_of_getElem? (i := 32) rfl)
theorem dX4_make_54 : decode cX4_make 54 = .ok (.istore_n 2, 1) := fchk_d fw_dX4_make_0_c (54, .istore_n 2, 1) (List.mem_of_getElem? (i := 33) rfl)
theorem dX4_make_55 : decode cX4_make 55 = .ok (.aload_n 0, 1) := fchk_d fw_dX4_make_0_c (55, .aload_n 0, 1) (List.mem_of_getElem? (i := 34) rfl)
theorem dX4_make_56 : decode cX4_make 56 = .ok (.getfield 21, 3) := fchk_d fw_dX4_make_0_c (56, .getfield 21, 3) (List.mem_of_getElem? (i := 35) rfl)
theorem dX4_make_59 : decode cX4_make 59 = .ok (.iload_n 2, 1) := fchk_d fw_dX4_make_0_c (59, .iload_n 2, 1) (List.mem_of_getElem? (i := 36) rfl)
theorem dX4_make_60 : decode cX4_make 60 = .ok (.dup2, 1) := fchk_d fw_dX4_make_0_c (60, .dup2, 1) (List.mem_of_getElem? (i := 37) rfl)
theorem dX4_make_61 : decode cX4_make 61 = .ok (.iaload, 1) := fchk_d fw_dX4_make_0_c (61, .iaload, 1) (List.mem_of_getElem? (i := 38) rfl)
theorem dX4_make_62 : decode cX4_make 62 = .ok (.iconst 1, 1) := fchk_d fw_dX4_make_0_c (62, .iconst 1, 1) (List.mem_of_getElem? (i := 39) rfl)
def fw_dX4_make_63 : List (Nat × Instr × Nat) := [(63, .iadd, 1), (64, .iastore, 1), (65, .aload_n 0, 1), (66, .getfield 24, 3), (69, .iload 4, 2), (71, .iload_n 2, 1), (72, .iastore, 1)]
theorem fw_dX4_make_63_c : fchk 63 (cX4_make.data.toList.drop 63) fw_dX4_make_63 = true := by decide +kernel
theorem dX4_make_63 : decode cX4_make 63 = .ok (.iadd, 1) := fchk_d fw_dX4_make_63_c (63, .iadd, 1) (List.mem_of_getElem? (i := 0) rfl)
theorem dX4_make_64 : decode cX4_make 64 = .ok (.iastore, 1) := fchk_d fw_dX4_make_63_c (64, .iastore, 1) (List.mem_of_getElem? (i := 1) rfl)
theorem dX4_make_65 : decode cX4_make 65 = .ok (.aload_n 0, 1) := fchk_d fw_dX4_make_63_c (65, .aload_n 0, 1) (List.mem_of_getElem? (i := 2) rfl)
theorem dX4_make_66 : decode cX4_make 66 = .ok (.getfield 24, 3) := fchk_d fw_dX4_make_63_c (66, .getfield 24, 3) (List.mem_of_getElem? (i := 3) rfl)
theorem dX4_make_69 : decode cX4_make 69 = .ok (.iload 4, 2) := fchk_d fw_dX4_make_63_c (69, .iload 4, 2) (List.mem_of_getElem? (i := 4) rfl)
theorem dX4_make_71 : decode cX4_make 71 = .ok (.iload_n 2, 1) := fchk_d fw_dX4_make_63_c (71, .iload_n 2, 1) (List.mem_of_getElem? (i := 5) rfl)
theorem dX4_make_72 : decode cX4_make 72 = .ok (.iastore, 1) := fchk_d fw_dX4_make_63_c (72, .iastore, 1) (List.mem_of_getElem? (i := 6) rfl)
theorem dX4_make_73 : decode cX4_make 73 = .ok (.iinc 3 (-1), 3) := by decide +kernel
def fw_dX4_make_76 : List (Nat × Instr × Nat) := [(76, .goto (-49), 3)]
theorem fw_dX4_make_76_c : fchk 76 (cX4_make.data.toList.drop 76) fw_dX4_make_76 = true := by decide +kernel
theorem dX4_make_76 : decode cX4_make 76 = .ok (.goto (-49), 3) := fchk_d fw_dX4_make_76_c (76, .goto (-49), 3) (List.mem_of_getElem? (i := 0) rfl)
theorem dX4_make_79 : decode cX4_make 79 = .ok (.iinc 1 1, 3) := by decide +kernel
def fw_dX4_make_82 : List (Nat × Instr × Nat) := [(82, .goto (-75), 3), (85, .aload_n 0, 1), (86, .iconst 1, 1), (87, .putfield 55, 3), (90, .return_, 1)]
theorem fw_dX4_make_82_c : fchk 82 (cX4_make.data.toList.drop 82) fw_dX4_make_82 = true := by decide +kernel
theorem dX4_make_82 : decode cX4_make 82 = .ok (.goto (-75), 3) := fchk_d fw_dX4_make_82_c (82, .goto (-75), 3) (List.mem_of_getElem? (i := 0) rfl)
theorem dX4_make_85 : decode cX4_make 85 = .ok (.aload_n 0, 1) := fchk_d fw_dX4_make_82_c (85, .aload_n 0, 1) (List.mem_of_getElem? (i := 1) rfl)
theorem dX4_make_86 : decode cX4_make 86 = .ok (.iconst 1, 1) := fchk_d fw_dX4_make_82_c (86, .iconst 1, 1) (List.mem_of_getElem? (i := 2) rfl)
theorem dX4_make_87 : decode cX4_make 87 = .ok (.putfield 55, 3) := fchk_d fw_dX4_make_82_c (87, .putfield 55, 3) (List.mem_of_getElem? (i := 3) rfl)
theorem dX4_make_90 : decode cX4_make 90 = .ok (.return_, 1) := fchk_d fw_dX4_make_82_c (90, .return_, 1) (List.mem_of_getElem? (i := 4) rfl)
set_option maxRecDepth 20000 in
theorem ggX4_findOrAdd_X4_hasSameActs : GoodIn wsX4_findOrAdd wsX4_hasSameActs := goodIn_r _ [10, 4, 11, 3, 12, 13, 14, 15, 16, 17, 18, 19, 20, 21, 22, 23, 9, 24, 25, 26, 27, 28, 29, 30, 31, 32, 33, 34, 35, 36, 37, 38, 39, 40, 41, 42, 43, 44, 45, 46, 47, 48, 49, 50, 51] rfl (by decide +kernel)
set_option maxRecDepth 20000 in
theorem gX4_findOrAdd_X4_hasSameActs : GoodIn wsX4_findOrAdd (wsV RX4 59 RX4 yX4_hasSameActs wsX4_hasSameActs) := goodIn_app (goodIn_of _ (by decide +kernel)) ggX4_findOrAdd_X4_hasSameActs
def fw_dX4_findOrAdd_0 : List (Nat × Instr × Nat) := [(0, .iconst 0, 1), (1, .istore 4, 2), (3, .iload 4, 2), (5, .aload_n 0, 1), (6, .getfield 35, 3), (9, .if_icmp .ge 34, 3), (12, .aload_n 0, 1), (13, .getfield 18, 3), (16, .iload 4, 2), (18, .iaload, 1), (19, .iload_n 3, 1), (20, .if_icmp .ne 17, 3), (23, .aload_n 0, 1), (24, .iload 4, 2), (26, .iload_n 1, 1), (27, .iload_n 2, 1), (28, .invokevirtual 59, 3), (31, .ifCond .eq 6, 3), (34, .iload 4, 2), (36, .ireturn, 1)]
theorem fw_dX4_findOrAdd_0_c : fchk 0 (cX4_findOrAdd.data.toList.drop 0) fw_dX4_findOrAdd_0 = true := by decide +kernel
theorem dX4_findOrAdd_0 : decode cX4_findOrAdd 0 = .ok (.iconst 0, 1) := fchk_d fw_dX4_findOrAdd_0_c (0, .iconst 0, 1) (List.mem_of_getElem? (i := 0) rfl)
theorem dX4_findOrAdd_1 : decode cX4_findOrAdd 1 = .ok (.istore 4, 2) := fchk_d fw_dX4_findOrAdd_0_c (1, .istore 4, 2) (List.mem_of_getElem? (i := 1) rfl)
theorem dX4_findOrAdd_3 : decode cX4_findOrAdd 3 = .ok (.iload 4, 2) := fchk_d fw_dX4_findOrAdd_0_c (3, .iload 4, 2) (List.mem_of_getElem? (i := 2) rfl)
theorem dX4_findOrAdd_5 : decode cX4_findOrAdd 5 = .ok (.aload_n 0, 1) := fchk_d fw_dX4_findOrAdd_0_c (5, .aload_n 0, 1) (List.mem_of_getElem? (i := 3) rfl)
theorem dX4_findOrAdd_6 : decode cX4_findOrAdd 6 = .ok (.getfield 35, 3) := fchk_d fw_dX4_findOrAdd_0_c (6, .getfield 35, 3) (List.mem_of_getElem? (i := 4) rfl)
theorem dX4_findOrAdd_9 : decode cX4_findOrAdd 9 = .ok (.if_icmp .ge 34, 3) := fchk_d fw_dX4_findOrAdd_0_c (9, .if_icmp .ge 34, 3) (List.mem_of_getElem? (i := 5) rfl)
theorem dX4_findOrAdd_12 : decode cX4_findOrAdd 12 = .ok (.aload_n 0, 1) := fchk_d fw_dX4_findOrAdd_0_c (12, .aload_n 0, 1) (List.mem_of_getElem? (i := 6) rfl)
theorem dX4_findOrAdd_13 : decode cX4_findOrAdd 13 = .ok (.getfield 18, 3) := fchk_d fw_dX4_findOrAdd_0_c (13, .getfield 18, 3) (List.mem_of_getElem? (i := 7) rfl)
theorem dX4_findOrAdd_16 : decode cX4_findOrAdd 16 = .ok (.iload 4, 2) := fchk_d fw_dX4_findOrAdd_0_c (16, .iload 4, 2) (List.mem_of_getElem? (i := 8) rfl)
theorem dX4_findOrAdd_18 : decode cX4_findOrAdd 18 = .ok (.iaload, 1) := fchk_d fw_dX4_findOrAdd_0_c (18, .iaload, 1) (List.mem_of_getElem? (i := 9) rfl)
theorem dX4_findOrAdd_19 : decode cX4_findOrAdd 19 = .ok (.iload_n 3, 1) := fchk_d fw_dX4_findOrAdd_0_c (19, .iload_n 3, 1) (List.mem_of_getElem? (i := 10) rfl)
theorem dX4_findOrAdd_20 : decode cX4_findOrAdd 20 = .ok (.if_icmp .ne 17, 3) := fchk_d fw_dX4_findOrAdd_0_c (20, .if_icmp .ne 17, 3) (List.mem_of_getElem? (i := 11) rfl)
theorem dX4_findOrAdd_23 : decode cX4_findOrAdd 23 = .ok (.aload_n 0, 1) := fchk_d fw_dX4_findOrAdd_0_c (23, .aload_n 0, 1) (List.mem_of_getElem? (i := 12) rfl)
theorem dX4_findOrAdd_24 : decode cX4_findOrAdd 24 = .ok (.iload 4, 2) := fchk_d fw_dX4_findOrAdd_0_c (24, .iload 4, 2) (List.mem_of_getElem? (i := 13) rfl)
theorem dX4_findOrAdd_26 : decode cX4_findOrAdd 26 = .ok (.iload_n 1, 1) := fchk_d fw_dX4_findOrAdd_0_c (26, .iload_n 1, 1) (List.mem_of_getElem? (i := 14) rfl)
theorem dX4_findOrAdd_27 : decode cX4_findOrAdd 27 = .ok (.iload_n 2, 1) := fchk_d fw_dX4_findOrAdd_0_c (27, .iload_n 2, 1) (List.mem_of_getElem? (i := 15) rfl)
theorem dX4_findOrAdd_28 : decode cX4_findOrAdd 28 = .ok (.invokevirtual 59, 3) := fchk_d fw_dX4_findOrAdd_0_c (28, .invokevirtual 59, 3) (List.mem_of_getElem? (i := 16) rfl)
theorem dX4_findOrAdd_31 : decode cX4_findOrAdd 31 = .ok (.ifCond .eq 6, 3) := fchk_d fw_dX4_findOrAdd_0_c (31, .ifCond .eq 6, 3) (List.mem_of_getElem? (i := 17) rfl)
theorem dX4_findOrAdd_34 : decode cX4_findOrAdd 34 = .ok (.iload 4, 2) := fchk_d fw_dX4_findOrAdd_0_c (34, .iload 4, 2) (List.mem_of_getElem? (i := 18) rfl)
theorem dX4_findOrAdd_36 : decode cX4_findOrAdd 36 = .ok (.ireturn, 1) := fchk_d fw_dX4_findOrAdd_0_c (36, .ireturn, 1) (List.mem_of_getElem? (i := 19) rfl)
theorem dX4_findOrAdd_37 : decode cX4_findOrAdd 37 = .ok (.iinc 4 1, 3) := by decide +kernel
def fw_dX4_findOrAdd_40 : List (Nat × Instr × Nat) := [(40, .goto (-37), 3), (43, .aload_n 0, 1), (44, .getfield 9, 3), (47, .aload_n 0, 1), (48, .getfield 35, 3), (51, .iload_n 1, 1), (52, .iastore, 1), (53, .aload_n 0, 1), (54, .getfield 15, 3), (57, .aload_n 0, 1), (58, .getfield 35, 3), (61, .iload_n 2, 1), (62, .iastore, 1), (63, .aload_n 0, 1), (64, .getfield 18, 3), (67, .aload_n 0, 1), (68, .getfield 35, 3), (71, .iload_n 3, 1), (72, .iastore, 1), (73, .aload_n 0, 1), (74, .getfield 21, 3), (77, .aload_n 0, 1), (78, .getfield 35, 3), (81, .iconst 0, 1), (82, .iastore, 1), (83, .aload_n 0, 1), (84, .dup, 1), (85, .getfield 35, 3), (88, .iconst 1, 1), (89, .iadd, 1), (90, .putfield 35, 3), (93, .aload_n 0, 1), (94, .getfield 35, 3), (97, .iconst 1, 1), (98, .isub, 1), (99, .ireturn, 1)]
theorem fw_dX4_findOrAdd_40_c : fchk 40 (cX4_findOrAdd.data.toList.drop 40) fw_dX4_findOrAdd_40 = true := by decide +kernel
theorem dX4_findOrAdd_40 : decode cX4_findOrAdd 40 = .ok (.goto (-37), 3) := fchk_d fw_dX4_findOrAdd_40_c (40, .goto (-37), 3) (List.mem_of_getElem? (i := 0) rfl)
theorem dX4_findOrAdd_43 : decode cX4_findOrAdd 43 = .ok (.aload_n 0, 1) := fchk_d fw_dX4_findOrAdd_40_c (43, .aload_n 0, 1) (List.mem_of_getElem? (i := 1) rfl)
theorem dX4_findOrAdd_44 : decode cX4_findOrAdd 44 = .ok (.getfield 9, 3) := fchk_d fw_dX4_findOrAdd_40_c (44, .getfield 9, 3) (List.mem_of_getElem? (i := 2) rfl)
theorem dX4_findOrAdd_47 : decode cX4_findOrAdd 47 = .ok (.aload_n 0, 1) := fchk_d fw_dX4_findOrAdd_40_c (47, .aload_n 0, 1) (List.mem_of_getElem? (i := 3) rfl)
theorem dX4_findOrAdd_48 : decode cX4_findOrAdd 48 = .ok (.getfield 35, 3) := fchk_d fw_dX4_findOrAdd_40_c (48, .getfield 35, 3) (List.mem_of_getElem? (i := 4) rfl)
theorem dX4_findOrAdd_51 : decode cX4_findOrAdd 51 = .ok (.iload_n 1, 1) := fchk_d fw_dX4_findOrAdd_40_c (51, .iload_n 1, 1) (List.mem_of_getElem? (i := 5) rfl)
theorem dX4_findOrAdd_52 : decode cX4_findOrAdd 52 = .ok (.iastore, 1) := fchk_d fw_dX4_findOrAdd_40_c (52, .iastore, 1) (List.mem_of_getElem? (i := 6) rfl)
theorem dX4_findOrAdd_53 : decode cX4_findOrAdd 53 = .ok (.aload_n 0, 1) := fchk_d fw_dX4_findOrAdd_40_c (53, .aload_n 0, 1) (List.mem_of_getElem? (i := 7) rfl)
theorem dX4_findOrAdd_54 : decode cX4_findOrAdd 54 = .ok (.getfield 15, 3) := fchk_d fw_dX4_findOrAdd_40_c (54, .getfield 15, 3) (List.mem_of_getElem? (i := 8) rfl)
theorem dX4_findOrAdd_57 : decode cX4_findOrAdd 57 = .ok (.aload_n 0, 1) := fchk_d fw_dX4_findOrAdd_40_c (57, .aload_n 0, 1) (List.mem_of_getElem? (i := 9) rfl)
theorem dX4_findOrAdd_58 : decode cX4_findOrAdd 58 = .ok (.getfield 35, 3) := fchk_d fw_dX4_findOrAdd_40_c (58, .getfield 35, 3) (List.mem_of_getElem? (i := 10) rfl)
theorem dX4_findOrAdd_61 : decode cX4_findOrAdd 61 = .ok (.iload_n 2, 1) := fchk_d fw_dX4_findOrAdd_40_c (61, .iload_n 2, 1) (List.mem_of_getElem? (i := 11) rfl)
theorem dX4_findOrAdd_62 : decode cX4_findOrAdd 62 = .ok (.iastore, 1) := fchk_d fw_dX4_findOrAdd_40_c (62, .iastore, 1) (List.mem_of_getElem? (i := 12) rfl)
theorem dX4_findOrAdd_63 : decode cX4_findOrAdd 63 = .ok (.aload_n 0, 1) := fchk_d fw_dX4_findOrAdd_40_c (63, .aload_n 0, 1) (List.mem_of_getElem? (i := 13) rfl)
theorem dX4_findOrAdd_64 : decode cX4_findOrAdd 64 = .ok (.getfield 18, 3) := fchk_d fw_dX4_findOrAdd_40_c (64, .getfield 18, 3) (List.mem_of_getElem? (i := 14) rfl)
theorem dX4_findOrAdd_67 : decode cX4_findOrAdd 67 = .ok (.aload_n 0, 1) := fchk_d fw_dX4_findOrAdd_40_c (67, .aload_n 0, 1) (List.mem_of_getElem? (i := 15) rfl)
theorem dX4_findOrAdd_68 : decode cX4_findOrAdd 68 = .ok (.getfield 35, 3) := fchk_d fw_dX4_findOrAdd_40_c (68, .getfield 35, 3) (List.mem_of_getElem? (i := 16) rfl)
theorem dX4_findOrAdd_71 : decode cX4_findOrAdd 71 = .ok (.iload_n 3, 1) := fchk_d fw_dX4_findOrAdd_40_c (71, .iload_n 3, 1) (List.mem_of_getElem? (i := 17) rfl)
theorem dX4_findOrAdd_72 : decode cX4_findOrAdd 72 = .ok (.iastore, 1) := fchk_d fw_dX4_findOrAdd_40_c (72, .iastore, 1) (List.mem_of_getElem? (i := 18) rfl)
theorem dX4_findOrAdd_73 : decode cX4_findOrAdd 73 = .ok (.aload_n 0, 1) := fchk_d fw_dX4_findOrAdd_40_c (73, .aload_n 0, 1) (List.mem_of_getElem? (i := 19) rfl)
theorem dX4_findOrAdd_74 : decode cX4_findOrAdd 74 = .ok (.getfield 21, 3) := fchk_d fw_dX4_findOrAdd_40_c (74, .getfield 21, 3) (List.mem_of_getElem? (i := 20) rfl)
theorem dX4_findOrAdd_77 : decode cX4_findOrAdd 77 = .ok (.aload_n 0, 1) := fchk_d fw_dX4_findOrAdd_40_c (77, .aload_n 0, 1) (List.mem_of_getElem? (i := 21) rfl)
theorem dX4_findOrAdd_78 : decode cX4_findOrAdd 78 = .ok (.getfield 35, 3) := fchk_d fw_dX4_findOrAdd_40_c (78, .getfield 35, 3) (List.mem_of_getElem? (i := 22) rfl)
theorem dX4_findOrAdd_81 : decode cX4_findOrAdd 81 = .ok (.iconst 0, 1) := fchk_d fw_dX4_findOrAdd_40_c (81, .iconst 0, 1) (List.mem_of_getElem? (i := 23) rfl)
theorem dX4_findOrAdd_82 : decode cX4_findOrAdd 82 = .ok (.iastore, 1) := fchk_d fw_dX4_findOrAdd_40_c (82, .iastore, 1) (List.mem_of_getElem? (i := 24) rfl)
theorem dX4_findOrAdd_83 : decode cX4_findOrAdd 83 = .ok (.aload_n 0, 1) := fchk_d fw_dX4_findOrAdd_40_c (83, .aload_n 0, 1) (List.mem_of_getElem? (i := 25) rfl)
theorem dX4_findOrAdd_84 : decode cX4_findOrAdd 84 = .ok (.dup, 1) := fchk_d fw_dX4_findOrAdd_40_c (84, .dup, 1) (List.mem_of_getElem? (i := 26) rfl)
theorem dX4_findOrAdd_85 : decode cX4_findOrAdd 85 = .ok (.getfield 35, 3) := fchk_d fw_dX4_findOrAdd_40_c (85, .getfield 35, 3) (List.mem_of_getElem? (i := 27) rfl)
theorem dX4_findOrAdd_88 : decode cX4_findOrAdd 88 = .ok (.iconst 1, 1) := fchk_d fw_dX4_findOrAdd_40_c (88, .iconst 1, 1) (List.mem_of_getElem? (i := 28) rfl)
theorem dX4_findOrAdd_89 : decode cX4_findOrAdd 89 = .ok (.iadd, 1) := fchk_d fw_dX4_findOrAdd_40_c (89, .iadd, 1) (List.mem_of_getElem? (i := 29) rfl)
theorem dX4_findOrAdd_90 : decode cX4_findOrAdd 90 = .ok (.putfield 35, 3) := fchk_d fw_dX4_findOrAdd_40_c (90, .putfield 35, 3) (List.mem_of_getElem? (i := 30) rfl)
theorem dX4_findOrAdd_93 : decode cX4_findOrAdd 93 = .ok (.aload_n 0, 1) := fchk_d fw_dX4_findOrAdd_40_c (93, .aload_n 0, 1) (List.mem_of_getElem? (i := 31) rfl)
theorem dX4_findOrAdd_94 : decode cX4_findOrAdd 94 = .ok (.getfield 35, 3) := fchk_d fw_dX4_findOrAdd_40_c (94, .getfield 35, 3) (List.mem_of_getElem? (i := 32) rfl)
theorem dX4_findOrAdd_97 : decode cX4_findOrAdd 97 = .ok (.iconst 1, 1) := fchk_d fw_dX4_findOrAdd_40_c (97, .iconst 1, 1) (List.mem_of_getElem? (i := 33) rfl)
theorem dX4_findOrAdd_98 : decode cX4_findOrAdd 98 = .ok (.isub, 1) := fchk_d fw_dX4_findOrAdd_40_c (98, .isub, 1) (List.mem_of_getElem? (i := 34) rfl)
theorem dX4_findOrAdd_99 : decode cX4_findOrAdd 99 = .ok (.ireturn, 1) := fchk_d fw_dX4_findOrAdd_40_c (99, .ireturn, 1) (List.mem_of_getElem? (i := 35) rfl)
set_option maxRecDepth 20000 in
theorem ggX4_hasSameActs_J6_bitCount_0f7a4 : GoodIn wsX4_hasSameActs wsJ6_bitCount_0f7a4 := goodIn_r _ [7, 8, 9, 10] rfl (by decide +kernel)
set_option maxRecDepth 20000 in
theorem gX4_hasSameActs_J6_bitCount_0f7a4 : GoodIn wsX4_hasSameActs (va_wsS RX4 63 yJ6_bitCount_0f7a4 wsJ6_bitCount_0f7a4) := goodIn_app (goodIn_of _ (by decide +kernel)) ggX4_hasSameActs_J6_bitCount_0f7a4
set_option maxRecDepth 20000 in
theorem ggX4_hasSameActs_X7_isIn : GoodIn wsX4_hasSameActs wsX7_isIn := goodIn_r _ [13] rfl (by decide +kernel)
set_option maxRecDepth 20000 in
theorem gX4_hasSameActs_X7_isIn_n69 : GoodIn wsX4_hasSameActs (wsX7_isIn) := ggX4_hasSameActs_X7_isIn
set_option maxRecDepth 20000 in
theorem ggX4_hasSameActs_X4_firstIn : GoodIn wsX4_hasSameActs wsX4_firstIn := goodIn_r _ [17, 11, 12, 13] rfl (by decide +kernel)
set_option maxRecDepth 20000 in
theorem gX4_hasSameActs_X4_firstIn : GoodIn wsX4_hasSameActs (va_wsS RX4 73 yX4_firstIn wsX4_firstIn) := goodIn_app (goodIn_of _ (by decide +kernel)) ggX4_hasSameActs_X4_firstIn
set_option maxRecDepth 20000 in
theorem ggX4_hasSameActs_X7_slot : GoodIn wsX4_hasSameActs wsX7_slot := goodIn_r _ [19] rfl (by decide +kernel)
set_option maxRecDepth 20000 in
theorem gX4_hasSameActs_X7_slot_n44 : GoodIn wsX4_hasSameActs (wsX7_slot) := ggX4_hasSameActs_X7_slot
set_option maxRecDepth 20000 in
theorem ggX4_hasSameActs_X5_same : GoodIn wsX4_hasSameActs wsX5_same := goodIn_r _ [24, 25, 26, 27, 28, 38, 39, 40, 41, 42, 43, 44] rfl (by decide +kernel)
set_option maxRecDepth 20000 in
theorem gX4_hasSameActs_X5_same : GoodIn wsX4_hasSameActs (wsV RX4 76 RX5 yX5_same wsX5_same) := goodIn_app (goodIn_of _ (by decide +kernel)) ggX4_hasSameActs_X5_same
def fw_dX4_hasSameActs_0 : List (Nat × Instr × Nat) := [(0, .aload_n 0, 1), (1, .getfield 15, 3), (4, .iload_n 1, 1), (5, .iaload, 1), (6, .istore 4, 2), (8, .iload 4, 2), (10, .invokestatic 63, 3), (13, .iload_n 3, 1), (14, .invokestatic 63, 3), (17, .if_icmp .eq 5, 3), (20, .iconst 0, 1), (21, .ireturn, 1), (22, .iconst 0, 1), (23, .istore 5, 2), (25, .iconst 0, 1), (26, .istore 6, 2), (28, .iload 6, 2), (30, .bipush 10, 2), (32, .if_icmp .ge 59, 3), (35, .iload_n 3, 1), (36, .iload 6, 2), (38, .invokestatic 69, 3), (41, .ifCond .eq 44, 3), (44, .iload 4, 2), (46, .iload 5, 2), (48, .invokestatic 73, 3), (51, .istore 5, 2), (53, .aload_n 0, 1), (54, .getfield 27, 3), (57, .iload_n 2, 1), (58, .iload 6, 2), (60, .invokestatic 44, 3), (63, .aload_n 0, 1), (64, .getfield 9, 3), (67, .iload_n 1, 1), (68, .iaload, 1), (69, .iload 5, 2), (71, .invokestatic 44, 3), (74, .invokevirtual 76, 3), (77, .ifCond .ne 5, 3)]
theorem fw_dX4_hasSameActs_0_c : fchk 0 (cX4_hasSameActs.data.toList.drop 0) fw_dX4_hasSameActs_0 = true := by decide +kernel
theorem dX4_hasSameActs_0 : decode cX4_hasSameActs 0 = .ok (.aload_n 0, 1) := fchk_d fw_dX4_hasSameActs_0_c (0, .aload_n 0, 1) (List.mem_of_getElem? (i := 0) rfl)
theorem dX4_hasSameActs_1 : decode cX4_hasSameActs 1 = .ok (.getfield 15, 3) := fchk_d fw_dX4_hasSameActs_0_c (1, .getfield 15, 3) (List.mem_of_getElem? (i := 1) rfl)
theorem dX4_hasSameActs_4 : decode cX4_hasSameActs 4 = .ok (.iload_n 1, 1) := fchk_d fw_dX4_hasSameActs_0_c (4, .iload_n 1, 1) (List.mem_of_getElem? (i := 2) rfl)
theorem dX4_hasSameActs_5 : decode cX4_hasSameActs 5 = .ok (.iaload, 1) := fchk_d fw_dX4_hasSameActs_0_c (5, .iaload, 1) (List.mem_of_getElem? (i := 3) rfl)
theorem dX4_hasSameActs_6 : decode cX4_hasSameActs 6 = .ok (.istore 4, 2) := fchk_d fw_dX4_hasSameActs_0_c (6, .istore 4, 2) (List.mem_of_getElem? (i := 4) rfl)
theorem dX4_hasSameActs_8 : decode cX4_hasSameActs 8 = .ok (.iload 4, 2) := fchk_d fw_dX4_hasSameActs_0_c (8, .iload 4, 2) (List.mem_of_getElem? (i := 5) rfl)
theorem dX4_hasSameActs_10 : decode cX4_hasSameActs 10 = .ok (.invokestatic 63, 3) := fchk_d fw_dX4_hasSameActs_0_c (10, .invokestatic 63, 3) (List.mem_of_getElem? (i := 6) rfl)
theorem dX4_hasSameActs_13 : decode cX4_hasSameActs 13 = .ok (.iload_n 3, 1) := fchk_d fw_dX4_hasSameActs_0_c (13, .iload_n 3, 1) (List.mem_of_getElem? (i := 7) rfl)
theorem dX4_hasSameActs_14 : decode cX4_hasSameActs 14 = .ok (.invokestatic 63, 3) := fchk_d fw_dX4_hasSameActs_0_c (14, .invokestatic 63, 3) (List.mem_of_getElem? (i := 8) rfl)
theorem dX4_hasSameActs_17 : decode cX4_hasSameActs 17 = .ok (.if_icmp .eq 5, 3) := fchk_d fw_dX4_hasSameActs_0_c (17, .if_icmp .eq 5, 3) (List.mem_of_getElem? (i := 9) rfl)
theorem dX4_hasSameActs_20 : decode cX4_hasSameActs 20 = .ok (.iconst 0, 1) := fchk_d fw_dX4_hasSameActs_0_c (20, .iconst 0, 1) (List.mem_of_getElem? (i := 10) rfl)
theorem dX4_hasSameActs_21 : decode cX4_hasSameActs 21 = .ok (.ireturn, 1) := fchk_d fw_dX4_hasSameActs_0_c (21, .ireturn, 1) (List.mem_of_getElem? (i := 11) rfl)
theorem dX4_hasSameActs_22 : decode cX4_hasSameActs 22 = .ok (.iconst 0, 1) := fchk_d fw_dX4_hasSameActs_0_c (22, .iconst 0, 1) (List.mem_of_getElem? (i := 12) rfl)
theorem dX4_hasSameActs_23 : decode cX4_hasSameActs 23 = .ok (.istore 5, 2) := fchk_d fw_dX4_hasSameActs_0_c (23, .istore 5, 2) (List.mem_of_getElem? (i := 13) rfl)
theorem dX4_hasSameActs_25 : decode cX4_hasSameActs 25 = .ok (.iconst 0, 1) := fchk_d fw_dX4_hasSameActs_0_c (25, .iconst 0, 1) (List.mem_of_getElem? (i := 14) rfl)
theorem dX4_hasSameActs_26 : decode cX4_hasSameActs 26 = .ok (.istore 6, 2) := fchk_d fw_dX4_hasSameActs_0_c (26, .istore 6, 2) (List.mem_of_getElem? (i := 15) rfl)
theorem dX4_hasSameActs_28 : decode cX4_hasSameActs 28 = .ok (.iload 6, 2) := fchk_d fw_dX4_hasSameActs_0_c (28, .iload 6, 2) (List.mem_of_getElem? (i := 16) rfl)
theorem dX4_hasSameActs_30 : decode cX4_hasSameActs 30 = .ok (.bipush 10, 2) := fchk_d fw_dX4_hasSameActs_0_c (30, .bipush 10, 2) (List.mem_of_getElem? (i := 17) rfl)
theorem dX4_hasSameActs_32 : decode cX4_hasSameActs 32 = .ok (.if_icmp .ge 59, 3) := fchk_d fw_dX4_hasSameActs_0_c (32, .if_icmp .ge 59, 3) (List.mem_of_getElem? (i := 18) rfl)
theorem dX4_hasSameActs_35 : decode cX4_hasSameActs 35 = .ok (.iload_n 3, 1) := fchk_d fw_dX4_hasSameActs_0_c (35, .iload_n 3, 1) (List.mem_of_getElem? (i := 19) rfl)
theorem dX4_hasSameActs_36 : decode cX4_hasSameActs 36 = .ok (.iload 6, 2) := fchk_d fw_dX4_hasSameActs_0_c (36, .iload 6, 2) (List.mem_of_getElem? (i := 20) rfl)
theorem dX4_hasSameActs_38 : decode cX4_hasSameActs 38 = .ok (.invokestatic 69, 3) := fchk_d fw_dX4_hasSameActs_0_c (38, .invokestatic 69, 3) (List.mem_of_getElem? (i := 21) rfl)
theorem dX4_hasSameActs_41 : decode cX4_hasSameActs 41 = .ok (.ifCond .eq 44, 3) := fchk_d fw_dX4_hasSameActs_0_c (41, .ifCond .eq 44, 3) (List.mem_of_getElem? (i := 22) rfl)
theorem dX4_hasSameActs_44 : decode cX4_hasSameActs 44 = .ok (.iload 4, 2) := fchk_d fw_dX4_hasSameActs_0_c (44, .iload 4, 2) (List.mem_of_getElem? (i := 23) rfl)
theorem dX4_hasSameActs_46 : decode cX4_hasSameActs 46 = .ok (.iload 5, 2) := fchk_d fw_dX4_hasSameActs_0_c (46, .iload 5, 2) (List.mem_of_getElem? (i := 24) rfl)
theorem dX4_hasSameActs_48 : decode cX4_hasSameActs 48 = .ok (.invokestatic 73, 3) := fchk_d fw_dX4_hasSameActs_0_c (48, .invokestatic 73, 3) (List.mem_of_getElem? (i := 25) rfl)
theorem dX4_hasSameActs_51 : decode cX4_hasSameActs 51 = .ok (.istore 5, 2) := fchk_d fw_dX4_hasSameActs_0_c (51, .istore 5, 2) (List.mem_of_getElem? (i := 26) rfl)
theorem dX4_hasSameActs_53 : decode cX4_hasSameActs 53 = .ok (.aload_n 0, 1) := fchk_d fw_dX4_hasSameActs_0_c (53, .aload_n 0, 1) (List.mem_of_getElem? (i := 27) rfl)
theorem dX4_hasSameActs_54 : decode cX4_hasSameActs 54 = .ok (.getfield 27, 3) := fchk_d fw_dX4_hasSameActs_0_c (54, .getfield 27, 3) (List.mem_of_getElem? (i := 28) rfl)
theorem dX4_hasSameActs_57 : decode cX4_hasSameActs 57 = .ok (.iload_n 2, 1) := fchk_d fw_dX4_hasSameActs_0_c (57, .iload_n 2, 1) (List.mem_of_getElem? (i := 29) rfl)
theorem dX4_hasSameActs_58 : decode cX4_hasSameActs 58 = .ok (.iload 6, 2) := fchk_d fw_dX4_hasSameActs_0_c (58, .iload 6, 2) (List.mem_of_getElem? (i := 30) rfl)
theorem dX4_hasSameActs_60 : decode cX4_hasSameActs 60 = .ok (.invokestatic 44, 3) := fchk_d fw_dX4_hasSameActs_0_c (60, .invokestatic 44, 3) (List.mem_of_getElem? (i := 31) rfl)
theorem dX4_hasSameActs_63 : decode cX4_hasSameActs 63 = .ok (.aload_n 0, 1) := fchk_d fw_dX4_hasSameActs_0_c (63, .aload_n 0, 1) (List.mem_of_getElem? (i := 32) rfl)
theorem dX4_hasSameActs_64 : decode cX4_hasSameActs 64 = .ok (.getfield 9, 3) := fchk_d fw_dX4_hasSameActs_0_c (64, .getfield 9, 3) (List.mem_of_getElem? (i := 33) rfl)
theorem dX4_hasSameActs_67 : decode cX4_hasSameActs 67 = .ok (.iload_n 1, 1) := fchk_d fw_dX4_hasSameActs_0_c (67, .iload_n 1, 1) (List.mem_of_getElem? (i := 34) rfl)
theorem dX4_hasSameActs_68 : decode cX4_hasSameActs 68 = .ok (.iaload, 1) := fchk_d fw_dX4_hasSameActs_0_c (68, .iaload, 1) (List.mem_of_getElem? (i := 35) rfl)
theorem dX4_hasSameActs_69 : decode cX4_hasSameActs 69 = .ok (.iload 5, 2) := fchk_d fw_dX4_hasSameActs_0_c (69, .iload 5, 2) (List.mem_of_getElem? (i := 36) rfl)
theorem dX4_hasSameActs_71 : decode cX4_hasSameActs 71 = .ok (.invokestatic 44, 3) := fchk_d fw_dX4_hasSameActs_0_c (71, .invokestatic 44, 3) (List.mem_of_getElem? (i := 37) rfl)
theorem dX4_hasSameActs_74 : decode cX4_hasSameActs 74 = .ok (.invokevirtual 76, 3) := fchk_d fw_dX4_hasSameActs_0_c (74, .invokevirtual 76, 3) (List.mem_of_getElem? (i := 38) rfl)
theorem dX4_hasSameActs_77 : decode cX4_hasSameActs 77 = .ok (.ifCond .ne 5, 3) := fchk_d fw_dX4_hasSameActs_0_c (77, .ifCond .ne 5, 3) (List.mem_of_getElem? (i := 39) rfl)
def fw_dX4_hasSameActs_80 : List (Nat × Instr × Nat) := [(80, .iconst 0, 1), (81, .ireturn, 1)]
theorem fw_dX4_hasSameActs_80_c : fchk 80 (cX4_hasSameActs.data.toList.drop 80) fw_dX4_hasSameActs_80 = true := by decide +kernel
theorem dX4_hasSameActs_80 : decode cX4_hasSameActs 80 = .ok (.iconst 0, 1) := fchk_d fw_dX4_hasSameActs_80_c (80, .iconst 0, 1) (List.mem_of_getElem? (i := 0) rfl)
theorem dX4_hasSameActs_81 : decode cX4_hasSameActs 81 = .ok (.ireturn, 1) := fchk_d fw_dX4_hasSameActs_80_c (81, .ireturn, 1) (List.mem_of_getElem? (i := 1) rfl)
theorem dX4_hasSameActs_82 : decode cX4_hasSameActs 82 = .ok (.iinc 5 1, 3) := by decide +kernel
theorem dX4_hasSameActs_85 : decode cX4_hasSameActs 85 = .ok (.iinc 6 1, 3) := by decide +kernel
def fw_dX4_hasSameActs_88 : List (Nat × Instr × Nat) := [(88, .goto (-60), 3), (91, .iconst 1, 1), (92, .ireturn, 1)]
theorem fw_dX4_hasSameActs_88_c : fchk 88 (cX4_hasSameActs.data.toList.drop 88) fw_dX4_hasSameActs_88 = true := by decide +kernel
theorem dX4_hasSameActs_88 : decode cX4_hasSameActs 88 = .ok (.goto (-60), 3) := fchk_d fw_dX4_hasSameActs_88_c (88, .goto (-60), 3) (List.mem_of_getElem? (i := 0) rfl)
theorem dX4_hasSameActs_91 : decode cX4_hasSameActs 91 = .ok (.iconst 1, 1) := fchk_d fw_dX4_hasSameActs_88_c (91, .iconst 1, 1) (List.mem_of_getElem? (i := 1) rfl)
theorem dX4_hasSameActs_92 : decode cX4_hasSameActs 92 = .ok (.ireturn, 1) := fchk_d fw_dX4_hasSameActs_88_c (92, .ireturn, 1) (List.mem_of_getElem? (i := 2) rfl)
set_option maxRecDepth 20000 in
theorem ggX4_firstIn_X7_isIn : GoodIn wsX4_firstIn wsX7_isIn := goodIn_r _ [3] rfl (by decide +kernel)
set_option maxRecDepth 20000 in
theorem gX4_firstIn_X7_isIn_n69 : GoodIn wsX4_firstIn (wsX7_isIn) := ggX4_firstIn_X7_isIn
def fw_dX4_firstIn_0 : List (Nat × Instr × Nat) := [(0, .iload_n 1, 1), (1, .istore_n 2, 1), (2, .iload_n 2, 1), (3, .bipush 10, 2), (5, .if_icmp .ge 19, 3), (8, .iload_n 0, 1), (9, .iload_n 2, 1), (10, .invokestatic 69, 3), (13, .ifCond .eq 5, 3), (16, .iload_n 2, 1), (17, .ireturn, 1)]
theorem fw_dX4_firstIn_0_c : fchk 0 (cX4_firstIn.data.toList.drop 0) fw_dX4_firstIn_0 = true := by decide +kernel
theorem dX4_firstIn_0 : decode cX4_firstIn 0 = .ok (.iload_n 1, 1) := fchk_d fw_dX4_firstIn_0_c (0, .iload_n 1, 1) (List.mem_of_getElem? (i := 0) rfl)
theorem dX4_firstIn_1 : decode cX4_firstIn 1 = .ok (.istore_n 2, 1) := fchk_d fw_dX4_firstIn_0_c (1, .istore_n 2, 1) (List.mem_of_getElem? (i := 1) rfl)
theorem dX4_firstIn_2 : decode cX4_firstIn 2 = .ok (.iload_n 2, 1) := fchk_d fw_dX4_firstIn_0_c (2, .iload_n 2, 1) (List.mem_of_getElem? (i := 2) rfl)
theorem dX4_firstIn_3 : decode cX4_firstIn 3 = .ok (.bipush 10, 2) := fchk_d fw_dX4_firstIn_0_c (3, .bipush 10, 2) (List.mem_of_getElem? (i := 3) rfl)
theorem dX4_firstIn_5 : decode cX4_firstIn 5 = .ok (.if_icmp .ge 19, 3) := fchk_d fw_dX4_firstIn_0_c (5, .if_icmp .ge 19, 3) (List.mem_of_getElem? (i := 4) rfl)
theorem dX4_firstIn_8 : decode cX4_firstIn 8 = .ok (.iload_n 0, 1) := fchk_d fw_dX4_firstIn_0_c (8, .iload_n 0, 1) (List.mem_of_getElem? (i := 5) rfl)
theorem dX4_firstIn_9 : decode cX4_firstIn 9 = .ok (.iload_n 2, 1) := fchk_d fw_dX4_firstIn_0_c (9, .iload_n 2, 1) (List.mem_of_getElem? (i := 6) rfl)
theorem dX4_firstIn_10 : decode cX4_firstIn 10 = .ok (.invokestatic 69, 3) := fchk_d fw_dX4_firstIn_0_c (10, .invokestatic 69, 3) (List.mem_of_getElem? (i := 7) rfl)
theorem dX4_firstIn_13 : decode cX4_firstIn 13 = .ok (.ifCond .eq 5, 3) := fchk_d fw_dX4_firstIn_0_c (13, .ifCond .eq 5, 3) (List.mem_of_getElem? (i := 8) rfl)
theorem dX4_firstIn_16 : decode cX4_firstIn 16 = .ok (.iload_n 2, 1) := fchk_d fw_dX4_firstIn_0_c (16, .iload_n 2, 1) (List.mem_of_getElem? (i := 9) rfl)
theorem dX4_firstIn_17 : decode cX4_firstIn 17 = .ok (.ireturn, 1) := fchk_d fw_dX4_firstIn_0_c (17, .ireturn, 1) (List.mem_of_getElem? (i := 10) rfl)
theorem dX4_firstIn_18 : decode cX4_firstIn 18 = .ok (.iinc 2 1, 3) := by decide +kernel
def fw_dX4_firstIn_21 : List (Nat × Instr × Nat) := [(21, .goto (-19), 3), (24, .iconst 0, 1), (25, .ireturn, 1)]
theorem fw_dX4_firstIn_21_c : fchk 21 (cX4_firstIn.data.toList.drop 21) fw_dX4_firstIn_21 = true := by decide +kernel
theorem dX4_firstIn_21 : decode cX4_firstIn 21 = .ok (.goto (-19), 3) := fchk_d fw_dX4_firstIn_21_c (21, .goto (-19), 3) (List.mem_of_getElem? (i := 0) rfl)
theorem dX4_firstIn_24 : decode cX4_firstIn 24 = .ok (.iconst 0, 1) := fchk_d fw_dX4_firstIn_21_c (24, .iconst 0, 1) (List.mem_of_getElem? (i := 1) rfl)
theorem dX4_firstIn_25 : decode cX4_firstIn 25 = .ok (.ireturn, 1) := fchk_d fw_dX4_firstIn_21_c (25, .ireturn, 1) (List.mem_of_getElem? (i := 2) rfl)
