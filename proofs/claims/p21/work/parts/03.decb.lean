def fw_dX5_init_0 : List (Nat × Instr × Nat) := [(0, .aload_n 0, 1), (1, .invokespecial 3, 3), (4, .aload_n 0, 1), (5, .bipush 12, 2)]
theorem fw_dX5_init_0_c : fchk 0 (cX5_init.data.toList.drop 0) fw_dX5_init_0 = true := by decide +kernel
theorem dX5_init_0 : Eq (decode cX5_init 0) (Except.ok (Instr.aload_n 0, 1)) := fE fw_dX5_init_0_c 0 rfl
theorem dX5_init_1 : Eq (decode cX5_init 1) (Except.ok (Instr.invokespecial 3, 3)) := fE fw_dX5_init_0_c 1 rfl
theorem dX5_init_4 : Eq (decode cX5_init 4) (Except.ok (Instr.aload_n 0, 1)) := fE fw_dX5_init_0_c 2 rfl
theorem dX5_init_5 : Eq (decode cX5_init 5) (Except.ok (Instr.bipush 12, 2)) := fE fw_dX5_init_0_c 3 rfl
theorem dX5_init_7 : decode cX5_init 7 = .ok (.newarray .int, 2) := by decide +kernel
def fw_dX5_init_9 : List (Nat × Instr × Nat) := [(9, .putfield 9, 3), (12, .aload_n 0, 1), (13, .bipush 120, 2)]
theorem fw_dX5_init_9_c : fchk 9 (cX5_init.data.toList.drop 9) fw_dX5_init_9 = true := by decide +kernel
theorem dX5_init_9 : Eq (decode cX5_init 9) (Except.ok (Instr.putfield 9, 3)) := fE fw_dX5_init_9_c 0 rfl
theorem dX5_init_12 : Eq (decode cX5_init 12) (Except.ok (Instr.aload_n 0, 1)) := fE fw_dX5_init_9_c 1 rfl
theorem dX5_init_13 : Eq (decode cX5_init 13) (Except.ok (Instr.bipush 120, 2)) := fE fw_dX5_init_9_c 2 rfl
theorem dX5_init_15 : decode cX5_init 15 = .ok (.newarray .int, 2) := by decide +kernel
def fw_dX5_init_17 : List (Nat × Instr × Nat) := [(17, .putfield 15, 3), (20, .aload_n 0, 1), (21, .bipush 120, 2)]
theorem fw_dX5_init_17_c : fchk 17 (cX5_init.data.toList.drop 17) fw_dX5_init_17 = true := by decide +kernel
theorem dX5_init_17 : Eq (decode cX5_init 17) (Except.ok (Instr.putfield 15, 3)) := fE fw_dX5_init_17_c 0 rfl
theorem dX5_init_20 : Eq (decode cX5_init 20) (Except.ok (Instr.aload_n 0, 1)) := fE fw_dX5_init_17_c 1 rfl
theorem dX5_init_21 : Eq (decode cX5_init 21) (Except.ok (Instr.bipush 120, 2)) := fE fw_dX5_init_17_c 2 rfl
theorem dX5_init_23 : decode cX5_init 23 = .ok (.newarray .int, 2) := by decide +kernel
def fw_dX5_init_25 : List (Nat × Instr × Nat) := [(25, .putfield 18, 3), (28, .aload_n 0, 1), (29, .bipush 120, 2)]
theorem fw_dX5_init_25_c : fchk 25 (cX5_init.data.toList.drop 25) fw_dX5_init_25 = true := by decide +kernel
theorem dX5_init_25 : Eq (decode cX5_init 25) (Except.ok (Instr.putfield 18, 3)) := fE fw_dX5_init_25_c 0 rfl
theorem dX5_init_28 : Eq (decode cX5_init 28) (Except.ok (Instr.aload_n 0, 1)) := fE fw_dX5_init_25_c 1 rfl
theorem dX5_init_29 : Eq (decode cX5_init 29) (Except.ok (Instr.bipush 120, 2)) := fE fw_dX5_init_25_c 2 rfl
theorem dX5_init_31 : decode cX5_init 31 = .ok (.newarray .int, 2) := by decide +kernel
def fw_dX5_init_33 : List (Nat × Instr × Nat) := [(33, .putfield 21, 3), (36, .aload_n 0, 1), (37, .bipush 120, 2)]
theorem fw_dX5_init_33_c : fchk 33 (cX5_init.data.toList.drop 33) fw_dX5_init_33 = true := by decide +kernel
theorem dX5_init_33 : Eq (decode cX5_init 33) (Except.ok (Instr.putfield 21, 3)) := fE fw_dX5_init_33_c 0 rfl
theorem dX5_init_36 : Eq (decode cX5_init 36) (Except.ok (Instr.aload_n 0, 1)) := fE fw_dX5_init_33_c 1 rfl
theorem dX5_init_37 : Eq (decode cX5_init 37) (Except.ok (Instr.bipush 120, 2)) := fE fw_dX5_init_33_c 2 rfl
theorem dX5_init_39 : decode cX5_init 39 = .ok (.newarray .int, 2) := by decide +kernel
def fw_dX5_init_41 : List (Nat × Instr × Nat) := [(41, .putfield 24, 3), (44, .aload_n 0, 1), (45, .bipush 120, 2)]
theorem fw_dX5_init_41_c : fchk 41 (cX5_init.data.toList.drop 41) fw_dX5_init_41 = true := by decide +kernel
theorem dX5_init_41 : Eq (decode cX5_init 41) (Except.ok (Instr.putfield 24, 3)) := fE fw_dX5_init_41_c 0 rfl
theorem dX5_init_44 : Eq (decode cX5_init 44) (Except.ok (Instr.aload_n 0, 1)) := fE fw_dX5_init_41_c 1 rfl
theorem dX5_init_45 : Eq (decode cX5_init 45) (Except.ok (Instr.bipush 120, 2)) := fE fw_dX5_init_41_c 2 rfl
theorem dX5_init_47 : decode cX5_init 47 = .ok (.newarray .int, 2) := by decide +kernel
def fw_dX5_init_49 : List (Nat × Instr × Nat) := [(49, .putfield 27, 3), (52, .aload_n 0, 1), (53, .bipush 120, 2)]
theorem fw_dX5_init_49_c : fchk 49 (cX5_init.data.toList.drop 49) fw_dX5_init_49 = true := by decide +kernel
theorem dX5_init_49 : Eq (decode cX5_init 49) (Except.ok (Instr.putfield 27, 3)) := fE fw_dX5_init_49_c 0 rfl
theorem dX5_init_52 : Eq (decode cX5_init 52) (Except.ok (Instr.aload_n 0, 1)) := fE fw_dX5_init_49_c 1 rfl
theorem dX5_init_53 : Eq (decode cX5_init 53) (Except.ok (Instr.bipush 120, 2)) := fE fw_dX5_init_49_c 2 rfl
theorem dX5_init_55 : decode cX5_init 55 = .ok (.newarray .int, 2) := by decide +kernel
def fw_dX5_init_57 : List (Nat × Instr × Nat) := [(57, .putfield 30, 3), (60, .return_, 1)]
theorem fw_dX5_init_57_c : fchk 57 (cX5_init.data.toList.drop 57) fw_dX5_init_57 = true := by decide +kernel
theorem dX5_init_57 : Eq (decode cX5_init 57) (Except.ok (Instr.putfield 30, 3)) := fE fw_dX5_init_57_c 0 rfl
theorem dX5_init_60 : Eq (decode cX5_init 60) (Except.ok (Instr.return_, 1)) := fE fw_dX5_init_57_c 1 rfl
set_option maxRecDepth 20000 in
theorem gi_wsX5_add_0 : GoodIn wsX5_add wsX5_add := goodIn_sub (fun _ h => h) (by decide +kernel)
set_option maxRecDepth 20000 in
theorem gi_wsX5_add_1 : GoodIn wsX5_add wsX50 := goodIn_sub (fun w h => List.mem_cons_of_mem _ (List.mem_append_right _ h)) (by decide +kernel)
def bs_wsX5_add : List (List Cond) := [wsX5_add, wsX50]
theorem bs_wsX5_add_in : ∀ b ∈ bs_wsX5_add, GoodIn wsX5_add b := List.forall_mem_cons.mpr ⟨gi_wsX5_add_0, List.forall_mem_cons.mpr ⟨gi_wsX5_add_1, (fun _ h => absurd h List.not_mem_nil)⟩⟩
set_option maxRecDepth 20000 in
theorem ggX5_add_X7_slot : GoodIn wsX5_add wsX7_slot := goodIn_k (gi_q bs_wsX5_add_in _ [(0, 10)] rfl) (gi_q bs_wsX5_add_in _ [] rfl)
set_option maxRecDepth 20000 in
theorem gX5_add_X7_slot_n33 : GoodIn wsX5_add (wsX7_slot) := ggX5_add_X7_slot
set_option maxRecDepth 20000 in
theorem ggX5_add_X5_readsOf : GoodIn wsX5_add wsX5_readsOf := goodIn_k (gi_q bs_wsX5_add_in _ [(0, 14)] rfl) (gi_q bs_wsX5_add_in _ [] rfl)
set_option maxRecDepth 20000 in
theorem gX5_add_X5_readsOf : GoodIn wsX5_add (va_wsS RX5 43 yX5_readsOf wsX5_readsOf) := goodIn_app (gi_q bs_wsX5_add_in _ [(0, 11), (0, 12), (0, 13)] rfl) ggX5_add_X5_readsOf
set_option maxRecDepth 20000 in
theorem ggX5_add_X5_writesOf : GoodIn wsX5_add wsX5_writesOf := goodIn_k (gi_q bs_wsX5_add_in _ [(0, 17)] rfl) (gi_q bs_wsX5_add_in _ [] rfl)
set_option maxRecDepth 20000 in
theorem gX5_add_X5_writesOf : GoodIn wsX5_add (va_wsS RX5 47 yX5_writesOf wsX5_writesOf) := goodIn_app (gi_q bs_wsX5_add_in _ [(0, 15), (0, 16), (0, 13)] rfl) ggX5_add_X5_writesOf
def fw_dX5_add_0 : List (Nat × Instr × Nat) := [(0, .iload_n 1, 1), (1, .aload_n 0, 1), (2, .getfield 9, 3), (5, .iload_n 1, 1), (6, .iaload, 1), (7, .invokestatic 33, 3), (10, .istore 6, 2), (12, .aload_n 0, 1), (13, .getfield 15, 3), (16, .iload 6, 2), (18, .iload_n 2, 1), (19, .iastore, 1), (20, .aload_n 0, 1), (21, .getfield 18, 3), (24, .iload 6, 2), (26, .getstatic 37, 3), (29, .iload_n 2, 1), (30, .iaload, 1), (31, .ifCond .ne 7, 3), (34, .iconst (-1), 1)]
theorem fw_dX5_add_0_c : fchk 0 (cX5_add.data.toList.drop 0) fw_dX5_add_0 = true := by decide +kernel
theorem dX5_add_0 : Eq (decode cX5_add 0) (Except.ok (Instr.iload_n 1, 1)) := fE fw_dX5_add_0_c 0 rfl
theorem dX5_add_1 : Eq (decode cX5_add 1) (Except.ok (Instr.aload_n 0, 1)) := fE fw_dX5_add_0_c 1 rfl
theorem dX5_add_2 : Eq (decode cX5_add 2) (Except.ok (Instr.getfield 9, 3)) := fE fw_dX5_add_0_c 2 rfl
theorem dX5_add_5 : Eq (decode cX5_add 5) (Except.ok (Instr.iload_n 1, 1)) := fE fw_dX5_add_0_c 3 rfl
theorem dX5_add_6 : Eq (decode cX5_add 6) (Except.ok (Instr.iaload, 1)) := fE fw_dX5_add_0_c 4 rfl
theorem dX5_add_7 : Eq (decode cX5_add 7) (Except.ok (Instr.invokestatic 33, 3)) := fE fw_dX5_add_0_c 5 rfl
theorem dX5_add_10 : Eq (decode cX5_add 10) (Except.ok (Instr.istore 6, 2)) := fE fw_dX5_add_0_c 6 rfl
theorem dX5_add_12 : Eq (decode cX5_add 12) (Except.ok (Instr.aload_n 0, 1)) := fE fw_dX5_add_0_c 7 rfl
theorem dX5_add_13 : Eq (decode cX5_add 13) (Except.ok (Instr.getfield 15, 3)) := fE fw_dX5_add_0_c 8 rfl
theorem dX5_add_16 : Eq (decode cX5_add 16) (Except.ok (Instr.iload 6, 2)) := fE fw_dX5_add_0_c 9 rfl
theorem dX5_add_18 : Eq (decode cX5_add 18) (Except.ok (Instr.iload_n 2, 1)) := fE fw_dX5_add_0_c 10 rfl
theorem dX5_add_19 : Eq (decode cX5_add 19) (Except.ok (Instr.iastore, 1)) := fE fw_dX5_add_0_c 11 rfl
theorem dX5_add_20 : Eq (decode cX5_add 20) (Except.ok (Instr.aload_n 0, 1)) := fE fw_dX5_add_0_c 12 rfl
theorem dX5_add_21 : Eq (decode cX5_add 21) (Except.ok (Instr.getfield 18, 3)) := fE fw_dX5_add_0_c 13 rfl
theorem dX5_add_24 : Eq (decode cX5_add 24) (Except.ok (Instr.iload 6, 2)) := fE fw_dX5_add_0_c 14 rfl
theorem dX5_add_26 : Eq (decode cX5_add 26) (Except.ok (Instr.getstatic 37, 3)) := fE fw_dX5_add_0_c 15 rfl
theorem dX5_add_29 : Eq (decode cX5_add 29) (Except.ok (Instr.iload_n 2, 1)) := fE fw_dX5_add_0_c 16 rfl
theorem dX5_add_30 : Eq (decode cX5_add 30) (Except.ok (Instr.iaload, 1)) := fE fw_dX5_add_0_c 17 rfl
theorem dX5_add_31 : Eq (decode cX5_add 31) (Except.ok (Instr.ifCond .ne 7, 3)) := fE fw_dX5_add_0_c 18 rfl
theorem dX5_add_34 : Eq (decode cX5_add 34) (Except.ok (Instr.iconst (-1), 1)) := fE fw_dX5_add_0_c 19 rfl
def fw_dX5_add_35 : List (Nat × Instr × Nat) := [(35, .goto 4, 3), (38, .iload_n 3, 1), (39, .iastore, 1), (40, .aload_n 0, 1), (41, .getfield 21, 3), (44, .iload 6, 2), (46, .iload 4, 2), (48, .iastore, 1), (49, .aload_n 0, 1), (50, .getfield 24, 3), (53, .iload 6, 2), (55, .getstatic 40, 3), (58, .iload_n 2, 1), (59, .iaload, 1), (60, .ifCond .ne 7, 3), (63, .iconst (-1), 1), (64, .goto 5, 3), (67, .iload 5, 2), (69, .iastore, 1), (70, .aload_n 0, 1)]
theorem fw_dX5_add_35_c : fchk 35 (cX5_add.data.toList.drop 35) fw_dX5_add_35 = true := by decide +kernel
theorem dX5_add_35 : Eq (decode cX5_add 35) (Except.ok (Instr.goto 4, 3)) := fE fw_dX5_add_35_c 0 rfl
theorem dX5_add_38 : Eq (decode cX5_add 38) (Except.ok (Instr.iload_n 3, 1)) := fE fw_dX5_add_35_c 1 rfl
theorem dX5_add_39 : Eq (decode cX5_add 39) (Except.ok (Instr.iastore, 1)) := fE fw_dX5_add_35_c 2 rfl
theorem dX5_add_40 : Eq (decode cX5_add 40) (Except.ok (Instr.aload_n 0, 1)) := fE fw_dX5_add_35_c 3 rfl
theorem dX5_add_41 : Eq (decode cX5_add 41) (Except.ok (Instr.getfield 21, 3)) := fE fw_dX5_add_35_c 4 rfl
theorem dX5_add_44 : Eq (decode cX5_add 44) (Except.ok (Instr.iload 6, 2)) := fE fw_dX5_add_35_c 5 rfl
theorem dX5_add_46 : Eq (decode cX5_add 46) (Except.ok (Instr.iload 4, 2)) := fE fw_dX5_add_35_c 6 rfl
theorem dX5_add_48 : Eq (decode cX5_add 48) (Except.ok (Instr.iastore, 1)) := fE fw_dX5_add_35_c 7 rfl
theorem dX5_add_49 : Eq (decode cX5_add 49) (Except.ok (Instr.aload_n 0, 1)) := fE fw_dX5_add_35_c 8 rfl
theorem dX5_add_50 : Eq (decode cX5_add 50) (Except.ok (Instr.getfield 24, 3)) := fE fw_dX5_add_35_c 9 rfl
theorem dX5_add_53 : Eq (decode cX5_add 53) (Except.ok (Instr.iload 6, 2)) := fE fw_dX5_add_35_c 10 rfl
theorem dX5_add_55 : Eq (decode cX5_add 55) (Except.ok (Instr.getstatic 40, 3)) := fE fw_dX5_add_35_c 11 rfl
theorem dX5_add_58 : Eq (decode cX5_add 58) (Except.ok (Instr.iload_n 2, 1)) := fE fw_dX5_add_35_c 12 rfl
theorem dX5_add_59 : Eq (decode cX5_add 59) (Except.ok (Instr.iaload, 1)) := fE fw_dX5_add_35_c 13 rfl
theorem dX5_add_60 : Eq (decode cX5_add 60) (Except.ok (Instr.ifCond .ne 7, 3)) := fE fw_dX5_add_35_c 14 rfl
theorem dX5_add_63 : Eq (decode cX5_add 63) (Except.ok (Instr.iconst (-1), 1)) := fE fw_dX5_add_35_c 15 rfl
theorem dX5_add_64 : Eq (decode cX5_add 64) (Except.ok (Instr.goto 5, 3)) := fE fw_dX5_add_35_c 16 rfl
theorem dX5_add_67 : Eq (decode cX5_add 67) (Except.ok (Instr.iload 5, 2)) := fE fw_dX5_add_35_c 17 rfl
theorem dX5_add_69 : Eq (decode cX5_add 69) (Except.ok (Instr.iastore, 1)) := fE fw_dX5_add_35_c 18 rfl
theorem dX5_add_70 : Eq (decode cX5_add 70) (Except.ok (Instr.aload_n 0, 1)) := fE fw_dX5_add_35_c 19 rfl
def fw_dX5_add_71 : List (Nat × Instr × Nat) := [(71, .getfield 27, 3), (74, .iload 6, 2), (76, .iload_n 2, 1), (77, .iload 4, 2), (79, .iload 5, 2), (81, .invokestatic 43, 3), (84, .iastore, 1), (85, .aload_n 0, 1), (86, .getfield 30, 3), (89, .iload 6, 2), (91, .iload_n 2, 1), (92, .iload_n 3, 1), (93, .invokestatic 47, 3), (96, .iastore, 1), (97, .aload_n 0, 1), (98, .getfield 9, 3), (101, .iload_n 1, 1), (102, .dup2, 1), (103, .iaload, 1), (104, .iconst 1, 1)]
theorem fw_dX5_add_71_c : fchk 71 (cX5_add.data.toList.drop 71) fw_dX5_add_71 = true := by decide +kernel
theorem dX5_add_71 : Eq (decode cX5_add 71) (Except.ok (Instr.getfield 27, 3)) := fE fw_dX5_add_71_c 0 rfl
theorem dX5_add_74 : Eq (decode cX5_add 74) (Except.ok (Instr.iload 6, 2)) := fE fw_dX5_add_71_c 1 rfl
theorem dX5_add_76 : Eq (decode cX5_add 76) (Except.ok (Instr.iload_n 2, 1)) := fE fw_dX5_add_71_c 2 rfl
theorem dX5_add_77 : Eq (decode cX5_add 77) (Except.ok (Instr.iload 4, 2)) := fE fw_dX5_add_71_c 3 rfl
theorem dX5_add_79 : Eq (decode cX5_add 79) (Except.ok (Instr.iload 5, 2)) := fE fw_dX5_add_71_c 4 rfl
theorem dX5_add_81 : Eq (decode cX5_add 81) (Except.ok (Instr.invokestatic 43, 3)) := fE fw_dX5_add_71_c 5 rfl
theorem dX5_add_84 : Eq (decode cX5_add 84) (Except.ok (Instr.iastore, 1)) := fE fw_dX5_add_71_c 6 rfl
theorem dX5_add_85 : Eq (decode cX5_add 85) (Except.ok (Instr.aload_n 0, 1)) := fE fw_dX5_add_71_c 7 rfl
theorem dX5_add_86 : Eq (decode cX5_add 86) (Except.ok (Instr.getfield 30, 3)) := fE fw_dX5_add_71_c 8 rfl
theorem dX5_add_89 : Eq (decode cX5_add 89) (Except.ok (Instr.iload 6, 2)) := fE fw_dX5_add_71_c 9 rfl
theorem dX5_add_91 : Eq (decode cX5_add 91) (Except.ok (Instr.iload_n 2, 1)) := fE fw_dX5_add_71_c 10 rfl
theorem dX5_add_92 : Eq (decode cX5_add 92) (Except.ok (Instr.iload_n 3, 1)) := fE fw_dX5_add_71_c 11 rfl
theorem dX5_add_93 : Eq (decode cX5_add 93) (Except.ok (Instr.invokestatic 47, 3)) := fE fw_dX5_add_71_c 12 rfl
theorem dX5_add_96 : Eq (decode cX5_add 96) (Except.ok (Instr.iastore, 1)) := fE fw_dX5_add_71_c 13 rfl
theorem dX5_add_97 : Eq (decode cX5_add 97) (Except.ok (Instr.aload_n 0, 1)) := fE fw_dX5_add_71_c 14 rfl
theorem dX5_add_98 : Eq (decode cX5_add 98) (Except.ok (Instr.getfield 9, 3)) := fE fw_dX5_add_71_c 15 rfl
theorem dX5_add_101 : Eq (decode cX5_add 101) (Except.ok (Instr.iload_n 1, 1)) := fE fw_dX5_add_71_c 16 rfl
theorem dX5_add_102 : Eq (decode cX5_add 102) (Except.ok (Instr.dup2, 1)) := fE fw_dX5_add_71_c 17 rfl
theorem dX5_add_103 : Eq (decode cX5_add 103) (Except.ok (Instr.iaload, 1)) := fE fw_dX5_add_71_c 18 rfl
theorem dX5_add_104 : Eq (decode cX5_add 104) (Except.ok (Instr.iconst 1, 1)) := fE fw_dX5_add_71_c 19 rfl
def fw_dX5_add_105 : List (Nat × Instr × Nat) := [(105, .iadd, 1), (106, .iastore, 1), (107, .return_, 1)]
theorem fw_dX5_add_105_c : fchk 105 (cX5_add.data.toList.drop 105) fw_dX5_add_105 = true := by decide +kernel
theorem dX5_add_105 : Eq (decode cX5_add 105) (Except.ok (Instr.iadd, 1)) := fE fw_dX5_add_105_c 0 rfl
theorem dX5_add_106 : Eq (decode cX5_add 106) (Except.ok (Instr.iastore, 1)) := fE fw_dX5_add_105_c 1 rfl
theorem dX5_add_107 : Eq (decode cX5_add 107) (Except.ok (Instr.return_, 1)) := fE fw_dX5_add_105_c 2 rfl
def fw_dX5_readsOf_0 : List (Nat × Instr × Nat) := [(0, .iconst 0, 1), (1, .istore_n 3, 1), (2, .getstatic 50, 3), (5, .iload_n 0, 1), (6, .iaload, 1), (7, .iconst 1, 1), (8, .if_icmp .ne 9, 3), (11, .iload_n 3, 1), (12, .iconst 1, 1), (13, .iload_n 1, 1), (14, .ishl, 1), (15, .ior, 1), (16, .istore_n 3, 1), (17, .getstatic 40, 3), (20, .iload_n 0, 1), (21, .iaload, 1), (22, .iconst 1, 1), (23, .if_icmp .ne 9, 3), (26, .iload_n 3, 1), (27, .iconst 1, 1)]
theorem fw_dX5_readsOf_0_c : fchk 0 (cX5_readsOf.data.toList.drop 0) fw_dX5_readsOf_0 = true := by decide +kernel
theorem dX5_readsOf_0 : Eq (decode cX5_readsOf 0) (Except.ok (Instr.iconst 0, 1)) := fE fw_dX5_readsOf_0_c 0 rfl
theorem dX5_readsOf_1 : Eq (decode cX5_readsOf 1) (Except.ok (Instr.istore_n 3, 1)) := fE fw_dX5_readsOf_0_c 1 rfl
theorem dX5_readsOf_2 : Eq (decode cX5_readsOf 2) (Except.ok (Instr.getstatic 50, 3)) := fE fw_dX5_readsOf_0_c 2 rfl
theorem dX5_readsOf_5 : Eq (decode cX5_readsOf 5) (Except.ok (Instr.iload_n 0, 1)) := fE fw_dX5_readsOf_0_c 3 rfl
theorem dX5_readsOf_6 : Eq (decode cX5_readsOf 6) (Except.ok (Instr.iaload, 1)) := fE fw_dX5_readsOf_0_c 4 rfl
theorem dX5_readsOf_7 : Eq (decode cX5_readsOf 7) (Except.ok (Instr.iconst 1, 1)) := fE fw_dX5_readsOf_0_c 5 rfl
theorem dX5_readsOf_8 : Eq (decode cX5_readsOf 8) (Except.ok (Instr.if_icmp .ne 9, 3)) := fE fw_dX5_readsOf_0_c 6 rfl
theorem dX5_readsOf_11 : Eq (decode cX5_readsOf 11) (Except.ok (Instr.iload_n 3, 1)) := fE fw_dX5_readsOf_0_c 7 rfl
theorem dX5_readsOf_12 : Eq (decode cX5_readsOf 12) (Except.ok (Instr.iconst 1, 1)) := fE fw_dX5_readsOf_0_c 8 rfl
theorem dX5_readsOf_13 : Eq (decode cX5_readsOf 13) (Except.ok (Instr.iload_n 1, 1)) := fE fw_dX5_readsOf_0_c 9 rfl
theorem dX5_readsOf_14 : Eq (decode cX5_readsOf 14) (Except.ok (Instr.ishl, 1)) := fE fw_dX5_readsOf_0_c 10 rfl
theorem dX5_readsOf_15 : Eq (decode cX5_readsOf 15) (Except.ok (Instr.ior, 1)) := fE fw_dX5_readsOf_0_c 11 rfl
theorem dX5_readsOf_16 : Eq (decode cX5_readsOf 16) (Except.ok (Instr.istore_n 3, 1)) := fE fw_dX5_readsOf_0_c 12 rfl
theorem dX5_readsOf_17 : Eq (decode cX5_readsOf 17) (Except.ok (Instr.getstatic 40, 3)) := fE fw_dX5_readsOf_0_c 13 rfl
theorem dX5_readsOf_20 : Eq (decode cX5_readsOf 20) (Except.ok (Instr.iload_n 0, 1)) := fE fw_dX5_readsOf_0_c 14 rfl
theorem dX5_readsOf_21 : Eq (decode cX5_readsOf 21) (Except.ok (Instr.iaload, 1)) := fE fw_dX5_readsOf_0_c 15 rfl
theorem dX5_readsOf_22 : Eq (decode cX5_readsOf 22) (Except.ok (Instr.iconst 1, 1)) := fE fw_dX5_readsOf_0_c 16 rfl
theorem dX5_readsOf_23 : Eq (decode cX5_readsOf 23) (Except.ok (Instr.if_icmp .ne 9, 3)) := fE fw_dX5_readsOf_0_c 17 rfl
theorem dX5_readsOf_26 : Eq (decode cX5_readsOf 26) (Except.ok (Instr.iload_n 3, 1)) := fE fw_dX5_readsOf_0_c 18 rfl
theorem dX5_readsOf_27 : Eq (decode cX5_readsOf 27) (Except.ok (Instr.iconst 1, 1)) := fE fw_dX5_readsOf_0_c 19 rfl
def fw_dX5_readsOf_28 : List (Nat × Instr × Nat) := [(28, .iload_n 2, 1), (29, .ishl, 1), (30, .ior, 1), (31, .istore_n 3, 1), (32, .iload_n 0, 1), (33, .bipush 7, 2), (35, .if_icmp .ne 9, 3), (38, .iload_n 3, 1), (39, .sipush 1024, 3), (42, .ior, 1), (43, .istore_n 3, 1), (44, .iload_n 0, 1), (45, .bipush 9, 2), (47, .if_icmp .eq 9, 3), (50, .iload_n 0, 1), (51, .bipush 10, 2), (53, .if_icmp .ne 12, 3), (56, .iload_n 3, 1), (57, .iconst 1, 1), (58, .bipush 8, 2)]
theorem fw_dX5_readsOf_28_c : fchk 28 (cX5_readsOf.data.toList.drop 28) fw_dX5_readsOf_28 = true := by decide +kernel
theorem dX5_readsOf_28 : Eq (decode cX5_readsOf 28) (Except.ok (Instr.iload_n 2, 1)) := fE fw_dX5_readsOf_28_c 0 rfl
theorem dX5_readsOf_29 : Eq (decode cX5_readsOf 29) (Except.ok (Instr.ishl, 1)) := fE fw_dX5_readsOf_28_c 1 rfl
theorem dX5_readsOf_30 : Eq (decode cX5_readsOf 30) (Except.ok (Instr.ior, 1)) := fE fw_dX5_readsOf_28_c 2 rfl
theorem dX5_readsOf_31 : Eq (decode cX5_readsOf 31) (Except.ok (Instr.istore_n 3, 1)) := fE fw_dX5_readsOf_28_c 3 rfl
theorem dX5_readsOf_32 : Eq (decode cX5_readsOf 32) (Except.ok (Instr.iload_n 0, 1)) := fE fw_dX5_readsOf_28_c 4 rfl
theorem dX5_readsOf_33 : Eq (decode cX5_readsOf 33) (Except.ok (Instr.bipush 7, 2)) := fE fw_dX5_readsOf_28_c 5 rfl
theorem dX5_readsOf_35 : Eq (decode cX5_readsOf 35) (Except.ok (Instr.if_icmp .ne 9, 3)) := fE fw_dX5_readsOf_28_c 6 rfl
theorem dX5_readsOf_38 : Eq (decode cX5_readsOf 38) (Except.ok (Instr.iload_n 3, 1)) := fE fw_dX5_readsOf_28_c 7 rfl
theorem dX5_readsOf_39 : Eq (decode cX5_readsOf 39) (Except.ok (Instr.sipush 1024, 3)) := fE fw_dX5_readsOf_28_c 8 rfl
theorem dX5_readsOf_42 : Eq (decode cX5_readsOf 42) (Except.ok (Instr.ior, 1)) := fE fw_dX5_readsOf_28_c 9 rfl
theorem dX5_readsOf_43 : Eq (decode cX5_readsOf 43) (Except.ok (Instr.istore_n 3, 1)) := fE fw_dX5_readsOf_28_c 10 rfl
theorem dX5_readsOf_44 : Eq (decode cX5_readsOf 44) (Except.ok (Instr.iload_n 0, 1)) := fE fw_dX5_readsOf_28_c 11 rfl
theorem dX5_readsOf_45 : Eq (decode cX5_readsOf 45) (Except.ok (Instr.bipush 9, 2)) := fE fw_dX5_readsOf_28_c 12 rfl
theorem dX5_readsOf_47 : Eq (decode cX5_readsOf 47) (Except.ok (Instr.if_icmp .eq 9, 3)) := fE fw_dX5_readsOf_28_c 13 rfl
theorem dX5_readsOf_50 : Eq (decode cX5_readsOf 50) (Except.ok (Instr.iload_n 0, 1)) := fE fw_dX5_readsOf_28_c 14 rfl
theorem dX5_readsOf_51 : Eq (decode cX5_readsOf 51) (Except.ok (Instr.bipush 10, 2)) := fE fw_dX5_readsOf_28_c 15 rfl
theorem dX5_readsOf_53 : Eq (decode cX5_readsOf 53) (Except.ok (Instr.if_icmp .ne 12, 3)) := fE fw_dX5_readsOf_28_c 16 rfl
theorem dX5_readsOf_56 : Eq (decode cX5_readsOf 56) (Except.ok (Instr.iload_n 3, 1)) := fE fw_dX5_readsOf_28_c 17 rfl
theorem dX5_readsOf_57 : Eq (decode cX5_readsOf 57) (Except.ok (Instr.iconst 1, 1)) := fE fw_dX5_readsOf_28_c 18 rfl
theorem dX5_readsOf_58 : Eq (decode cX5_readsOf 58) (Except.ok (Instr.bipush 8, 2)) := fE fw_dX5_readsOf_28_c 19 rfl
def fw_dX5_readsOf_60 : List (Nat × Instr × Nat) := [(60, .iload_n 1, 1), (61, .iadd, 1), (62, .ishl, 1), (63, .ior, 1), (64, .istore_n 3, 1), (65, .iload_n 3, 1), (66, .ireturn, 1)]
theorem fw_dX5_readsOf_60_c : fchk 60 (cX5_readsOf.data.toList.drop 60) fw_dX5_readsOf_60 = true := by decide +kernel
theorem dX5_readsOf_60 : Eq (decode cX5_readsOf 60) (Except.ok (Instr.iload_n 1, 1)) := fE fw_dX5_readsOf_60_c 0 rfl
theorem dX5_readsOf_61 : Eq (decode cX5_readsOf 61) (Except.ok (Instr.iadd, 1)) := fE fw_dX5_readsOf_60_c 1 rfl
theorem dX5_readsOf_62 : Eq (decode cX5_readsOf 62) (Except.ok (Instr.ishl, 1)) := fE fw_dX5_readsOf_60_c 2 rfl
theorem dX5_readsOf_63 : Eq (decode cX5_readsOf 63) (Except.ok (Instr.ior, 1)) := fE fw_dX5_readsOf_60_c 3 rfl
theorem dX5_readsOf_64 : Eq (decode cX5_readsOf 64) (Except.ok (Instr.istore_n 3, 1)) := fE fw_dX5_readsOf_60_c 4 rfl
theorem dX5_readsOf_65 : Eq (decode cX5_readsOf 65) (Except.ok (Instr.iload_n 3, 1)) := fE fw_dX5_readsOf_60_c 5 rfl
theorem dX5_readsOf_66 : Eq (decode cX5_readsOf 66) (Except.ok (Instr.ireturn, 1)) := fE fw_dX5_readsOf_60_c 6 rfl
def fw_dX5_writesOf_0 : List (Nat × Instr × Nat) := [(0, .iconst 0, 1), (1, .istore_n 2, 1), (2, .getstatic 37, 3), (5, .iload_n 0, 1), (6, .iaload, 1), (7, .iconst 1, 1), (8, .if_icmp .ne 9, 3), (11, .iload_n 2, 1), (12, .iconst 1, 1), (13, .iload_n 1, 1), (14, .ishl, 1), (15, .ior, 1), (16, .istore_n 2, 1), (17, .getstatic 53, 3), (20, .iload_n 0, 1), (21, .iaload, 1), (22, .iconst 1, 1), (23, .if_icmp .ne 9, 3), (26, .iload_n 2, 1), (27, .sipush 768, 3)]
theorem fw_dX5_writesOf_0_c : fchk 0 (cX5_writesOf.data.toList.drop 0) fw_dX5_writesOf_0 = true := by decide +kernel
theorem dX5_writesOf_0 : Eq (decode cX5_writesOf 0) (Except.ok (Instr.iconst 0, 1)) := fE fw_dX5_writesOf_0_c 0 rfl
theorem dX5_writesOf_1 : Eq (decode cX5_writesOf 1) (Except.ok (Instr.istore_n 2, 1)) := fE fw_dX5_writesOf_0_c 1 rfl
theorem dX5_writesOf_2 : Eq (decode cX5_writesOf 2) (Except.ok (Instr.getstatic 37, 3)) := fE fw_dX5_writesOf_0_c 2 rfl
theorem dX5_writesOf_5 : Eq (decode cX5_writesOf 5) (Except.ok (Instr.iload_n 0, 1)) := fE fw_dX5_writesOf_0_c 3 rfl
theorem dX5_writesOf_6 : Eq (decode cX5_writesOf 6) (Except.ok (Instr.iaload, 1)) := fE fw_dX5_writesOf_0_c 4 rfl
theorem dX5_writesOf_7 : Eq (decode cX5_writesOf 7) (Except.ok (Instr.iconst 1, 1)) := fE fw_dX5_writesOf_0_c 5 rfl
theorem dX5_writesOf_8 : Eq (decode cX5_writesOf 8) (Except.ok (Instr.if_icmp .ne 9, 3)) := fE fw_dX5_writesOf_0_c 6 rfl
theorem dX5_writesOf_11 : Eq (decode cX5_writesOf 11) (Except.ok (Instr.iload_n 2, 1)) := fE fw_dX5_writesOf_0_c 7 rfl
theorem dX5_writesOf_12 : Eq (decode cX5_writesOf 12) (Except.ok (Instr.iconst 1, 1)) := fE fw_dX5_writesOf_0_c 8 rfl
theorem dX5_writesOf_13 : Eq (decode cX5_writesOf 13) (Except.ok (Instr.iload_n 1, 1)) := fE fw_dX5_writesOf_0_c 9 rfl
theorem dX5_writesOf_14 : Eq (decode cX5_writesOf 14) (Except.ok (Instr.ishl, 1)) := fE fw_dX5_writesOf_0_c 10 rfl
theorem dX5_writesOf_15 : Eq (decode cX5_writesOf 15) (Except.ok (Instr.ior, 1)) := fE fw_dX5_writesOf_0_c 11 rfl
theorem dX5_writesOf_16 : Eq (decode cX5_writesOf 16) (Except.ok (Instr.istore_n 2, 1)) := fE fw_dX5_writesOf_0_c 12 rfl
theorem dX5_writesOf_17 : Eq (decode cX5_writesOf 17) (Except.ok (Instr.getstatic 53, 3)) := fE fw_dX5_writesOf_0_c 13 rfl
theorem dX5_writesOf_20 : Eq (decode cX5_writesOf 20) (Except.ok (Instr.iload_n 0, 1)) := fE fw_dX5_writesOf_0_c 14 rfl
theorem dX5_writesOf_21 : Eq (decode cX5_writesOf 21) (Except.ok (Instr.iaload, 1)) := fE fw_dX5_writesOf_0_c 15 rfl
theorem dX5_writesOf_22 : Eq (decode cX5_writesOf 22) (Except.ok (Instr.iconst 1, 1)) := fE fw_dX5_writesOf_0_c 16 rfl
theorem dX5_writesOf_23 : Eq (decode cX5_writesOf 23) (Except.ok (Instr.if_icmp .ne 9, 3)) := fE fw_dX5_writesOf_0_c 17 rfl
theorem dX5_writesOf_26 : Eq (decode cX5_writesOf 26) (Except.ok (Instr.iload_n 2, 1)) := fE fw_dX5_writesOf_0_c 18 rfl
theorem dX5_writesOf_27 : Eq (decode cX5_writesOf 27) (Except.ok (Instr.sipush 768, 3)) := fE fw_dX5_writesOf_0_c 19 rfl
def fw_dX5_writesOf_30 : List (Nat × Instr × Nat) := [(30, .ior, 1), (31, .istore_n 2, 1), (32, .iload_n 0, 1), (33, .bipush 8, 2), (35, .if_icmp .ne 9, 3), (38, .iload_n 2, 1), (39, .sipush 1024, 3), (42, .ior, 1), (43, .istore_n 2, 1), (44, .iload_n 2, 1), (45, .ireturn, 1)]
theorem fw_dX5_writesOf_30_c : fchk 30 (cX5_writesOf.data.toList.drop 30) fw_dX5_writesOf_30 = true := by decide +kernel
theorem dX5_writesOf_30 : Eq (decode cX5_writesOf 30) (Except.ok (Instr.ior, 1)) := fE fw_dX5_writesOf_30_c 0 rfl
theorem dX5_writesOf_31 : Eq (decode cX5_writesOf 31) (Except.ok (Instr.istore_n 2, 1)) := fE fw_dX5_writesOf_30_c 1 rfl
theorem dX5_writesOf_32 : Eq (decode cX5_writesOf 32) (Except.ok (Instr.iload_n 0, 1)) := fE fw_dX5_writesOf_30_c 2 rfl
theorem dX5_writesOf_33 : Eq (decode cX5_writesOf 33) (Except.ok (Instr.bipush 8, 2)) := fE fw_dX5_writesOf_30_c 3 rfl
theorem dX5_writesOf_35 : Eq (decode cX5_writesOf 35) (Except.ok (Instr.if_icmp .ne 9, 3)) := fE fw_dX5_writesOf_30_c 4 rfl
theorem dX5_writesOf_38 : Eq (decode cX5_writesOf 38) (Except.ok (Instr.iload_n 2, 1)) := fE fw_dX5_writesOf_30_c 5 rfl
theorem dX5_writesOf_39 : Eq (decode cX5_writesOf 39) (Except.ok (Instr.sipush 1024, 3)) := fE fw_dX5_writesOf_30_c 6 rfl
theorem dX5_writesOf_42 : Eq (decode cX5_writesOf 42) (Except.ok (Instr.ior, 1)) := fE fw_dX5_writesOf_30_c 7 rfl
theorem dX5_writesOf_43 : Eq (decode cX5_writesOf 43) (Except.ok (Instr.istore_n 2, 1)) := fE fw_dX5_writesOf_30_c 8 rfl
theorem dX5_writesOf_44 : Eq (decode cX5_writesOf 44) (Except.ok (Instr.iload_n 2, 1)) := fE fw_dX5_writesOf_30_c 9 rfl
theorem dX5_writesOf_45 : Eq (decode cX5_writesOf 45) (Except.ok (Instr.ireturn, 1)) := fE fw_dX5_writesOf_30_c 10 rfl
def fw_dX5_partOf_0 : List (Nat × Instr × Nat) := [(0, .getstatic 53, 3), (3, .aload_n 0, 1), (4, .getfield 15, 3), (7, .iload_n 1, 1), (8, .iaload, 1), (9, .iaload, 1), (10, .ireturn, 1)]
theorem fw_dX5_partOf_0_c : fchk 0 (cX5_partOf.data.toList.drop 0) fw_dX5_partOf_0 = true := by decide +kernel
theorem dX5_partOf_0 : Eq (decode cX5_partOf 0) (Except.ok (Instr.getstatic 53, 3)) := fE fw_dX5_partOf_0_c 0 rfl
theorem dX5_partOf_3 : Eq (decode cX5_partOf 3) (Except.ok (Instr.aload_n 0, 1)) := fE fw_dX5_partOf_0_c 1 rfl
theorem dX5_partOf_4 : Eq (decode cX5_partOf 4) (Except.ok (Instr.getfield 15, 3)) := fE fw_dX5_partOf_0_c 2 rfl
theorem dX5_partOf_7 : Eq (decode cX5_partOf 7) (Except.ok (Instr.iload_n 1, 1)) := fE fw_dX5_partOf_0_c 3 rfl
theorem dX5_partOf_8 : Eq (decode cX5_partOf 8) (Except.ok (Instr.iaload, 1)) := fE fw_dX5_partOf_0_c 4 rfl
theorem dX5_partOf_9 : Eq (decode cX5_partOf 9) (Except.ok (Instr.iaload, 1)) := fE fw_dX5_partOf_0_c 5 rfl
theorem dX5_partOf_10 : Eq (decode cX5_partOf 10) (Except.ok (Instr.ireturn, 1)) := fE fw_dX5_partOf_0_c 6 rfl
def fw_dX5_canTrap_0 : List (Nat × Instr × Nat) := [(0, .aload_n 0, 1), (1, .getfield 15, 3), (4, .iload_n 1, 1), (5, .iaload, 1), (6, .istore_n 2, 1), (7, .iload_n 2, 1), (8, .bipush 7, 2), (10, .if_icmp .eq 15, 3), (13, .iload_n 2, 1), (14, .bipush 8, 2), (16, .if_icmp .eq 9, 3), (19, .iload_n 2, 1), (20, .bipush 10, 2), (22, .if_icmp .ne 7, 3), (25, .iconst 1, 1), (26, .goto 4, 3), (29, .iconst 0, 1), (30, .ireturn, 1)]
theorem fw_dX5_canTrap_0_c : fchk 0 (cX5_canTrap.data.toList.drop 0) fw_dX5_canTrap_0 = true := by decide +kernel
theorem dX5_canTrap_0 : Eq (decode cX5_canTrap 0) (Except.ok (Instr.aload_n 0, 1)) := fE fw_dX5_canTrap_0_c 0 rfl
theorem dX5_canTrap_1 : Eq (decode cX5_canTrap 1) (Except.ok (Instr.getfield 15, 3)) := fE fw_dX5_canTrap_0_c 1 rfl
theorem dX5_canTrap_4 : Eq (decode cX5_canTrap 4) (Except.ok (Instr.iload_n 1, 1)) := fE fw_dX5_canTrap_0_c 2 rfl
theorem dX5_canTrap_5 : Eq (decode cX5_canTrap 5) (Except.ok (Instr.iaload, 1)) := fE fw_dX5_canTrap_0_c 3 rfl
theorem dX5_canTrap_6 : Eq (decode cX5_canTrap 6) (Except.ok (Instr.istore_n 2, 1)) := fE fw_dX5_canTrap_0_c 4 rfl
theorem dX5_canTrap_7 : Eq (decode cX5_canTrap 7) (Except.ok (Instr.iload_n 2, 1)) := fE fw_dX5_canTrap_0_c 5 rfl
theorem dX5_canTrap_8 : Eq (decode cX5_canTrap 8) (Except.ok (Instr.bipush 7, 2)) := fE fw_dX5_canTrap_0_c 6 rfl
theorem dX5_canTrap_10 : Eq (decode cX5_canTrap 10) (Except.ok (Instr.if_icmp .eq 15, 3)) := fE fw_dX5_canTrap_0_c 7 rfl
theorem dX5_canTrap_13 : Eq (decode cX5_canTrap 13) (Except.ok (Instr.iload_n 2, 1)) := fE fw_dX5_canTrap_0_c 8 rfl
theorem dX5_canTrap_14 : Eq (decode cX5_canTrap 14) (Except.ok (Instr.bipush 8, 2)) := fE fw_dX5_canTrap_0_c 9 rfl
theorem dX5_canTrap_16 : Eq (decode cX5_canTrap 16) (Except.ok (Instr.if_icmp .eq 9, 3)) := fE fw_dX5_canTrap_0_c 10 rfl
theorem dX5_canTrap_19 : Eq (decode cX5_canTrap 19) (Except.ok (Instr.iload_n 2, 1)) := fE fw_dX5_canTrap_0_c 11 rfl
theorem dX5_canTrap_20 : Eq (decode cX5_canTrap 20) (Except.ok (Instr.bipush 10, 2)) := fE fw_dX5_canTrap_0_c 12 rfl
theorem dX5_canTrap_22 : Eq (decode cX5_canTrap 22) (Except.ok (Instr.if_icmp .ne 7, 3)) := fE fw_dX5_canTrap_0_c 13 rfl
theorem dX5_canTrap_25 : Eq (decode cX5_canTrap 25) (Except.ok (Instr.iconst 1, 1)) := fE fw_dX5_canTrap_0_c 14 rfl
theorem dX5_canTrap_26 : Eq (decode cX5_canTrap 26) (Except.ok (Instr.goto 4, 3)) := fE fw_dX5_canTrap_0_c 15 rfl
theorem dX5_canTrap_29 : Eq (decode cX5_canTrap 29) (Except.ok (Instr.iconst 0, 1)) := fE fw_dX5_canTrap_0_c 16 rfl
theorem dX5_canTrap_30 : Eq (decode cX5_canTrap 30) (Except.ok (Instr.ireturn, 1)) := fE fw_dX5_canTrap_0_c 17 rfl
def fw_dX5_same_0 : List (Nat × Instr × Nat) := [(0, .aload_n 0, 1), (1, .getfield 15, 3), (4, .iload_n 1, 1), (5, .iaload, 1), (6, .aload_n 0, 1), (7, .getfield 15, 3), (10, .iload_n 2, 1), (11, .iaload, 1), (12, .if_icmp .ne 52, 3), (15, .aload_n 0, 1), (16, .getfield 18, 3), (19, .iload_n 1, 1), (20, .iaload, 1), (21, .aload_n 0, 1), (22, .getfield 18, 3), (25, .iload_n 2, 1), (26, .iaload, 1), (27, .if_icmp .ne 37, 3), (30, .aload_n 0, 1), (31, .getfield 21, 3)]
theorem fw_dX5_same_0_c : fchk 0 (cX5_same.data.toList.drop 0) fw_dX5_same_0 = true := by decide +kernel
theorem dX5_same_0 : Eq (decode cX5_same 0) (Except.ok (Instr.aload_n 0, 1)) := fE fw_dX5_same_0_c 0 rfl
theorem dX5_same_1 : Eq (decode cX5_same 1) (Except.ok (Instr.getfield 15, 3)) := fE fw_dX5_same_0_c 1 rfl
theorem dX5_same_4 : Eq (decode cX5_same 4) (Except.ok (Instr.iload_n 1, 1)) := fE fw_dX5_same_0_c 2 rfl
theorem dX5_same_5 : Eq (decode cX5_same 5) (Except.ok (Instr.iaload, 1)) := fE fw_dX5_same_0_c 3 rfl
theorem dX5_same_6 : Eq (decode cX5_same 6) (Except.ok (Instr.aload_n 0, 1)) := fE fw_dX5_same_0_c 4 rfl
theorem dX5_same_7 : Eq (decode cX5_same 7) (Except.ok (Instr.getfield 15, 3)) := fE fw_dX5_same_0_c 5 rfl
theorem dX5_same_10 : Eq (decode cX5_same 10) (Except.ok (Instr.iload_n 2, 1)) := fE fw_dX5_same_0_c 6 rfl
theorem dX5_same_11 : Eq (decode cX5_same 11) (Except.ok (Instr.iaload, 1)) := fE fw_dX5_same_0_c 7 rfl
theorem dX5_same_12 : Eq (decode cX5_same 12) (Except.ok (Instr.if_icmp .ne 52, 3)) := fE fw_dX5_same_0_c 8 rfl
theorem dX5_same_15 : Eq (decode cX5_same 15) (Except.ok (Instr.aload_n 0, 1)) := fE fw_dX5_same_0_c 9 rfl
theorem dX5_same_16 : Eq (decode cX5_same 16) (Except.ok (Instr.getfield 18, 3)) := fE fw_dX5_same_0_c 10 rfl
theorem dX5_same_19 : Eq (decode cX5_same 19) (Except.ok (Instr.iload_n 1, 1)) := fE fw_dX5_same_0_c 11 rfl
theorem dX5_same_20 : Eq (decode cX5_same 20) (Except.ok (Instr.iaload, 1)) := fE fw_dX5_same_0_c 12 rfl
theorem dX5_same_21 : Eq (decode cX5_same 21) (Except.ok (Instr.aload_n 0, 1)) := fE fw_dX5_same_0_c 13 rfl
theorem dX5_same_22 : Eq (decode cX5_same 22) (Except.ok (Instr.getfield 18, 3)) := fE fw_dX5_same_0_c 14 rfl
theorem dX5_same_25 : Eq (decode cX5_same 25) (Except.ok (Instr.iload_n 2, 1)) := fE fw_dX5_same_0_c 15 rfl
theorem dX5_same_26 : Eq (decode cX5_same 26) (Except.ok (Instr.iaload, 1)) := fE fw_dX5_same_0_c 16 rfl
theorem dX5_same_27 : Eq (decode cX5_same 27) (Except.ok (Instr.if_icmp .ne 37, 3)) := fE fw_dX5_same_0_c 17 rfl
theorem dX5_same_30 : Eq (decode cX5_same 30) (Except.ok (Instr.aload_n 0, 1)) := fE fw_dX5_same_0_c 18 rfl
theorem dX5_same_31 : Eq (decode cX5_same 31) (Except.ok (Instr.getfield 21, 3)) := fE fw_dX5_same_0_c 19 rfl
def fw_dX5_same_34 : List (Nat × Instr × Nat) := [(34, .iload_n 1, 1), (35, .iaload, 1), (36, .aload_n 0, 1), (37, .getfield 21, 3), (40, .iload_n 2, 1), (41, .iaload, 1), (42, .if_icmp .ne 22, 3), (45, .aload_n 0, 1), (46, .getfield 24, 3), (49, .iload_n 1, 1), (50, .iaload, 1), (51, .aload_n 0, 1), (52, .getfield 24, 3), (55, .iload_n 2, 1), (56, .iaload, 1), (57, .if_icmp .ne 7, 3), (60, .iconst 1, 1), (61, .goto 4, 3), (64, .iconst 0, 1), (65, .ireturn, 1)]
theorem fw_dX5_same_34_c : fchk 34 (cX5_same.data.toList.drop 34) fw_dX5_same_34 = true := by decide +kernel
theorem dX5_same_34 : Eq (decode cX5_same 34) (Except.ok (Instr.iload_n 1, 1)) := fE fw_dX5_same_34_c 0 rfl
theorem dX5_same_35 : Eq (decode cX5_same 35) (Except.ok (Instr.iaload, 1)) := fE fw_dX5_same_34_c 1 rfl
theorem dX5_same_36 : Eq (decode cX5_same 36) (Except.ok (Instr.aload_n 0, 1)) := fE fw_dX5_same_34_c 2 rfl
theorem dX5_same_37 : Eq (decode cX5_same 37) (Except.ok (Instr.getfield 21, 3)) := fE fw_dX5_same_34_c 3 rfl
theorem dX5_same_40 : Eq (decode cX5_same 40) (Except.ok (Instr.iload_n 2, 1)) := fE fw_dX5_same_34_c 4 rfl
theorem dX5_same_41 : Eq (decode cX5_same 41) (Except.ok (Instr.iaload, 1)) := fE fw_dX5_same_34_c 5 rfl
theorem dX5_same_42 : Eq (decode cX5_same 42) (Except.ok (Instr.if_icmp .ne 22, 3)) := fE fw_dX5_same_34_c 6 rfl
theorem dX5_same_45 : Eq (decode cX5_same 45) (Except.ok (Instr.aload_n 0, 1)) := fE fw_dX5_same_34_c 7 rfl
theorem dX5_same_46 : Eq (decode cX5_same 46) (Except.ok (Instr.getfield 24, 3)) := fE fw_dX5_same_34_c 8 rfl
theorem dX5_same_49 : Eq (decode cX5_same 49) (Except.ok (Instr.iload_n 1, 1)) := fE fw_dX5_same_34_c 9 rfl
theorem dX5_same_50 : Eq (decode cX5_same 50) (Except.ok (Instr.iaload, 1)) := fE fw_dX5_same_34_c 10 rfl
theorem dX5_same_51 : Eq (decode cX5_same 51) (Except.ok (Instr.aload_n 0, 1)) := fE fw_dX5_same_34_c 11 rfl
theorem dX5_same_52 : Eq (decode cX5_same 52) (Except.ok (Instr.getfield 24, 3)) := fE fw_dX5_same_34_c 12 rfl
theorem dX5_same_55 : Eq (decode cX5_same 55) (Except.ok (Instr.iload_n 2, 1)) := fE fw_dX5_same_34_c 13 rfl
theorem dX5_same_56 : Eq (decode cX5_same 56) (Except.ok (Instr.iaload, 1)) := fE fw_dX5_same_34_c 14 rfl
theorem dX5_same_57 : Eq (decode cX5_same 57) (Except.ok (Instr.if_icmp .ne 7, 3)) := fE fw_dX5_same_34_c 15 rfl
theorem dX5_same_60 : Eq (decode cX5_same 60) (Except.ok (Instr.iconst 1, 1)) := fE fw_dX5_same_34_c 16 rfl
theorem dX5_same_61 : Eq (decode cX5_same 61) (Except.ok (Instr.goto 4, 3)) := fE fw_dX5_same_34_c 17 rfl
theorem dX5_same_64 : Eq (decode cX5_same 64) (Except.ok (Instr.iconst 0, 1)) := fE fw_dX5_same_34_c 18 rfl
theorem dX5_same_65 : Eq (decode cX5_same 65) (Except.ok (Instr.ireturn, 1)) := fE fw_dX5_same_34_c 19 rfl
set_option maxRecDepth 20000 in
theorem gi_wsX5_need_0 : GoodIn wsX5_need wsX5_need := goodIn_sub (fun _ h => h) (by decide +kernel)
set_option maxRecDepth 20000 in
theorem gi_wsX5_need_1 : GoodIn wsX5_need wsX50 := goodIn_sub (fun w h => List.mem_cons_of_mem _ (List.mem_append_right _ h)) (by decide +kernel)
def bs_wsX5_need : List (List Cond) := [wsX5_need, wsX50]
theorem bs_wsX5_need_in : ∀ b ∈ bs_wsX5_need, GoodIn wsX5_need b := List.forall_mem_cons.mpr ⟨gi_wsX5_need_0, List.forall_mem_cons.mpr ⟨gi_wsX5_need_1, (fun _ h => absurd h List.not_mem_nil)⟩⟩
set_option maxRecDepth 20000 in
theorem ggX5_need_X5_canTrap : GoodIn wsX5_need wsX5_canTrap := goodIn_k (gi_q bs_wsX5_need_in _ [(0, 8)] rfl) (goodIn_app (gi_q bs_wsX5_need_in _ [(0, 3)] rfl) (gi_wsX5_need_1))
set_option maxRecDepth 20000 in
theorem gX5_need_X5_canTrap : GoodIn wsX5_need (wsV RX5 56 RX5 yX5_canTrap wsX5_canTrap) := goodIn_app (gi_q bs_wsX5_need_in _ [(0, 4), (0, 5), (0, 6), (0, 7)] rfl) ggX5_need_X5_canTrap
def fw_dX5_need_0 : List (Nat × Instr × Nat) := [(0, .aload_n 0, 1), (1, .getfield 30, 3), (4, .iload_n 1, 1), (5, .iaload, 1), (6, .aload_n 0, 1), (7, .getfield 27, 3), (10, .iload_n 2, 1), (11, .iaload, 1), (12, .aload_n 0, 1), (13, .getfield 30, 3), (16, .iload_n 2, 1), (17, .iaload, 1), (18, .ior, 1), (19, .iand, 1), (20, .ifCond .ne 14, 3), (23, .aload_n 0, 1), (24, .getfield 15, 3), (27, .iload_n 1, 1), (28, .iaload, 1), (29, .bipush 9, 2)]
theorem fw_dX5_need_0_c : fchk 0 (cX5_need.data.toList.drop 0) fw_dX5_need_0 = true := by decide +kernel
theorem dX5_need_0 : Eq (decode cX5_need 0) (Except.ok (Instr.aload_n 0, 1)) := fE fw_dX5_need_0_c 0 rfl
theorem dX5_need_1 : Eq (decode cX5_need 1) (Except.ok (Instr.getfield 30, 3)) := fE fw_dX5_need_0_c 1 rfl
theorem dX5_need_4 : Eq (decode cX5_need 4) (Except.ok (Instr.iload_n 1, 1)) := fE fw_dX5_need_0_c 2 rfl
theorem dX5_need_5 : Eq (decode cX5_need 5) (Except.ok (Instr.iaload, 1)) := fE fw_dX5_need_0_c 3 rfl
theorem dX5_need_6 : Eq (decode cX5_need 6) (Except.ok (Instr.aload_n 0, 1)) := fE fw_dX5_need_0_c 4 rfl
theorem dX5_need_7 : Eq (decode cX5_need 7) (Except.ok (Instr.getfield 27, 3)) := fE fw_dX5_need_0_c 5 rfl
theorem dX5_need_10 : Eq (decode cX5_need 10) (Except.ok (Instr.iload_n 2, 1)) := fE fw_dX5_need_0_c 6 rfl
theorem dX5_need_11 : Eq (decode cX5_need 11) (Except.ok (Instr.iaload, 1)) := fE fw_dX5_need_0_c 7 rfl
theorem dX5_need_12 : Eq (decode cX5_need 12) (Except.ok (Instr.aload_n 0, 1)) := fE fw_dX5_need_0_c 8 rfl
theorem dX5_need_13 : Eq (decode cX5_need 13) (Except.ok (Instr.getfield 30, 3)) := fE fw_dX5_need_0_c 9 rfl
theorem dX5_need_16 : Eq (decode cX5_need 16) (Except.ok (Instr.iload_n 2, 1)) := fE fw_dX5_need_0_c 10 rfl
theorem dX5_need_17 : Eq (decode cX5_need 17) (Except.ok (Instr.iaload, 1)) := fE fw_dX5_need_0_c 11 rfl
theorem dX5_need_18 : Eq (decode cX5_need 18) (Except.ok (Instr.ior, 1)) := fE fw_dX5_need_0_c 12 rfl
theorem dX5_need_19 : Eq (decode cX5_need 19) (Except.ok (Instr.iand, 1)) := fE fw_dX5_need_0_c 13 rfl
theorem dX5_need_20 : Eq (decode cX5_need 20) (Except.ok (Instr.ifCond .ne 14, 3)) := fE fw_dX5_need_0_c 14 rfl
theorem dX5_need_23 : Eq (decode cX5_need 23) (Except.ok (Instr.aload_n 0, 1)) := fE fw_dX5_need_0_c 15 rfl
theorem dX5_need_24 : Eq (decode cX5_need 24) (Except.ok (Instr.getfield 15, 3)) := fE fw_dX5_need_0_c 16 rfl
theorem dX5_need_27 : Eq (decode cX5_need 27) (Except.ok (Instr.iload_n 1, 1)) := fE fw_dX5_need_0_c 17 rfl
theorem dX5_need_28 : Eq (decode cX5_need 28) (Except.ok (Instr.iaload, 1)) := fE fw_dX5_need_0_c 18 rfl
theorem dX5_need_29 : Eq (decode cX5_need 29) (Except.ok (Instr.bipush 9, 2)) := fE fw_dX5_need_0_c 19 rfl
def fw_dX5_need_31 : List (Nat × Instr × Nat) := [(31, .if_icmp .ne 5, 3), (34, .iconst 2, 1), (35, .ireturn, 1), (36, .aload_n 0, 1), (37, .iload_n 1, 1), (38, .invokevirtual 56, 3), (41, .ifCond .eq 22, 3), (44, .aload_n 0, 1), (45, .getfield 30, 3), (48, .iload_n 2, 1), (49, .iaload, 1), (50, .ifCond .ne 11, 3), (53, .aload_n 0, 1), (54, .iload_n 2, 1), (55, .invokevirtual 56, 3), (58, .ifCond .eq 5, 3), (61, .iconst 2, 1), (62, .ireturn, 1), (63, .aload_n 0, 1), (64, .getfield 27, 3)]
theorem fw_dX5_need_31_c : fchk 31 (cX5_need.data.toList.drop 31) fw_dX5_need_31 = true := by decide +kernel
theorem dX5_need_31 : Eq (decode cX5_need 31) (Except.ok (Instr.if_icmp .ne 5, 3)) := fE fw_dX5_need_31_c 0 rfl
theorem dX5_need_34 : Eq (decode cX5_need 34) (Except.ok (Instr.iconst 2, 1)) := fE fw_dX5_need_31_c 1 rfl
theorem dX5_need_35 : Eq (decode cX5_need 35) (Except.ok (Instr.ireturn, 1)) := fE fw_dX5_need_31_c 2 rfl
theorem dX5_need_36 : Eq (decode cX5_need 36) (Except.ok (Instr.aload_n 0, 1)) := fE fw_dX5_need_31_c 3 rfl
theorem dX5_need_37 : Eq (decode cX5_need 37) (Except.ok (Instr.iload_n 1, 1)) := fE fw_dX5_need_31_c 4 rfl
theorem dX5_need_38 : Eq (decode cX5_need 38) (Except.ok (Instr.invokevirtual 56, 3)) := fE fw_dX5_need_31_c 5 rfl
theorem dX5_need_41 : Eq (decode cX5_need 41) (Except.ok (Instr.ifCond .eq 22, 3)) := fE fw_dX5_need_31_c 6 rfl
theorem dX5_need_44 : Eq (decode cX5_need 44) (Except.ok (Instr.aload_n 0, 1)) := fE fw_dX5_need_31_c 7 rfl
theorem dX5_need_45 : Eq (decode cX5_need 45) (Except.ok (Instr.getfield 30, 3)) := fE fw_dX5_need_31_c 8 rfl
theorem dX5_need_48 : Eq (decode cX5_need 48) (Except.ok (Instr.iload_n 2, 1)) := fE fw_dX5_need_31_c 9 rfl
theorem dX5_need_49 : Eq (decode cX5_need 49) (Except.ok (Instr.iaload, 1)) := fE fw_dX5_need_31_c 10 rfl
theorem dX5_need_50 : Eq (decode cX5_need 50) (Except.ok (Instr.ifCond .ne 11, 3)) := fE fw_dX5_need_31_c 11 rfl
theorem dX5_need_53 : Eq (decode cX5_need 53) (Except.ok (Instr.aload_n 0, 1)) := fE fw_dX5_need_31_c 12 rfl
theorem dX5_need_54 : Eq (decode cX5_need 54) (Except.ok (Instr.iload_n 2, 1)) := fE fw_dX5_need_31_c 13 rfl
theorem dX5_need_55 : Eq (decode cX5_need 55) (Except.ok (Instr.invokevirtual 56, 3)) := fE fw_dX5_need_31_c 14 rfl
theorem dX5_need_58 : Eq (decode cX5_need 58) (Except.ok (Instr.ifCond .eq 5, 3)) := fE fw_dX5_need_31_c 15 rfl
theorem dX5_need_61 : Eq (decode cX5_need 61) (Except.ok (Instr.iconst 2, 1)) := fE fw_dX5_need_31_c 16 rfl
theorem dX5_need_62 : Eq (decode cX5_need 62) (Except.ok (Instr.ireturn, 1)) := fE fw_dX5_need_31_c 17 rfl
theorem dX5_need_63 : Eq (decode cX5_need 63) (Except.ok (Instr.aload_n 0, 1)) := fE fw_dX5_need_31_c 18 rfl
theorem dX5_need_64 : Eq (decode cX5_need 64) (Except.ok (Instr.getfield 27, 3)) := fE fw_dX5_need_31_c 19 rfl
def fw_dX5_need_67 : List (Nat × Instr × Nat) := [(67, .iload_n 1, 1), (68, .iaload, 1), (69, .aload_n 0, 1), (70, .getfield 30, 3), (73, .iload_n 2, 1), (74, .iaload, 1), (75, .iand, 1), (76, .ifCond .ne 14, 3), (79, .aload_n 0, 1), (80, .getfield 15, 3), (83, .iload_n 2, 1), (84, .iaload, 1), (85, .bipush 9, 2), (87, .if_icmp .ne 5, 3), (90, .iconst 1, 1), (91, .ireturn, 1), (92, .iconst 0, 1), (93, .ireturn, 1)]
theorem fw_dX5_need_67_c : fchk 67 (cX5_need.data.toList.drop 67) fw_dX5_need_67 = true := by decide +kernel
theorem dX5_need_67 : Eq (decode cX5_need 67) (Except.ok (Instr.iload_n 1, 1)) := fE fw_dX5_need_67_c 0 rfl
theorem dX5_need_68 : Eq (decode cX5_need 68) (Except.ok (Instr.iaload, 1)) := fE fw_dX5_need_67_c 1 rfl
theorem dX5_need_69 : Eq (decode cX5_need 69) (Except.ok (Instr.aload_n 0, 1)) := fE fw_dX5_need_67_c 2 rfl
theorem dX5_need_70 : Eq (decode cX5_need 70) (Except.ok (Instr.getfield 30, 3)) := fE fw_dX5_need_67_c 3 rfl
theorem dX5_need_73 : Eq (decode cX5_need 73) (Except.ok (Instr.iload_n 2, 1)) := fE fw_dX5_need_67_c 4 rfl
theorem dX5_need_74 : Eq (decode cX5_need 74) (Except.ok (Instr.iaload, 1)) := fE fw_dX5_need_67_c 5 rfl
theorem dX5_need_75 : Eq (decode cX5_need 75) (Except.ok (Instr.iand, 1)) := fE fw_dX5_need_67_c 6 rfl
theorem dX5_need_76 : Eq (decode cX5_need 76) (Except.ok (Instr.ifCond .ne 14, 3)) := fE fw_dX5_need_67_c 7 rfl
theorem dX5_need_79 : Eq (decode cX5_need 79) (Except.ok (Instr.aload_n 0, 1)) := fE fw_dX5_need_67_c 8 rfl
theorem dX5_need_80 : Eq (decode cX5_need 80) (Except.ok (Instr.getfield 15, 3)) := fE fw_dX5_need_67_c 9 rfl
theorem dX5_need_83 : Eq (decode cX5_need 83) (Except.ok (Instr.iload_n 2, 1)) := fE fw_dX5_need_67_c 10 rfl
theorem dX5_need_84 : Eq (decode cX5_need 84) (Except.ok (Instr.iaload, 1)) := fE fw_dX5_need_67_c 11 rfl
theorem dX5_need_85 : Eq (decode cX5_need 85) (Except.ok (Instr.bipush 9, 2)) := fE fw_dX5_need_67_c 12 rfl
theorem dX5_need_87 : Eq (decode cX5_need 87) (Except.ok (Instr.if_icmp .ne 5, 3)) := fE fw_dX5_need_67_c 13 rfl
theorem dX5_need_90 : Eq (decode cX5_need 90) (Except.ok (Instr.iconst 1, 1)) := fE fw_dX5_need_67_c 14 rfl
theorem dX5_need_91 : Eq (decode cX5_need 91) (Except.ok (Instr.ireturn, 1)) := fE fw_dX5_need_67_c 15 rfl
theorem dX5_need_92 : Eq (decode cX5_need 92) (Except.ok (Instr.iconst 0, 1)) := fE fw_dX5_need_67_c 16 rfl
theorem dX5_need_93 : Eq (decode cX5_need 93) (Except.ok (Instr.ireturn, 1)) := fE fw_dX5_need_67_c 17 rfl
def fw_dX6_init_0 : List (Nat × Instr × Nat) := [(0, .aload_n 0, 1), (1, .invokespecial 3, 3), (4, .aload_n 0, 1), (5, .bipush 10, 2)]
theorem fw_dX6_init_0_c : fchk 0 (cX6_init.data.toList.drop 0) fw_dX6_init_0 = true := by decide +kernel
theorem dX6_init_0 : Eq (decode cX6_init 0) (Except.ok (Instr.aload_n 0, 1)) := fE fw_dX6_init_0_c 0 rfl
theorem dX6_init_1 : Eq (decode cX6_init 1) (Except.ok (Instr.invokespecial 3, 3)) := fE fw_dX6_init_0_c 1 rfl
theorem dX6_init_4 : Eq (decode cX6_init 4) (Except.ok (Instr.aload_n 0, 1)) := fE fw_dX6_init_0_c 2 rfl
theorem dX6_init_5 : Eq (decode cX6_init 5) (Except.ok (Instr.bipush 10, 2)) := fE fw_dX6_init_0_c 3 rfl
theorem dX6_init_7 : decode cX6_init 7 = .ok (.newarray .int, 2) := by decide +kernel
def fw_dX6_init_9 : List (Nat × Instr × Nat) := [(9, .putfield 9, 3), (12, .aload_n 0, 1), (13, .bipush 10, 2)]
theorem fw_dX6_init_9_c : fchk 9 (cX6_init.data.toList.drop 9) fw_dX6_init_9 = true := by decide +kernel
theorem dX6_init_9 : Eq (decode cX6_init 9) (Except.ok (Instr.putfield 9, 3)) := fE fw_dX6_init_9_c 0 rfl
theorem dX6_init_12 : Eq (decode cX6_init 12) (Except.ok (Instr.aload_n 0, 1)) := fE fw_dX6_init_9_c 1 rfl
theorem dX6_init_13 : Eq (decode cX6_init 13) (Except.ok (Instr.bipush 10, 2)) := fE fw_dX6_init_9_c 2 rfl
theorem dX6_init_15 : decode cX6_init 15 = .ok (.newarray .int, 2) := by decide +kernel
def fw_dX6_init_17 : List (Nat × Instr × Nat) := [(17, .putfield 15, 3), (20, .aload_n 0, 1), (21, .bipush 10, 2)]
theorem fw_dX6_init_17_c : fchk 17 (cX6_init.data.toList.drop 17) fw_dX6_init_17 = true := by decide +kernel
theorem dX6_init_17 : Eq (decode cX6_init 17) (Except.ok (Instr.putfield 15, 3)) := fE fw_dX6_init_17_c 0 rfl
theorem dX6_init_20 : Eq (decode cX6_init 20) (Except.ok (Instr.aload_n 0, 1)) := fE fw_dX6_init_17_c 1 rfl
theorem dX6_init_21 : Eq (decode cX6_init 21) (Except.ok (Instr.bipush 10, 2)) := fE fw_dX6_init_17_c 2 rfl
theorem dX6_init_23 : decode cX6_init 23 = .ok (.newarray .int, 2) := by decide +kernel
def fw_dX6_init_25 : List (Nat × Instr × Nat) := [(25, .putfield 18, 3), (28, .aload_n 0, 1), (29, .bipush 10, 2)]
theorem fw_dX6_init_25_c : fchk 25 (cX6_init.data.toList.drop 25) fw_dX6_init_25 = true := by decide +kernel
theorem dX6_init_25 : Eq (decode cX6_init 25) (Except.ok (Instr.putfield 18, 3)) := fE fw_dX6_init_25_c 0 rfl
theorem dX6_init_28 : Eq (decode cX6_init 28) (Except.ok (Instr.aload_n 0, 1)) := fE fw_dX6_init_25_c 1 rfl
theorem dX6_init_29 : Eq (decode cX6_init 29) (Except.ok (Instr.bipush 10, 2)) := fE fw_dX6_init_25_c 2 rfl
theorem dX6_init_31 : decode cX6_init 31 = .ok (.newarray .int, 2) := by decide +kernel
def fw_dX6_init_33 : List (Nat × Instr × Nat) := [(33, .putfield 21, 3), (36, .aload_n 0, 1), (37, .iconst 5, 1)]
theorem fw_dX6_init_33_c : fchk 33 (cX6_init.data.toList.drop 33) fw_dX6_init_33 = true := by decide +kernel
theorem dX6_init_33 : Eq (decode cX6_init 33) (Except.ok (Instr.putfield 21, 3)) := fE fw_dX6_init_33_c 0 rfl
theorem dX6_init_36 : Eq (decode cX6_init 36) (Except.ok (Instr.aload_n 0, 1)) := fE fw_dX6_init_33_c 1 rfl
theorem dX6_init_37 : Eq (decode cX6_init 37) (Except.ok (Instr.iconst 5, 1)) := fE fw_dX6_init_33_c 2 rfl
theorem dX6_init_38 : decode cX6_init 38 = .ok (.newarray .int, 2) := by decide +kernel
def fw_dX6_init_40 : List (Nat × Instr × Nat) := [(40, .putfield 24, 3), (43, .aload_n 0, 1), (44, .iconst 5, 1)]
theorem fw_dX6_init_40_c : fchk 40 (cX6_init.data.toList.drop 40) fw_dX6_init_40 = true := by decide +kernel
theorem dX6_init_40 : Eq (decode cX6_init 40) (Except.ok (Instr.putfield 24, 3)) := fE fw_dX6_init_40_c 0 rfl
theorem dX6_init_43 : Eq (decode cX6_init 43) (Except.ok (Instr.aload_n 0, 1)) := fE fw_dX6_init_40_c 1 rfl
theorem dX6_init_44 : Eq (decode cX6_init 44) (Except.ok (Instr.iconst 5, 1)) := fE fw_dX6_init_40_c 2 rfl
theorem dX6_init_45 : decode cX6_init 45 = .ok (.newarray .int, 2) := by decide +kernel
def fw_dX6_init_47 : List (Nat × Instr × Nat) := [(47, .putfield 27, 3), (50, .aload_n 0, 1), (51, .sipush 1024, 3)]
theorem fw_dX6_init_47_c : fchk 47 (cX6_init.data.toList.drop 47) fw_dX6_init_47 = true := by decide +kernel
theorem dX6_init_47 : Eq (decode cX6_init 47) (Except.ok (Instr.putfield 27, 3)) := fE fw_dX6_init_47_c 0 rfl
theorem dX6_init_50 : Eq (decode cX6_init 50) (Except.ok (Instr.aload_n 0, 1)) := fE fw_dX6_init_47_c 1 rfl
theorem dX6_init_51 : Eq (decode cX6_init 51) (Except.ok (Instr.sipush 1024, 3)) := fE fw_dX6_init_47_c 2 rfl
theorem dX6_init_54 : decode cX6_init 54 = .ok (.newarray .byte, 2) := by decide +kernel
def fw_dX6_init_56 : List (Nat × Instr × Nat) := [(56, .putfield 30, 3), (59, .aload_n 0, 1), (60, .aload_n 1, 1), (61, .putfield 34, 3), (64, .return_, 1)]
theorem fw_dX6_init_56_c : fchk 56 (cX6_init.data.toList.drop 56) fw_dX6_init_56 = true := by decide +kernel
theorem dX6_init_56 : Eq (decode cX6_init 56) (Except.ok (Instr.putfield 30, 3)) := fE fw_dX6_init_56_c 0 rfl
theorem dX6_init_59 : Eq (decode cX6_init 59) (Except.ok (Instr.aload_n 0, 1)) := fE fw_dX6_init_56_c 1 rfl
theorem dX6_init_60 : Eq (decode cX6_init 60) (Except.ok (Instr.aload_n 1, 1)) := fE fw_dX6_init_56_c 2 rfl
theorem dX6_init_61 : Eq (decode cX6_init 61) (Except.ok (Instr.putfield 34, 3)) := fE fw_dX6_init_56_c 3 rfl
theorem dX6_init_64 : Eq (decode cX6_init 64) (Except.ok (Instr.return_, 1)) := fE fw_dX6_init_56_c 4 rfl
set_option maxRecDepth 20000 in
theorem gi_wsX6_solve_0 : GoodIn wsX6_solve wsX6_solve_r1 := goodIn_sub (fun w h => List.mem_cons_of_mem _ (List.mem_append_left _ (List.mem_append_left _ (List.mem_append_left _ h)))) (by decide +kernel)
set_option maxRecDepth 20000 in
theorem gi_wsX6_solve_1 : GoodIn wsX6_solve wsX6_solve_r2 := goodIn_sub (fun w h => List.mem_cons_of_mem _ (List.mem_append_left _ (List.mem_append_left _ (List.mem_append_right _ (List.mem_append_left _ h))))) (by decide +kernel)
set_option maxRecDepth 20000 in
theorem gi_wsX6_solve_2 : GoodIn wsX6_solve wsX6_solve_r3 := goodIn_sub (fun w h => List.mem_cons_of_mem _ (List.mem_append_left _ (List.mem_append_left _ (List.mem_append_right _ (List.mem_append_right _ (List.mem_append_left _ h)))))) (by decide +kernel)
set_option maxRecDepth 20000 in
theorem gi_wsX6_solve_3 : GoodIn wsX6_solve wsX6_solve_r4 := goodIn_sub (fun w h => List.mem_cons_of_mem _ (List.mem_append_left _ (List.mem_append_left _ (List.mem_append_right _ (List.mem_append_right _ (List.mem_append_right _ h)))))) (by decide +kernel)
set_option maxRecDepth 20000 in
theorem gi_wsX6_solve_4 : GoodIn wsX6_solve wsX60 := goodIn_sub (fun w h => List.mem_cons_of_mem _ (List.mem_append_left _ (List.mem_append_right _ h))) (by decide +kernel)
set_option maxRecDepth 20000 in
theorem gi_wsX6_solve_5 : GoodIn wsX6_solve wsX50 := goodIn_sub (fun w h => List.mem_cons_of_mem _ (List.mem_append_right _ h)) (by decide +kernel)
def bs_wsX6_solve : List (List Cond) := [wsX6_solve_r1, wsX6_solve_r2, wsX6_solve_r3, wsX6_solve_r4, wsX60, wsX50]
theorem bs_wsX6_solve_in : ∀ b ∈ bs_wsX6_solve, GoodIn wsX6_solve b := List.forall_mem_cons.mpr ⟨gi_wsX6_solve_0, List.forall_mem_cons.mpr ⟨gi_wsX6_solve_1, List.forall_mem_cons.mpr ⟨gi_wsX6_solve_2, List.forall_mem_cons.mpr ⟨gi_wsX6_solve_3, List.forall_mem_cons.mpr ⟨gi_wsX6_solve_4, List.forall_mem_cons.mpr ⟨gi_wsX6_solve_5, (fun _ h => absurd h List.not_mem_nil)⟩⟩⟩⟩⟩⟩
set_option maxRecDepth 20000 in
theorem ggX6_solve_X6_learnParts : GoodIn wsX6_solve wsX6_learnParts := goodIn_k (gi_q bs_wsX6_solve_in _ [(0, 9)] rfl) (goodIn_app (goodIn_app (gi_q bs_wsX6_solve_in _ [(0, 10), (0, 11), (0, 2), (0, 0), (0, 12), (0, 13), (0, 14), (0, 15), (0, 16), (0, 17), (0, 18), (0, 19), (0, 20), (0, 21), (0, 22), (0, 23), (1, 0)] rfl) (gi_wsX6_solve_4)) (gi_wsX6_solve_5))
set_option maxRecDepth 20000 in
theorem gX6_solve_X6_learnParts : GoodIn wsX6_solve (wsV RX6 47 RX6 yX6_learnParts wsX6_learnParts) := goodIn_app (gi_q bs_wsX6_solve_in _ [(0, 5), (0, 6), (0, 7), (0, 8)] rfl) ggX6_solve_X6_learnParts
set_option maxRecDepth 20000 in
theorem ggX6_solve_X6_learnNeeds : GoodIn wsX6_solve wsX6_learnNeeds := goodIn_k (gi_q bs_wsX6_solve_in _ [(1, 4)] rfl) (goodIn_app (goodIn_app (goodIn_app (gi_q bs_wsX6_solve_in _ [(1, 5), (1, 6), (1, 7), (0, 2), (0, 0), (1, 8), (1, 9), (1, 10), (1, 11), (0, 12), (0, 13), (0, 14), (0, 15), (0, 16), (0, 17), (0, 18), (1, 12), (1, 13), (1, 14), (0, 22), (1, 15), (1, 16), (1, 17), (1, 0)] rfl) (gi_q bs_wsX6_solve_in _ [(1, 18), (1, 19), (1, 20), (1, 21)] rfl)) (gi_wsX6_solve_4)) (gi_wsX6_solve_5))
set_option maxRecDepth 20000 in
theorem gX6_solve_X6_learnNeeds : GoodIn wsX6_solve (wsV RX6 51 RX6 yX6_learnNeeds wsX6_learnNeeds) := goodIn_app (gi_q bs_wsX6_solve_in _ [(1, 1), (1, 2), (1, 3), (0, 8)] rfl) ggX6_solve_X6_learnNeeds
set_option maxRecDepth 20000 in
theorem ggX6_solve_X6_fill : GoodIn wsX6_solve wsX6_fill := goodIn_k (gi_q bs_wsX6_solve_in _ [(2, 0)] rfl) (goodIn_app (goodIn_app (gi_q bs_wsX6_solve_in _ [(0, 2), (0, 4), (0, 3), (2, 1), (2, 2), (2, 3), (2, 4), (0, 8), (2, 5), (0, 10), (0, 11), (1, 7), (2, 6), (2, 7), (2, 8), (2, 9), (2, 10), (2, 11), (2, 12), (2, 13), (0, 17), (2, 14), (2, 15), (2, 16)] rfl) (gi_q bs_wsX6_solve_in _ [(2, 17), (2, 18), (1, 5), (1, 6), (2, 19), (2, 20), (2, 21), (2, 22), (2, 23), (3, 0), (3, 1), (3, 2), (1, 22), (1, 23)] rfl)) (gi_wsX6_solve_4))
set_option maxRecDepth 20000 in
theorem gX6_solve_X6_fill : GoodIn wsX6_solve (va_wsS RX6 58 yX6_fill wsX6_fill) := goodIn_app (gi_q bs_wsX6_solve_in _ [(1, 22), (1, 23), (0, 8)] rfl) ggX6_solve_X6_fill
def fw_dX6_solve_0 : List (Nat × Instr × Nat) := [(0, .aload_n 0, 1), (1, .aload_n 0, 1), (2, .getfield 34, 3), (5, .getfield 38, 3), (8, .iload_n 1, 1), (9, .iaload, 1), (10, .putfield 43, 3), (13, .aload_n 0, 1), (14, .iload_n 1, 1), (15, .iload_n 2, 1), (16, .invokevirtual 47, 3), (19, .aload_n 0, 1), (20, .iload_n 1, 1), (21, .invokevirtual 51, 3), (24, .iconst 0, 1), (25, .istore_n 3, 1), (26, .iload_n 3, 1), (27, .iconst 1, 1), (28, .aload_n 0, 1), (29, .getfield 43, 3)]
theorem fw_dX6_solve_0_c : fchk 0 (cX6_solve.data.toList.drop 0) fw_dX6_solve_0 = true := by decide +kernel
theorem dX6_solve_0 : Eq (decode cX6_solve 0) (Except.ok (Instr.aload_n 0, 1)) := fE fw_dX6_solve_0_c 0 rfl
theorem dX6_solve_1 : Eq (decode cX6_solve 1) (Except.ok (Instr.aload_n 0, 1)) := fE fw_dX6_solve_0_c 1 rfl
theorem dX6_solve_2 : Eq (decode cX6_solve 2) (Except.ok (Instr.getfield 34, 3)) := fE fw_dX6_solve_0_c 2 rfl
theorem dX6_solve_5 : Eq (decode cX6_solve 5) (Except.ok (Instr.getfield 38, 3)) := fE fw_dX6_solve_0_c 3 rfl
theorem dX6_solve_8 : Eq (decode cX6_solve 8) (Except.ok (Instr.iload_n 1, 1)) := fE fw_dX6_solve_0_c 4 rfl
theorem dX6_solve_9 : Eq (decode cX6_solve 9) (Except.ok (Instr.iaload, 1)) := fE fw_dX6_solve_0_c 5 rfl
theorem dX6_solve_10 : Eq (decode cX6_solve 10) (Except.ok (Instr.putfield 43, 3)) := fE fw_dX6_solve_0_c 6 rfl
theorem dX6_solve_13 : Eq (decode cX6_solve 13) (Except.ok (Instr.aload_n 0, 1)) := fE fw_dX6_solve_0_c 7 rfl
theorem dX6_solve_14 : Eq (decode cX6_solve 14) (Except.ok (Instr.iload_n 1, 1)) := fE fw_dX6_solve_0_c 8 rfl
theorem dX6_solve_15 : Eq (decode cX6_solve 15) (Except.ok (Instr.iload_n 2, 1)) := fE fw_dX6_solve_0_c 9 rfl
theorem dX6_solve_16 : Eq (decode cX6_solve 16) (Except.ok (Instr.invokevirtual 47, 3)) := fE fw_dX6_solve_0_c 10 rfl
theorem dX6_solve_19 : Eq (decode cX6_solve 19) (Except.ok (Instr.aload_n 0, 1)) := fE fw_dX6_solve_0_c 11 rfl
theorem dX6_solve_20 : Eq (decode cX6_solve 20) (Except.ok (Instr.iload_n 1, 1)) := fE fw_dX6_solve_0_c 12 rfl
theorem dX6_solve_21 : Eq (decode cX6_solve 21) (Except.ok (Instr.invokevirtual 51, 3)) := fE fw_dX6_solve_0_c 13 rfl
theorem dX6_solve_24 : Eq (decode cX6_solve 24) (Except.ok (Instr.iconst 0, 1)) := fE fw_dX6_solve_0_c 14 rfl
theorem dX6_solve_25 : Eq (decode cX6_solve 25) (Except.ok (Instr.istore_n 3, 1)) := fE fw_dX6_solve_0_c 15 rfl
theorem dX6_solve_26 : Eq (decode cX6_solve 26) (Except.ok (Instr.iload_n 3, 1)) := fE fw_dX6_solve_0_c 16 rfl
theorem dX6_solve_27 : Eq (decode cX6_solve 27) (Except.ok (Instr.iconst 1, 1)) := fE fw_dX6_solve_0_c 17 rfl
theorem dX6_solve_28 : Eq (decode cX6_solve 28) (Except.ok (Instr.aload_n 0, 1)) := fE fw_dX6_solve_0_c 18 rfl
theorem dX6_solve_29 : Eq (decode cX6_solve 29) (Except.ok (Instr.getfield 43, 3)) := fE fw_dX6_solve_0_c 19 rfl
def fw_dX6_solve_32 : List (Nat × Instr × Nat) := [(32, .ishl, 1), (33, .if_icmp .ge 16, 3), (36, .aload_n 0, 1), (37, .getfield 30, 3), (40, .iload_n 3, 1), (41, .iconst 0, 1), (42, .bastore, 1)]
theorem fw_dX6_solve_32_c : fchk 32 (cX6_solve.data.toList.drop 32) fw_dX6_solve_32 = true := by decide +kernel
theorem dX6_solve_32 : Eq (decode cX6_solve 32) (Except.ok (Instr.ishl, 1)) := fE fw_dX6_solve_32_c 0 rfl
theorem dX6_solve_33 : Eq (decode cX6_solve 33) (Except.ok (Instr.if_icmp .ge 16, 3)) := fE fw_dX6_solve_32_c 1 rfl
theorem dX6_solve_36 : Eq (decode cX6_solve 36) (Except.ok (Instr.aload_n 0, 1)) := fE fw_dX6_solve_32_c 2 rfl
theorem dX6_solve_37 : Eq (decode cX6_solve 37) (Except.ok (Instr.getfield 30, 3)) := fE fw_dX6_solve_32_c 3 rfl
theorem dX6_solve_40 : Eq (decode cX6_solve 40) (Except.ok (Instr.iload_n 3, 1)) := fE fw_dX6_solve_32_c 4 rfl
theorem dX6_solve_41 : Eq (decode cX6_solve 41) (Except.ok (Instr.iconst 0, 1)) := fE fw_dX6_solve_32_c 5 rfl
theorem dX6_solve_42 : Eq (decode cX6_solve 42) (Except.ok (Instr.bastore, 1)) := fE fw_dX6_solve_32_c 6 rfl
theorem dX6_solve_43 : decode cX6_solve 43 = .ok (.iinc 3 1, 3) := by decide +kernel
def fw_dX6_solve_46 : List (Nat × Instr × Nat) := [(46, .goto (-20), 3), (49, .aload_n 0, 1), (50, .iconst 0, 1), (51, .putfield 55, 3), (54, .aload_n 0, 1), (55, .iconst 0, 1), (56, .iconst 0, 1), (57, .invokestatic 58, 3), (60, .ifCond .ne 27, 3), (63, .aload_n 0, 1), (64, .getfield 55, 3), (67, .aload_n 0, 1), (68, .getfield 43, 3), (71, .if_icmp .ge 16, 3), (74, .aload_n 0, 1), (75, .dup, 1), (76, .getfield 55, 3), (79, .iconst 1, 1), (80, .iadd, 1), (81, .putfield 55, 3)]
theorem fw_dX6_solve_46_c : fchk 46 (cX6_solve.data.toList.drop 46) fw_dX6_solve_46 = true := by decide +kernel
theorem dX6_solve_46 : Eq (decode cX6_solve 46) (Except.ok (Instr.goto (-20), 3)) := fE fw_dX6_solve_46_c 0 rfl
theorem dX6_solve_49 : Eq (decode cX6_solve 49) (Except.ok (Instr.aload_n 0, 1)) := fE fw_dX6_solve_46_c 1 rfl
theorem dX6_solve_50 : Eq (decode cX6_solve 50) (Except.ok (Instr.iconst 0, 1)) := fE fw_dX6_solve_46_c 2 rfl
theorem dX6_solve_51 : Eq (decode cX6_solve 51) (Except.ok (Instr.putfield 55, 3)) := fE fw_dX6_solve_46_c 3 rfl
theorem dX6_solve_54 : Eq (decode cX6_solve 54) (Except.ok (Instr.aload_n 0, 1)) := fE fw_dX6_solve_46_c 4 rfl
theorem dX6_solve_55 : Eq (decode cX6_solve 55) (Except.ok (Instr.iconst 0, 1)) := fE fw_dX6_solve_46_c 5 rfl
theorem dX6_solve_56 : Eq (decode cX6_solve 56) (Except.ok (Instr.iconst 0, 1)) := fE fw_dX6_solve_46_c 6 rfl
theorem dX6_solve_57 : Eq (decode cX6_solve 57) (Except.ok (Instr.invokestatic 58, 3)) := fE fw_dX6_solve_46_c 7 rfl
theorem dX6_solve_60 : Eq (decode cX6_solve 60) (Except.ok (Instr.ifCond .ne 27, 3)) := fE fw_dX6_solve_46_c 8 rfl
theorem dX6_solve_63 : Eq (decode cX6_solve 63) (Except.ok (Instr.aload_n 0, 1)) := fE fw_dX6_solve_46_c 9 rfl
theorem dX6_solve_64 : Eq (decode cX6_solve 64) (Except.ok (Instr.getfield 55, 3)) := fE fw_dX6_solve_46_c 10 rfl
theorem dX6_solve_67 : Eq (decode cX6_solve 67) (Except.ok (Instr.aload_n 0, 1)) := fE fw_dX6_solve_46_c 11 rfl
theorem dX6_solve_68 : Eq (decode cX6_solve 68) (Except.ok (Instr.getfield 43, 3)) := fE fw_dX6_solve_46_c 12 rfl
theorem dX6_solve_71 : Eq (decode cX6_solve 71) (Except.ok (Instr.if_icmp .ge 16, 3)) := fE fw_dX6_solve_46_c 13 rfl
theorem dX6_solve_74 : Eq (decode cX6_solve 74) (Except.ok (Instr.aload_n 0, 1)) := fE fw_dX6_solve_46_c 14 rfl
theorem dX6_solve_75 : Eq (decode cX6_solve 75) (Except.ok (Instr.dup, 1)) := fE fw_dX6_solve_46_c 15 rfl
theorem dX6_solve_76 : Eq (decode cX6_solve 76) (Except.ok (Instr.getfield 55, 3)) := fE fw_dX6_solve_46_c 16 rfl
theorem dX6_solve_79 : Eq (decode cX6_solve 79) (Except.ok (Instr.iconst 1, 1)) := fE fw_dX6_solve_46_c 17 rfl
theorem dX6_solve_80 : Eq (decode cX6_solve 80) (Except.ok (Instr.iadd, 1)) := fE fw_dX6_solve_46_c 18 rfl
theorem dX6_solve_81 : Eq (decode cX6_solve 81) (Except.ok (Instr.putfield 55, 3)) := fE fw_dX6_solve_46_c 19 rfl
def fw_dX6_solve_84 : List (Nat × Instr × Nat) := [(84, .goto (-30), 3), (87, .aload_n 0, 1), (88, .getfield 55, 3), (91, .ireturn, 1)]
theorem fw_dX6_solve_84_c : fchk 84 (cX6_solve.data.toList.drop 84) fw_dX6_solve_84 = true := by decide +kernel
theorem dX6_solve_84 : Eq (decode cX6_solve 84) (Except.ok (Instr.goto (-30), 3)) := fE fw_dX6_solve_84_c 0 rfl
theorem dX6_solve_87 : Eq (decode cX6_solve 87) (Except.ok (Instr.aload_n 0, 1)) := fE fw_dX6_solve_84_c 1 rfl
theorem dX6_solve_88 : Eq (decode cX6_solve 88) (Except.ok (Instr.getfield 55, 3)) := fE fw_dX6_solve_84_c 2 rfl
theorem dX6_solve_91 : Eq (decode cX6_solve 91) (Except.ok (Instr.ireturn, 1)) := fE fw_dX6_solve_84_c 3 rfl
set_option maxRecDepth 20000 in
theorem gi_wsX6_learnParts_0 : GoodIn wsX6_learnParts wsX6_learnParts := goodIn_sub (fun _ h => h) (by decide +kernel)
set_option maxRecDepth 20000 in
theorem gi_wsX6_learnParts_1 : GoodIn wsX6_learnParts wsX60 := goodIn_sub (fun w h => List.mem_cons_of_mem _ (List.mem_append_left _ (List.mem_append_right _ h))) (by decide +kernel)
set_option maxRecDepth 20000 in
theorem gi_wsX6_learnParts_2 : GoodIn wsX6_learnParts wsX50 := goodIn_sub (fun w h => List.mem_cons_of_mem _ (List.mem_append_right _ h)) (by decide +kernel)
def bs_wsX6_learnParts : List (List Cond) := [wsX6_learnParts, wsX60, wsX50]
theorem bs_wsX6_learnParts_in : ∀ b ∈ bs_wsX6_learnParts, GoodIn wsX6_learnParts b := List.forall_mem_cons.mpr ⟨gi_wsX6_learnParts_0, List.forall_mem_cons.mpr ⟨gi_wsX6_learnParts_1, List.forall_mem_cons.mpr ⟨gi_wsX6_learnParts_2, (fun _ h => absurd h List.not_mem_nil)⟩⟩⟩
set_option maxRecDepth 20000 in
theorem ggX6_learnParts_J7_fill_53178 : GoodIn wsX6_learnParts wsJ7_fill_53178 := goodIn_k (gi_q bs_wsX6_learnParts_in _ [(0, 8)] rfl) (gi_q bs_wsX6_learnParts_in _ [] rfl)
set_option maxRecDepth 20000 in
theorem gX6_learnParts_J7_fill_53178 : GoodIn wsX6_learnParts (va_wsS RX6 62 yJ7_fill_53178 wsJ7_fill_53178) := goodIn_app (gi_q bs_wsX6_learnParts_in _ [(0, 5), (0, 6), (0, 7)] rfl) ggX6_learnParts_J7_fill_53178
set_option maxRecDepth 20000 in
theorem ggX6_learnParts_X7_slot : GoodIn wsX6_learnParts wsX7_slot := goodIn_k (gi_q bs_wsX6_learnParts_in _ [(0, 11)] rfl) (gi_q bs_wsX6_learnParts_in _ [] rfl)
set_option maxRecDepth 20000 in
theorem gX6_learnParts_X7_slot_n67 : GoodIn wsX6_learnParts (wsX7_slot) := ggX6_learnParts_X7_slot
set_option maxRecDepth 20000 in
theorem ggX6_learnParts_X5_partOf : GoodIn wsX6_learnParts wsX5_partOf := goodIn_k (gi_q bs_wsX6_learnParts_in _ [(0, 16)] rfl) (goodIn_app (gi_q bs_wsX6_learnParts_in _ [(0, 17)] rfl) (gi_wsX6_learnParts_2))
set_option maxRecDepth 20000 in
theorem gX6_learnParts_X5_partOf : GoodIn wsX6_learnParts (wsV RX6 71 RX5 yX5_partOf wsX5_partOf) := goodIn_app (gi_q bs_wsX6_learnParts_in _ [(0, 12), (0, 13), (0, 14), (0, 15)] rfl) ggX6_learnParts_X5_partOf
def fw_dX6_learnParts_0 : List (Nat × Instr × Nat) := [(0, .aload_n 0, 1), (1, .getfield 24, 3), (4, .iconst 0, 1), (5, .invokestatic 62, 3), (8, .aload_n 0, 1), (9, .getfield 27, 3), (12, .iconst 1, 1), (13, .invokestatic 62, 3), (16, .aload_n 0, 1), (17, .getfield 27, 3), (20, .iconst 0, 1), (21, .iload_n 2, 1), (22, .iastore, 1), (23, .iconst 0, 1), (24, .istore_n 3, 1), (25, .iload_n 3, 1), (26, .aload_n 0, 1), (27, .getfield 43, 3), (30, .if_icmp .ge 32, 3), (33, .aload_n 0, 1)]
theorem fw_dX6_learnParts_0_c : fchk 0 (cX6_learnParts.data.toList.drop 0) fw_dX6_learnParts_0 = true := by decide +kernel
theorem dX6_learnParts_0 : Eq (decode cX6_learnParts 0) (Except.ok (Instr.aload_n 0, 1)) := fE fw_dX6_learnParts_0_c 0 rfl
theorem dX6_learnParts_1 : Eq (decode cX6_learnParts 1) (Except.ok (Instr.getfield 24, 3)) := fE fw_dX6_learnParts_0_c 1 rfl
theorem dX6_learnParts_4 : Eq (decode cX6_learnParts 4) (Except.ok (Instr.iconst 0, 1)) := fE fw_dX6_learnParts_0_c 2 rfl
theorem dX6_learnParts_5 : Eq (decode cX6_learnParts 5) (Except.ok (Instr.invokestatic 62, 3)) := fE fw_dX6_learnParts_0_c 3 rfl
theorem dX6_learnParts_8 : Eq (decode cX6_learnParts 8) (Except.ok (Instr.aload_n 0, 1)) := fE fw_dX6_learnParts_0_c 4 rfl
theorem dX6_learnParts_9 : Eq (decode cX6_learnParts 9) (Except.ok (Instr.getfield 27, 3)) := fE fw_dX6_learnParts_0_c 5 rfl
theorem dX6_learnParts_12 : Eq (decode cX6_learnParts 12) (Except.ok (Instr.iconst 1, 1)) := fE fw_dX6_learnParts_0_c 6 rfl
theorem dX6_learnParts_13 : Eq (decode cX6_learnParts 13) (Except.ok (Instr.invokestatic 62, 3)) := fE fw_dX6_learnParts_0_c 7 rfl
theorem dX6_learnParts_16 : Eq (decode cX6_learnParts 16) (Except.ok (Instr.aload_n 0, 1)) := fE fw_dX6_learnParts_0_c 8 rfl
theorem dX6_learnParts_17 : Eq (decode cX6_learnParts 17) (Except.ok (Instr.getfield 27, 3)) := fE fw_dX6_learnParts_0_c 9 rfl
theorem dX6_learnParts_20 : Eq (decode cX6_learnParts 20) (Except.ok (Instr.iconst 0, 1)) := fE fw_dX6_learnParts_0_c 10 rfl
theorem dX6_learnParts_21 : Eq (decode cX6_learnParts 21) (Except.ok (Instr.iload_n 2, 1)) := fE fw_dX6_learnParts_0_c 11 rfl
theorem dX6_learnParts_22 : Eq (decode cX6_learnParts 22) (Except.ok (Instr.iastore, 1)) := fE fw_dX6_learnParts_0_c 12 rfl
theorem dX6_learnParts_23 : Eq (decode cX6_learnParts 23) (Except.ok (Instr.iconst 0, 1)) := fE fw_dX6_learnParts_0_c 13 rfl
theorem dX6_learnParts_24 : Eq (decode cX6_learnParts 24) (Except.ok (Instr.istore_n 3, 1)) := fE fw_dX6_learnParts_0_c 14 rfl
theorem dX6_learnParts_25 : Eq (decode cX6_learnParts 25) (Except.ok (Instr.iload_n 3, 1)) := fE fw_dX6_learnParts_0_c 15 rfl
theorem dX6_learnParts_26 : Eq (decode cX6_learnParts 26) (Except.ok (Instr.aload_n 0, 1)) := fE fw_dX6_learnParts_0_c 16 rfl
theorem dX6_learnParts_27 : Eq (decode cX6_learnParts 27) (Except.ok (Instr.getfield 43, 3)) := fE fw_dX6_learnParts_0_c 17 rfl
theorem dX6_learnParts_30 : Eq (decode cX6_learnParts 30) (Except.ok (Instr.if_icmp .ge 32, 3)) := fE fw_dX6_learnParts_0_c 18 rfl
theorem dX6_learnParts_33 : Eq (decode cX6_learnParts 33) (Except.ok (Instr.aload_n 0, 1)) := fE fw_dX6_learnParts_0_c 19 rfl
def fw_dX6_learnParts_34 : List (Nat × Instr × Nat) := [(34, .getfield 24, 3), (37, .aload_n 0, 1), (38, .getfield 34, 3), (41, .iload_n 1, 1), (42, .iload_n 3, 1), (43, .invokestatic 67, 3), (46, .invokevirtual 71, 3), (49, .dup2, 1), (50, .iaload, 1), (51, .iconst 1, 1), (52, .iload_n 3, 1), (53, .ishl, 1), (54, .ior, 1), (55, .iastore, 1)]
theorem fw_dX6_learnParts_34_c : fchk 34 (cX6_learnParts.data.toList.drop 34) fw_dX6_learnParts_34 = true := by decide +kernel
theorem dX6_learnParts_34 : Eq (decode cX6_learnParts 34) (Except.ok (Instr.getfield 24, 3)) := fE fw_dX6_learnParts_34_c 0 rfl
theorem dX6_learnParts_37 : Eq (decode cX6_learnParts 37) (Except.ok (Instr.aload_n 0, 1)) := fE fw_dX6_learnParts_34_c 1 rfl
theorem dX6_learnParts_38 : Eq (decode cX6_learnParts 38) (Except.ok (Instr.getfield 34, 3)) := fE fw_dX6_learnParts_34_c 2 rfl
theorem dX6_learnParts_41 : Eq (decode cX6_learnParts 41) (Except.ok (Instr.iload_n 1, 1)) := fE fw_dX6_learnParts_34_c 3 rfl
theorem dX6_learnParts_42 : Eq (decode cX6_learnParts 42) (Except.ok (Instr.iload_n 3, 1)) := fE fw_dX6_learnParts_34_c 4 rfl
theorem dX6_learnParts_43 : Eq (decode cX6_learnParts 43) (Except.ok (Instr.invokestatic 67, 3)) := fE fw_dX6_learnParts_34_c 5 rfl
theorem dX6_learnParts_46 : Eq (decode cX6_learnParts 46) (Except.ok (Instr.invokevirtual 71, 3)) := fE fw_dX6_learnParts_34_c 6 rfl
theorem dX6_learnParts_49 : Eq (decode cX6_learnParts 49) (Except.ok (Instr.dup2, 1)) := fE fw_dX6_learnParts_34_c 7 rfl
theorem dX6_learnParts_50 : Eq (decode cX6_learnParts 50) (Except.ok (Instr.iaload, 1)) := fE fw_dX6_learnParts_34_c 8 rfl
theorem dX6_learnParts_51 : Eq (decode cX6_learnParts 51) (Except.ok (Instr.iconst 1, 1)) := fE fw_dX6_learnParts_34_c 9 rfl
theorem dX6_learnParts_52 : Eq (decode cX6_learnParts 52) (Except.ok (Instr.iload_n 3, 1)) := fE fw_dX6_learnParts_34_c 10 rfl
theorem dX6_learnParts_53 : Eq (decode cX6_learnParts 53) (Except.ok (Instr.ishl, 1)) := fE fw_dX6_learnParts_34_c 11 rfl
theorem dX6_learnParts_54 : Eq (decode cX6_learnParts 54) (Except.ok (Instr.ior, 1)) := fE fw_dX6_learnParts_34_c 12 rfl
theorem dX6_learnParts_55 : Eq (decode cX6_learnParts 55) (Except.ok (Instr.iastore, 1)) := fE fw_dX6_learnParts_34_c 13 rfl
theorem dX6_learnParts_56 : decode cX6_learnParts 56 = .ok (.iinc 3 1, 3) := by decide +kernel
def fw_dX6_learnParts_59 : List (Nat × Instr × Nat) := [(59, .goto (-34), 3), (62, .return_, 1)]
theorem fw_dX6_learnParts_59_c : fchk 59 (cX6_learnParts.data.toList.drop 59) fw_dX6_learnParts_59 = true := by decide +kernel
theorem dX6_learnParts_59 : Eq (decode cX6_learnParts 59) (Except.ok (Instr.goto (-34), 3)) := fE fw_dX6_learnParts_59_c 0 rfl
theorem dX6_learnParts_62 : Eq (decode cX6_learnParts 62) (Except.ok (Instr.return_, 1)) := fE fw_dX6_learnParts_59_c 1 rfl
set_option maxRecDepth 20000 in
theorem gi_wsX6_learnNeeds_0 : GoodIn wsX6_learnNeeds wsX6_learnNeeds_r1 := goodIn_sub (fun w h => List.mem_cons_of_mem _ (List.mem_append_left _ (List.mem_append_left _ (List.mem_append_left _ h)))) (by decide +kernel)
set_option maxRecDepth 20000 in
theorem gi_wsX6_learnNeeds_1 : GoodIn wsX6_learnNeeds wsX6_learnNeeds_r2 := goodIn_sub (fun w h => List.mem_cons_of_mem _ (List.mem_append_left _ (List.mem_append_left _ (List.mem_append_right _ h)))) (by decide +kernel)
set_option maxRecDepth 20000 in
theorem gi_wsX6_learnNeeds_2 : GoodIn wsX6_learnNeeds wsX60 := goodIn_sub (fun w h => List.mem_cons_of_mem _ (List.mem_append_left _ (List.mem_append_right _ h))) (by decide +kernel)
set_option maxRecDepth 20000 in
theorem gi_wsX6_learnNeeds_3 : GoodIn wsX6_learnNeeds wsX50 := goodIn_sub (fun w h => List.mem_cons_of_mem _ (List.mem_append_right _ h)) (by decide +kernel)
def bs_wsX6_learnNeeds : List (List Cond) := [wsX6_learnNeeds_r1, wsX6_learnNeeds_r2, wsX60, wsX50]
theorem bs_wsX6_learnNeeds_in : ∀ b ∈ bs_wsX6_learnNeeds, GoodIn wsX6_learnNeeds b := List.forall_mem_cons.mpr ⟨gi_wsX6_learnNeeds_0, List.forall_mem_cons.mpr ⟨gi_wsX6_learnNeeds_1, List.forall_mem_cons.mpr ⟨gi_wsX6_learnNeeds_2, List.forall_mem_cons.mpr ⟨gi_wsX6_learnNeeds_3, (fun _ h => absurd h List.not_mem_nil)⟩⟩⟩⟩
set_option maxRecDepth 20000 in
theorem ggX6_learnNeeds_J7_fill_53178 : GoodIn wsX6_learnNeeds wsJ7_fill_53178 := goodIn_k (gi_q bs_wsX6_learnNeeds_in _ [(0, 12)] rfl) (gi_q bs_wsX6_learnNeeds_in _ [] rfl)
set_option maxRecDepth 20000 in
theorem gX6_learnNeeds_J7_fill_53178 : GoodIn wsX6_learnNeeds (va_wsS RX6 62 yJ7_fill_53178 wsJ7_fill_53178) := goodIn_app (gi_q bs_wsX6_learnNeeds_in _ [(0, 9), (0, 10), (0, 11)] rfl) ggX6_learnNeeds_J7_fill_53178
set_option maxRecDepth 20000 in
theorem ggX6_learnNeeds_X7_slot : GoodIn wsX6_learnNeeds wsX7_slot := goodIn_k (gi_q bs_wsX6_learnNeeds_in _ [(0, 15)] rfl) (gi_q bs_wsX6_learnNeeds_in _ [] rfl)
set_option maxRecDepth 20000 in
theorem gX6_learnNeeds_X7_slot_n67 : GoodIn wsX6_learnNeeds (wsX7_slot) := ggX6_learnNeeds_X7_slot
set_option maxRecDepth 20000 in
theorem ggX6_learnNeeds_X5_need : GoodIn wsX6_learnNeeds wsX5_need := goodIn_k (gi_q bs_wsX6_learnNeeds_in _ [(0, 20)] rfl) (goodIn_app (gi_q bs_wsX6_learnNeeds_in _ [(0, 21), (0, 22), (0, 23), (1, 0), (1, 1), (1, 2), (0, 19), (1, 3)] rfl) (gi_wsX6_learnNeeds_3))
set_option maxRecDepth 20000 in
theorem gX6_learnNeeds_X5_need : GoodIn wsX6_learnNeeds (wsV RX6 75 RX5 yX5_need wsX5_need) := goodIn_app (gi_q bs_wsX6_learnNeeds_in _ [(0, 16), (0, 17), (0, 18), (0, 19)] rfl) ggX6_learnNeeds_X5_need
def fw_dX6_learnNeeds_0 : List (Nat × Instr × Nat) := [(0, .aload_n 0, 1), (1, .getfield 15, 3), (4, .iconst 0, 1), (5, .invokestatic 62, 3), (8, .aload_n 0, 1), (9, .getfield 18, 3), (12, .iconst 0, 1), (13, .invokestatic 62, 3), (16, .aload_n 0, 1), (17, .getfield 21, 3), (20, .iconst 0, 1), (21, .invokestatic 62, 3), (24, .aload_n 0, 1), (25, .getfield 43, 3), (28, .iconst 1, 1), (29, .isub, 1), (30, .istore_n 2, 1), (31, .iload_n 2, 1), (32, .ifCond .lt 129, 3), (35, .iload_n 2, 1)]
theorem fw_dX6_learnNeeds_0_c : fchk 0 (cX6_learnNeeds.data.toList.drop 0) fw_dX6_learnNeeds_0 = true := by decide +kernel
theorem dX6_learnNeeds_0 : Eq (decode cX6_learnNeeds 0) (Except.ok (Instr.aload_n 0, 1)) := fE fw_dX6_learnNeeds_0_c 0 rfl
theorem dX6_learnNeeds_1 : Eq (decode cX6_learnNeeds 1) (Except.ok (Instr.getfield 15, 3)) := fE fw_dX6_learnNeeds_0_c 1 rfl
theorem dX6_learnNeeds_4 : Eq (decode cX6_learnNeeds 4) (Except.ok (Instr.iconst 0, 1)) := fE fw_dX6_learnNeeds_0_c 2 rfl
theorem dX6_learnNeeds_5 : Eq (decode cX6_learnNeeds 5) (Except.ok (Instr.invokestatic 62, 3)) := fE fw_dX6_learnNeeds_0_c 3 rfl
theorem dX6_learnNeeds_8 : Eq (decode cX6_learnNeeds 8) (Except.ok (Instr.aload_n 0, 1)) := fE fw_dX6_learnNeeds_0_c 4 rfl
theorem dX6_learnNeeds_9 : Eq (decode cX6_learnNeeds 9) (Except.ok (Instr.getfield 18, 3)) := fE fw_dX6_learnNeeds_0_c 5 rfl
theorem dX6_learnNeeds_12 : Eq (decode cX6_learnNeeds 12) (Except.ok (Instr.iconst 0, 1)) := fE fw_dX6_learnNeeds_0_c 6 rfl
theorem dX6_learnNeeds_13 : Eq (decode cX6_learnNeeds 13) (Except.ok (Instr.invokestatic 62, 3)) := fE fw_dX6_learnNeeds_0_c 7 rfl
theorem dX6_learnNeeds_16 : Eq (decode cX6_learnNeeds 16) (Except.ok (Instr.aload_n 0, 1)) := fE fw_dX6_learnNeeds_0_c 8 rfl
theorem dX6_learnNeeds_17 : Eq (decode cX6_learnNeeds 17) (Except.ok (Instr.getfield 21, 3)) := fE fw_dX6_learnNeeds_0_c 9 rfl
theorem dX6_learnNeeds_20 : Eq (decode cX6_learnNeeds 20) (Except.ok (Instr.iconst 0, 1)) := fE fw_dX6_learnNeeds_0_c 10 rfl
theorem dX6_learnNeeds_21 : Eq (decode cX6_learnNeeds 21) (Except.ok (Instr.invokestatic 62, 3)) := fE fw_dX6_learnNeeds_0_c 11 rfl
theorem dX6_learnNeeds_24 : Eq (decode cX6_learnNeeds 24) (Except.ok (Instr.aload_n 0, 1)) := fE fw_dX6_learnNeeds_0_c 12 rfl
theorem dX6_learnNeeds_25 : Eq (decode cX6_learnNeeds 25) (Except.ok (Instr.getfield 43, 3)) := fE fw_dX6_learnNeeds_0_c 13 rfl
theorem dX6_learnNeeds_28 : Eq (decode cX6_learnNeeds 28) (Except.ok (Instr.iconst 1, 1)) := fE fw_dX6_learnNeeds_0_c 14 rfl
theorem dX6_learnNeeds_29 : Eq (decode cX6_learnNeeds 29) (Except.ok (Instr.isub, 1)) := fE fw_dX6_learnNeeds_0_c 15 rfl
theorem dX6_learnNeeds_30 : Eq (decode cX6_learnNeeds 30) (Except.ok (Instr.istore_n 2, 1)) := fE fw_dX6_learnNeeds_0_c 16 rfl
theorem dX6_learnNeeds_31 : Eq (decode cX6_learnNeeds 31) (Except.ok (Instr.iload_n 2, 1)) := fE fw_dX6_learnNeeds_0_c 17 rfl
theorem dX6_learnNeeds_32 : Eq (decode cX6_learnNeeds 32) (Except.ok (Instr.ifCond .lt 129, 3)) := fE fw_dX6_learnNeeds_0_c 18 rfl
theorem dX6_learnNeeds_35 : Eq (decode cX6_learnNeeds 35) (Except.ok (Instr.iload_n 2, 1)) := fE fw_dX6_learnNeeds_0_c 19 rfl
def fw_dX6_learnNeeds_36 : List (Nat × Instr × Nat) := [(36, .iconst 1, 1), (37, .iadd, 1), (38, .istore_n 3, 1), (39, .iload_n 3, 1), (40, .aload_n 0, 1), (41, .getfield 43, 3), (44, .if_icmp .ge 111, 3), (47, .aload_n 0, 1), (48, .getfield 34, 3), (51, .iload_n 1, 1), (52, .iload_n 2, 1), (53, .invokestatic 67, 3), (56, .iload_n 1, 1), (57, .iload_n 3, 1), (58, .invokestatic 67, 3), (61, .invokevirtual 75, 3), (64, .istore 4, 2), (66, .iload 4, 2), (68, .iconst 2, 1), (69, .if_icmp .ne 41, 3)]
theorem fw_dX6_learnNeeds_36_c : fchk 36 (cX6_learnNeeds.data.toList.drop 36) fw_dX6_learnNeeds_36 = true := by decide +kernel
theorem dX6_learnNeeds_36 : Eq (decode cX6_learnNeeds 36) (Except.ok (Instr.iconst 1, 1)) := fE fw_dX6_learnNeeds_36_c 0 rfl
theorem dX6_learnNeeds_37 : Eq (decode cX6_learnNeeds 37) (Except.ok (Instr.iadd, 1)) := fE fw_dX6_learnNeeds_36_c 1 rfl
theorem dX6_learnNeeds_38 : Eq (decode cX6_learnNeeds 38) (Except.ok (Instr.istore_n 3, 1)) := fE fw_dX6_learnNeeds_36_c 2 rfl
theorem dX6_learnNeeds_39 : Eq (decode cX6_learnNeeds 39) (Except.ok (Instr.iload_n 3, 1)) := fE fw_dX6_learnNeeds_36_c 3 rfl
theorem dX6_learnNeeds_40 : Eq (decode cX6_learnNeeds 40) (Except.ok (Instr.aload_n 0, 1)) := fE fw_dX6_learnNeeds_36_c 4 rfl
theorem dX6_learnNeeds_41 : Eq (decode cX6_learnNeeds 41) (Except.ok (Instr.getfield 43, 3)) := fE fw_dX6_learnNeeds_36_c 5 rfl
theorem dX6_learnNeeds_44 : Eq (decode cX6_learnNeeds 44) (Except.ok (Instr.if_icmp .ge 111, 3)) := fE fw_dX6_learnNeeds_36_c 6 rfl
theorem dX6_learnNeeds_47 : Eq (decode cX6_learnNeeds 47) (Except.ok (Instr.aload_n 0, 1)) := fE fw_dX6_learnNeeds_36_c 7 rfl
theorem dX6_learnNeeds_48 : Eq (decode cX6_learnNeeds 48) (Except.ok (Instr.getfield 34, 3)) := fE fw_dX6_learnNeeds_36_c 8 rfl
theorem dX6_learnNeeds_51 : Eq (decode cX6_learnNeeds 51) (Except.ok (Instr.iload_n 1, 1)) := fE fw_dX6_learnNeeds_36_c 9 rfl
theorem dX6_learnNeeds_52 : Eq (decode cX6_learnNeeds 52) (Except.ok (Instr.iload_n 2, 1)) := fE fw_dX6_learnNeeds_36_c 10 rfl
theorem dX6_learnNeeds_53 : Eq (decode cX6_learnNeeds 53) (Except.ok (Instr.invokestatic 67, 3)) := fE fw_dX6_learnNeeds_36_c 11 rfl
theorem dX6_learnNeeds_56 : Eq (decode cX6_learnNeeds 56) (Except.ok (Instr.iload_n 1, 1)) := fE fw_dX6_learnNeeds_36_c 12 rfl
theorem dX6_learnNeeds_57 : Eq (decode cX6_learnNeeds 57) (Except.ok (Instr.iload_n 3, 1)) := fE fw_dX6_learnNeeds_36_c 13 rfl
theorem dX6_learnNeeds_58 : Eq (decode cX6_learnNeeds 58) (Except.ok (Instr.invokestatic 67, 3)) := fE fw_dX6_learnNeeds_36_c 14 rfl
theorem dX6_learnNeeds_61 : Eq (decode cX6_learnNeeds 61) (Except.ok (Instr.invokevirtual 75, 3)) := fE fw_dX6_learnNeeds_36_c 15 rfl
theorem dX6_learnNeeds_64 : Eq (decode cX6_learnNeeds 64) (Except.ok (Instr.istore 4, 2)) := fE fw_dX6_learnNeeds_36_c 16 rfl
theorem dX6_learnNeeds_66 : Eq (decode cX6_learnNeeds 66) (Except.ok (Instr.iload 4, 2)) := fE fw_dX6_learnNeeds_36_c 17 rfl
theorem dX6_learnNeeds_68 : Eq (decode cX6_learnNeeds 68) (Except.ok (Instr.iconst 2, 1)) := fE fw_dX6_learnNeeds_36_c 18 rfl
theorem dX6_learnNeeds_69 : Eq (decode cX6_learnNeeds 69) (Except.ok (Instr.if_icmp .ne 41, 3)) := fE fw_dX6_learnNeeds_36_c 19 rfl
def fw_dX6_learnNeeds_72 : List (Nat × Instr × Nat) := [(72, .aload_n 0, 1), (73, .getfield 15, 3), (76, .iload_n 3, 1), (77, .dup2, 1), (78, .iaload, 1), (79, .iconst 1, 1), (80, .iload_n 2, 1), (81, .ishl, 1), (82, .ior, 1), (83, .iastore, 1), (84, .aload_n 0, 1), (85, .getfield 21, 3), (88, .iload_n 2, 1), (89, .aload_n 0, 1), (90, .getfield 21, 3), (93, .iload_n 2, 1), (94, .iaload, 1), (95, .aload_n 0, 1), (96, .getfield 21, 3), (99, .iload_n 3, 1)]
theorem fw_dX6_learnNeeds_72_c : fchk 72 (cX6_learnNeeds.data.toList.drop 72) fw_dX6_learnNeeds_72 = true := by decide +kernel
theorem dX6_learnNeeds_72 : Eq (decode cX6_learnNeeds 72) (Except.ok (Instr.aload_n 0, 1)) := fE fw_dX6_learnNeeds_72_c 0 rfl
theorem dX6_learnNeeds_73 : Eq (decode cX6_learnNeeds 73) (Except.ok (Instr.getfield 15, 3)) := fE fw_dX6_learnNeeds_72_c 1 rfl
theorem dX6_learnNeeds_76 : Eq (decode cX6_learnNeeds 76) (Except.ok (Instr.iload_n 3, 1)) := fE fw_dX6_learnNeeds_72_c 2 rfl
theorem dX6_learnNeeds_77 : Eq (decode cX6_learnNeeds 77) (Except.ok (Instr.dup2, 1)) := fE fw_dX6_learnNeeds_72_c 3 rfl
theorem dX6_learnNeeds_78 : Eq (decode cX6_learnNeeds 78) (Except.ok (Instr.iaload, 1)) := fE fw_dX6_learnNeeds_72_c 4 rfl
theorem dX6_learnNeeds_79 : Eq (decode cX6_learnNeeds 79) (Except.ok (Instr.iconst 1, 1)) := fE fw_dX6_learnNeeds_72_c 5 rfl
theorem dX6_learnNeeds_80 : Eq (decode cX6_learnNeeds 80) (Except.ok (Instr.iload_n 2, 1)) := fE fw_dX6_learnNeeds_72_c 6 rfl
theorem dX6_learnNeeds_81 : Eq (decode cX6_learnNeeds 81) (Except.ok (Instr.ishl, 1)) := fE fw_dX6_learnNeeds_72_c 7 rfl
theorem dX6_learnNeeds_82 : Eq (decode cX6_learnNeeds 82) (Except.ok (Instr.ior, 1)) := fE fw_dX6_learnNeeds_72_c 8 rfl
theorem dX6_learnNeeds_83 : Eq (decode cX6_learnNeeds 83) (Except.ok (Instr.iastore, 1)) := fE fw_dX6_learnNeeds_72_c 9 rfl
theorem dX6_learnNeeds_84 : Eq (decode cX6_learnNeeds 84) (Except.ok (Instr.aload_n 0, 1)) := fE fw_dX6_learnNeeds_72_c 10 rfl
theorem dX6_learnNeeds_85 : Eq (decode cX6_learnNeeds 85) (Except.ok (Instr.getfield 21, 3)) := fE fw_dX6_learnNeeds_72_c 11 rfl
theorem dX6_learnNeeds_88 : Eq (decode cX6_learnNeeds 88) (Except.ok (Instr.iload_n 2, 1)) := fE fw_dX6_learnNeeds_72_c 12 rfl
theorem dX6_learnNeeds_89 : Eq (decode cX6_learnNeeds 89) (Except.ok (Instr.aload_n 0, 1)) := fE fw_dX6_learnNeeds_72_c 13 rfl
theorem dX6_learnNeeds_90 : Eq (decode cX6_learnNeeds 90) (Except.ok (Instr.getfield 21, 3)) := fE fw_dX6_learnNeeds_72_c 14 rfl
theorem dX6_learnNeeds_93 : Eq (decode cX6_learnNeeds 93) (Except.ok (Instr.iload_n 2, 1)) := fE fw_dX6_learnNeeds_72_c 15 rfl
theorem dX6_learnNeeds_94 : Eq (decode cX6_learnNeeds 94) (Except.ok (Instr.iaload, 1)) := fE fw_dX6_learnNeeds_72_c 16 rfl
theorem dX6_learnNeeds_95 : Eq (decode cX6_learnNeeds 95) (Except.ok (Instr.aload_n 0, 1)) := fE fw_dX6_learnNeeds_72_c 17 rfl
theorem dX6_learnNeeds_96 : Eq (decode cX6_learnNeeds 96) (Except.ok (Instr.getfield 21, 3)) := fE fw_dX6_learnNeeds_72_c 18 rfl
theorem dX6_learnNeeds_99 : Eq (decode cX6_learnNeeds 99) (Except.ok (Instr.iload_n 3, 1)) := fE fw_dX6_learnNeeds_72_c 19 rfl
def fw_dX6_learnNeeds_100 : List (Nat × Instr × Nat) := [(100, .iaload, 1), (101, .iconst 1, 1), (102, .iadd, 1), (103, .invokestatic 78, 3), (106, .iastore, 1), (107, .goto 42, 3), (110, .iload 4, 2), (112, .iconst 1, 1), (113, .if_icmp .ne 36, 3), (116, .aload_n 0, 1), (117, .getfield 18, 3), (120, .iload_n 3, 1), (121, .dup2, 1), (122, .iaload, 1), (123, .iconst 1, 1), (124, .iload_n 2, 1), (125, .ishl, 1), (126, .ior, 1), (127, .iastore, 1), (128, .aload_n 0, 1)]
theorem fw_dX6_learnNeeds_100_c : fchk 100 (cX6_learnNeeds.data.toList.drop 100) fw_dX6_learnNeeds_100 = true := by decide +kernel
theorem dX6_learnNeeds_100 : Eq (decode cX6_learnNeeds 100) (Except.ok (Instr.iaload, 1)) := fE fw_dX6_learnNeeds_100_c 0 rfl
theorem dX6_learnNeeds_101 : Eq (decode cX6_learnNeeds 101) (Except.ok (Instr.iconst 1, 1)) := fE fw_dX6_learnNeeds_100_c 1 rfl
theorem dX6_learnNeeds_102 : Eq (decode cX6_learnNeeds 102) (Except.ok (Instr.iadd, 1)) := fE fw_dX6_learnNeeds_100_c 2 rfl
theorem dX6_learnNeeds_103 : Eq (decode cX6_learnNeeds 103) (Except.ok (Instr.invokestatic 78, 3)) := fE fw_dX6_learnNeeds_100_c 3 rfl
theorem dX6_learnNeeds_106 : Eq (decode cX6_learnNeeds 106) (Except.ok (Instr.iastore, 1)) := fE fw_dX6_learnNeeds_100_c 4 rfl
theorem dX6_learnNeeds_107 : Eq (decode cX6_learnNeeds 107) (Except.ok (Instr.goto 42, 3)) := fE fw_dX6_learnNeeds_100_c 5 rfl
theorem dX6_learnNeeds_110 : Eq (decode cX6_learnNeeds 110) (Except.ok (Instr.iload 4, 2)) := fE fw_dX6_learnNeeds_100_c 6 rfl
theorem dX6_learnNeeds_112 : Eq (decode cX6_learnNeeds 112) (Except.ok (Instr.iconst 1, 1)) := fE fw_dX6_learnNeeds_100_c 7 rfl
theorem dX6_learnNeeds_113 : Eq (decode cX6_learnNeeds 113) (Except.ok (Instr.if_icmp .ne 36, 3)) := fE fw_dX6_learnNeeds_100_c 8 rfl
theorem dX6_learnNeeds_116 : Eq (decode cX6_learnNeeds 116) (Except.ok (Instr.aload_n 0, 1)) := fE fw_dX6_learnNeeds_100_c 9 rfl
theorem dX6_learnNeeds_117 : Eq (decode cX6_learnNeeds 117) (Except.ok (Instr.getfield 18, 3)) := fE fw_dX6_learnNeeds_100_c 10 rfl
theorem dX6_learnNeeds_120 : Eq (decode cX6_learnNeeds 120) (Except.ok (Instr.iload_n 3, 1)) := fE fw_dX6_learnNeeds_100_c 11 rfl
theorem dX6_learnNeeds_121 : Eq (decode cX6_learnNeeds 121) (Except.ok (Instr.dup2, 1)) := fE fw_dX6_learnNeeds_100_c 12 rfl
theorem dX6_learnNeeds_122 : Eq (decode cX6_learnNeeds 122) (Except.ok (Instr.iaload, 1)) := fE fw_dX6_learnNeeds_100_c 13 rfl
theorem dX6_learnNeeds_123 : Eq (decode cX6_learnNeeds 123) (Except.ok (Instr.iconst 1, 1)) := fE fw_dX6_learnNeeds_100_c 14 rfl
theorem dX6_learnNeeds_124 : Eq (decode cX6_learnNeeds 124) (Except.ok (Instr.iload_n 2, 1)) := fE fw_dX6_learnNeeds_100_c 15 rfl
theorem dX6_learnNeeds_125 : Eq (decode cX6_learnNeeds 125) (Except.ok (Instr.ishl, 1)) := fE fw_dX6_learnNeeds_100_c 16 rfl
theorem dX6_learnNeeds_126 : Eq (decode cX6_learnNeeds 126) (Except.ok (Instr.ior, 1)) := fE fw_dX6_learnNeeds_100_c 17 rfl
theorem dX6_learnNeeds_127 : Eq (decode cX6_learnNeeds 127) (Except.ok (Instr.iastore, 1)) := fE fw_dX6_learnNeeds_100_c 18 rfl
theorem dX6_learnNeeds_128 : Eq (decode cX6_learnNeeds 128) (Except.ok (Instr.aload_n 0, 1)) := fE fw_dX6_learnNeeds_100_c 19 rfl
def fw_dX6_learnNeeds_129 : List (Nat × Instr × Nat) := [(129, .getfield 21, 3), (132, .iload_n 2, 1), (133, .aload_n 0, 1), (134, .getfield 21, 3), (137, .iload_n 2, 1), (138, .iaload, 1), (139, .aload_n 0, 1), (140, .getfield 21, 3), (143, .iload_n 3, 1), (144, .iaload, 1), (145, .invokestatic 78, 3), (148, .iastore, 1)]
theorem fw_dX6_learnNeeds_129_c : fchk 129 (cX6_learnNeeds.data.toList.drop 129) fw_dX6_learnNeeds_129 = true := by decide +kernel
theorem dX6_learnNeeds_129 : Eq (decode cX6_learnNeeds 129) (Except.ok (Instr.getfield 21, 3)) := fE fw_dX6_learnNeeds_129_c 0 rfl
theorem dX6_learnNeeds_132 : Eq (decode cX6_learnNeeds 132) (Except.ok (Instr.iload_n 2, 1)) := fE fw_dX6_learnNeeds_129_c 1 rfl
theorem dX6_learnNeeds_133 : Eq (decode cX6_learnNeeds 133) (Except.ok (Instr.aload_n 0, 1)) := fE fw_dX6_learnNeeds_129_c 2 rfl
theorem dX6_learnNeeds_134 : Eq (decode cX6_learnNeeds 134) (Except.ok (Instr.getfield 21, 3)) := fE fw_dX6_learnNeeds_129_c 3 rfl
theorem dX6_learnNeeds_137 : Eq (decode cX6_learnNeeds 137) (Except.ok (Instr.iload_n 2, 1)) := fE fw_dX6_learnNeeds_129_c 4 rfl
theorem dX6_learnNeeds_138 : Eq (decode cX6_learnNeeds 138) (Except.ok (Instr.iaload, 1)) := fE fw_dX6_learnNeeds_129_c 5 rfl
theorem dX6_learnNeeds_139 : Eq (decode cX6_learnNeeds 139) (Except.ok (Instr.aload_n 0, 1)) := fE fw_dX6_learnNeeds_129_c 6 rfl
theorem dX6_learnNeeds_140 : Eq (decode cX6_learnNeeds 140) (Except.ok (Instr.getfield 21, 3)) := fE fw_dX6_learnNeeds_129_c 7 rfl
theorem dX6_learnNeeds_143 : Eq (decode cX6_learnNeeds 143) (Except.ok (Instr.iload_n 3, 1)) := fE fw_dX6_learnNeeds_129_c 8 rfl
theorem dX6_learnNeeds_144 : Eq (decode cX6_learnNeeds 144) (Except.ok (Instr.iaload, 1)) := fE fw_dX6_learnNeeds_129_c 9 rfl
theorem dX6_learnNeeds_145 : Eq (decode cX6_learnNeeds 145) (Except.ok (Instr.invokestatic 78, 3)) := fE fw_dX6_learnNeeds_129_c 10 rfl
theorem dX6_learnNeeds_148 : Eq (decode cX6_learnNeeds 148) (Except.ok (Instr.iastore, 1)) := fE fw_dX6_learnNeeds_129_c 11 rfl
theorem dX6_learnNeeds_149 : decode cX6_learnNeeds 149 = .ok (.iinc 3 1, 3) := by decide +kernel
def fw_dX6_learnNeeds_152 : List (Nat × Instr × Nat) := [(152, .goto (-113), 3)]
theorem fw_dX6_learnNeeds_152_c : fchk 152 (cX6_learnNeeds.data.toList.drop 152) fw_dX6_learnNeeds_152 = true := by decide +kernel
theorem dX6_learnNeeds_152 : Eq (decode cX6_learnNeeds 152) (Except.ok (Instr.goto (-113), 3)) := fE fw_dX6_learnNeeds_152_c 0 rfl
theorem dX6_learnNeeds_155 : decode cX6_learnNeeds 155 = .ok (.iinc 2 (-1), 3) := by decide +kernel
def fw_dX6_learnNeeds_158 : List (Nat × Instr × Nat) := [(158, .goto (-127), 3), (161, .return_, 1)]
theorem fw_dX6_learnNeeds_158_c : fchk 158 (cX6_learnNeeds.data.toList.drop 158) fw_dX6_learnNeeds_158 = true := by decide +kernel
theorem dX6_learnNeeds_158 : Eq (decode cX6_learnNeeds 158) (Except.ok (Instr.goto (-127), 3)) := fE fw_dX6_learnNeeds_158_c 0 rfl
theorem dX6_learnNeeds_161 : Eq (decode cX6_learnNeeds 161) (Except.ok (Instr.return_, 1)) := fE fw_dX6_learnNeeds_158_c 1 rfl
set_option maxRecDepth 20000 in
theorem gi_wsX6_fill_0 : GoodIn wsX6_fill wsX6_fill_r1 := goodIn_sub (fun w h => List.mem_cons_of_mem _ (List.mem_append_left _ (List.mem_append_left _ h))) (by decide +kernel)
set_option maxRecDepth 20000 in
theorem gi_wsX6_fill_1 : GoodIn wsX6_fill wsX6_fill_r2 := goodIn_sub (fun w h => List.mem_cons_of_mem _ (List.mem_append_left _ (List.mem_append_right _ h))) (by decide +kernel)
set_option maxRecDepth 20000 in
theorem gi_wsX6_fill_2 : GoodIn wsX6_fill wsX60 := goodIn_sub (fun w h => List.mem_cons_of_mem _ (List.mem_append_right _ h)) (by decide +kernel)
def bs_wsX6_fill : List (List Cond) := [wsX6_fill_r1, wsX6_fill_r2, wsX60]
theorem bs_wsX6_fill_in : ∀ b ∈ bs_wsX6_fill, GoodIn wsX6_fill b := List.forall_mem_cons.mpr ⟨gi_wsX6_fill_0, List.forall_mem_cons.mpr ⟨gi_wsX6_fill_1, List.forall_mem_cons.mpr ⟨gi_wsX6_fill_2, (fun _ h => absurd h List.not_mem_nil)⟩⟩⟩
set_option maxRecDepth 20000 in
theorem ggX6_fill_X6_areTooMany : GoodIn wsX6_fill wsX6_areTooMany := goodIn_k (gi_q bs_wsX6_fill_in _ [(0, 8)] rfl) (goodIn_app (gi_q bs_wsX6_fill_in _ [(0, 9), (0, 10), (0, 0), (0, 11), (0, 12), (0, 13), (0, 14), (0, 15), (0, 16), (0, 17), (0, 18), (0, 19), (0, 20), (0, 21)] rfl) (gi_wsX6_fill_2))
set_option maxRecDepth 20000 in
theorem gX6_fill_X6_areTooMany : GoodIn wsX6_fill (wsV RX6 83 RX6 yX6_areTooMany wsX6_areTooMany) := goodIn_app (gi_q bs_wsX6_fill_in _ [(0, 4), (0, 5), (0, 6), (0, 7)] rfl) ggX6_fill_X6_areTooMany
set_option maxRecDepth 20000 in
theorem ggX6_fill_X6_readyAfter : GoodIn wsX6_fill wsX6_readyAfter := goodIn_k (gi_q bs_wsX6_fill_in _ [(1, 1)] rfl) (goodIn_app (gi_q bs_wsX6_fill_in _ [(0, 0), (1, 2), (1, 3), (0, 19), (0, 20), (0, 21)] rfl) (gi_wsX6_fill_2))
set_option maxRecDepth 20000 in
theorem gX6_fill_X6_readyAfter : GoodIn wsX6_fill (wsV RX6 87 RX6 yX6_readyAfter wsX6_readyAfter) := goodIn_app (gi_q bs_wsX6_fill_in _ [(0, 22), (0, 23), (1, 0), (0, 7)] rfl) ggX6_fill_X6_readyAfter
set_option maxRecDepth 20000 in
theorem ggX6_fill_X6_urgentOf : GoodIn wsX6_fill wsX6_urgentOf := goodIn_k (gi_q bs_wsX6_fill_in _ [(1, 7)] rfl) (goodIn_app (gi_q bs_wsX6_fill_in _ [(0, 0), (0, 11), (0, 19), (0, 20), (0, 21)] rfl) (gi_wsX6_fill_2))
set_option maxRecDepth 20000 in
theorem gX6_fill_X6_urgentOf : GoodIn wsX6_fill (wsV RX6 90 RX6 yX6_urgentOf wsX6_urgentOf) := goodIn_app (gi_q bs_wsX6_fill_in _ [(1, 4), (1, 5), (1, 6), (0, 7)] rfl) ggX6_fill_X6_urgentOf
set_option maxRecDepth 20000 in
theorem ggX6_fill_X6_canMeet : GoodIn wsX6_fill wsX6_canMeet := goodIn_k (gi_q bs_wsX6_fill_in _ [(1, 11)] rfl) (goodIn_app (gi_q bs_wsX6_fill_in _ [(0, 9), (0, 10), (0, 0), (1, 3), (0, 12), (0, 13), (0, 14), (0, 15), (0, 16), (0, 17), (0, 18), (0, 19), (0, 20), (0, 21)] rfl) (gi_wsX6_fill_2))
set_option maxRecDepth 20000 in
theorem gX6_fill_X6_canMeet : GoodIn wsX6_fill (wsV RX6 93 RX6 yX6_canMeet wsX6_canMeet) := goodIn_app (gi_q bs_wsX6_fill_in _ [(1, 8), (1, 9), (1, 10), (0, 7)] rfl) ggX6_fill_X6_canMeet
set_option maxRecDepth 20000 in
theorem ggX6_fill_X6_fill : GoodIn wsX6_fill wsX6_fill := goodIn_r _ [0, 1, 2, 3, 4, 5, 6, 7, 8, 9, 10, 11, 12, 13, 14, 15, 16, 17, 18, 19, 20, 21, 22, 23, 24, 25, 26, 27, 28, 29, 30, 31, 32, 33, 34, 35, 36, 37, 38, 39, 40, 41, 42, 43, 44, 45, 46, 47, 48] rfl (by decide +kernel)
set_option maxRecDepth 20000 in
theorem gX6_fill_X6_fill : GoodIn wsX6_fill (va_wsS RX6 58 yX6_fill wsX6_fill) := goodIn_app (gi_q bs_wsX6_fill_in _ [(1, 12), (1, 13), (0, 7)] rfl) ggX6_fill_X6_fill
def fw_dX6_fill_0 : List (Nat × Instr × Nat) := [(0, .iconst 1, 1), (1, .aload_n 0, 1), (2, .getfield 43, 3), (5, .ishl, 1), (6, .iconst 1, 1), (7, .isub, 1), (8, .iload_n 1, 1), (9, .iconst (-1), 1), (10, .ixor, 1), (11, .iand, 1), (12, .istore_n 3, 1), (13, .iload_n 3, 1), (14, .ifCond .ne 5, 3), (17, .iconst 1, 1), (18, .ireturn, 1), (19, .aload_n 0, 1), (20, .getfield 55, 3), (23, .iload_n 2, 1), (24, .isub, 1), (25, .istore 4, 2)]
theorem fw_dX6_fill_0_c : fchk 0 (cX6_fill.data.toList.drop 0) fw_dX6_fill_0 = true := by decide +kernel
theorem dX6_fill_0 : Eq (decode cX6_fill 0) (Except.ok (Instr.iconst 1, 1)) := fE fw_dX6_fill_0_c 0 rfl
theorem dX6_fill_1 : Eq (decode cX6_fill 1) (Except.ok (Instr.aload_n 0, 1)) := fE fw_dX6_fill_0_c 1 rfl
theorem dX6_fill_2 : Eq (decode cX6_fill 2) (Except.ok (Instr.getfield 43, 3)) := fE fw_dX6_fill_0_c 2 rfl
theorem dX6_fill_5 : Eq (decode cX6_fill 5) (Except.ok (Instr.ishl, 1)) := fE fw_dX6_fill_0_c 3 rfl
theorem dX6_fill_6 : Eq (decode cX6_fill 6) (Except.ok (Instr.iconst 1, 1)) := fE fw_dX6_fill_0_c 4 rfl
theorem dX6_fill_7 : Eq (decode cX6_fill 7) (Except.ok (Instr.isub, 1)) := fE fw_dX6_fill_0_c 5 rfl
theorem dX6_fill_8 : Eq (decode cX6_fill 8) (Except.ok (Instr.iload_n 1, 1)) := fE fw_dX6_fill_0_c 6 rfl
theorem dX6_fill_9 : Eq (decode cX6_fill 9) (Except.ok (Instr.iconst (-1), 1)) := fE fw_dX6_fill_0_c 7 rfl
theorem dX6_fill_10 : Eq (decode cX6_fill 10) (Except.ok (Instr.ixor, 1)) := fE fw_dX6_fill_0_c 8 rfl
theorem dX6_fill_11 : Eq (decode cX6_fill 11) (Except.ok (Instr.iand, 1)) := fE fw_dX6_fill_0_c 9 rfl
theorem dX6_fill_12 : Eq (decode cX6_fill 12) (Except.ok (Instr.istore_n 3, 1)) := fE fw_dX6_fill_0_c 10 rfl
theorem dX6_fill_13 : Eq (decode cX6_fill 13) (Except.ok (Instr.iload_n 3, 1)) := fE fw_dX6_fill_0_c 11 rfl
theorem dX6_fill_14 : Eq (decode cX6_fill 14) (Except.ok (Instr.ifCond .ne 5, 3)) := fE fw_dX6_fill_0_c 12 rfl
theorem dX6_fill_17 : Eq (decode cX6_fill 17) (Except.ok (Instr.iconst 1, 1)) := fE fw_dX6_fill_0_c 13 rfl
theorem dX6_fill_18 : Eq (decode cX6_fill 18) (Except.ok (Instr.ireturn, 1)) := fE fw_dX6_fill_0_c 14 rfl
theorem dX6_fill_19 : Eq (decode cX6_fill 19) (Except.ok (Instr.aload_n 0, 1)) := fE fw_dX6_fill_0_c 15 rfl
theorem dX6_fill_20 : Eq (decode cX6_fill 20) (Except.ok (Instr.getfield 55, 3)) := fE fw_dX6_fill_0_c 16 rfl
theorem dX6_fill_23 : Eq (decode cX6_fill 23) (Except.ok (Instr.iload_n 2, 1)) := fE fw_dX6_fill_0_c 17 rfl
theorem dX6_fill_24 : Eq (decode cX6_fill 24) (Except.ok (Instr.isub, 1)) := fE fw_dX6_fill_0_c 18 rfl
theorem dX6_fill_25 : Eq (decode cX6_fill 25) (Except.ok (Instr.istore 4, 2)) := fE fw_dX6_fill_0_c 19 rfl
def fw_dX6_fill_27 : List (Nat × Instr × Nat) := [(27, .iload 4, 2), (29, .ifCond .le 24, 3), (32, .aload_n 0, 1), (33, .getfield 30, 3), (36, .iload_n 1, 1), (37, .baload, 1), (38, .iload 4, 2), (40, .if_icmp .ge 13, 3), (43, .aload_n 0, 1), (44, .iload_n 3, 1), (45, .iload 4, 2), (47, .invokevirtual 83, 3), (50, .ifCond .eq 5, 3), (53, .iconst 0, 1), (54, .ireturn, 1), (55, .aload_n 0, 1), (56, .iload_n 1, 1), (57, .invokevirtual 87, 3), (60, .istore 5, 2), (62, .aload_n 0, 1)]
theorem fw_dX6_fill_27_c : fchk 27 (cX6_fill.data.toList.drop 27) fw_dX6_fill_27 = true := by decide +kernel
theorem dX6_fill_27 : Eq (decode cX6_fill 27) (Except.ok (Instr.iload 4, 2)) := fE fw_dX6_fill_27_c 0 rfl
theorem dX6_fill_29 : Eq (decode cX6_fill 29) (Except.ok (Instr.ifCond .le 24, 3)) := fE fw_dX6_fill_27_c 1 rfl
theorem dX6_fill_32 : Eq (decode cX6_fill 32) (Except.ok (Instr.aload_n 0, 1)) := fE fw_dX6_fill_27_c 2 rfl
theorem dX6_fill_33 : Eq (decode cX6_fill 33) (Except.ok (Instr.getfield 30, 3)) := fE fw_dX6_fill_27_c 3 rfl
theorem dX6_fill_36 : Eq (decode cX6_fill 36) (Except.ok (Instr.iload_n 1, 1)) := fE fw_dX6_fill_27_c 4 rfl
theorem dX6_fill_37 : Eq (decode cX6_fill 37) (Except.ok (Instr.baload, 1)) := fE fw_dX6_fill_27_c 5 rfl
theorem dX6_fill_38 : Eq (decode cX6_fill 38) (Except.ok (Instr.iload 4, 2)) := fE fw_dX6_fill_27_c 6 rfl
theorem dX6_fill_40 : Eq (decode cX6_fill 40) (Except.ok (Instr.if_icmp .ge 13, 3)) := fE fw_dX6_fill_27_c 7 rfl
theorem dX6_fill_43 : Eq (decode cX6_fill 43) (Except.ok (Instr.aload_n 0, 1)) := fE fw_dX6_fill_27_c 8 rfl
theorem dX6_fill_44 : Eq (decode cX6_fill 44) (Except.ok (Instr.iload_n 3, 1)) := fE fw_dX6_fill_27_c 9 rfl
theorem dX6_fill_45 : Eq (decode cX6_fill 45) (Except.ok (Instr.iload 4, 2)) := fE fw_dX6_fill_27_c 10 rfl
theorem dX6_fill_47 : Eq (decode cX6_fill 47) (Except.ok (Instr.invokevirtual 83, 3)) := fE fw_dX6_fill_27_c 11 rfl
theorem dX6_fill_50 : Eq (decode cX6_fill 50) (Except.ok (Instr.ifCond .eq 5, 3)) := fE fw_dX6_fill_27_c 12 rfl
theorem dX6_fill_53 : Eq (decode cX6_fill 53) (Except.ok (Instr.iconst 0, 1)) := fE fw_dX6_fill_27_c 13 rfl
theorem dX6_fill_54 : Eq (decode cX6_fill 54) (Except.ok (Instr.ireturn, 1)) := fE fw_dX6_fill_27_c 14 rfl
theorem dX6_fill_55 : Eq (decode cX6_fill 55) (Except.ok (Instr.aload_n 0, 1)) := fE fw_dX6_fill_27_c 15 rfl
theorem dX6_fill_56 : Eq (decode cX6_fill 56) (Except.ok (Instr.iload_n 1, 1)) := fE fw_dX6_fill_27_c 16 rfl
theorem dX6_fill_57 : Eq (decode cX6_fill 57) (Except.ok (Instr.invokevirtual 87, 3)) := fE fw_dX6_fill_27_c 17 rfl
theorem dX6_fill_60 : Eq (decode cX6_fill 60) (Except.ok (Instr.istore 5, 2)) := fE fw_dX6_fill_27_c 18 rfl
theorem dX6_fill_62 : Eq (decode cX6_fill 62) (Except.ok (Instr.aload_n 0, 1)) := fE fw_dX6_fill_27_c 19 rfl
def fw_dX6_fill_63 : List (Nat × Instr × Nat) := [(63, .iload_n 3, 1), (64, .iload 4, 2), (66, .invokevirtual 90, 3), (69, .istore 6, 2), (71, .iload 5, 2), (73, .iload 6, 2), (75, .iconst (-1), 1), (76, .ixor, 1), (77, .iand, 1), (78, .istore 7, 2), (80, .iconst 0, 1), (81, .istore 8, 2), (83, .iconst 0, 1), (84, .istore 9, 2), (86, .iload 9, 2), (88, .sipush 1024, 3), (91, .if_icmp .ge 75, 3), (94, .iload 8, 2), (96, .iload 6, 2), (98, .ior, 1)]
theorem fw_dX6_fill_63_c : fchk 63 (cX6_fill.data.toList.drop 63) fw_dX6_fill_63 = true := by decide +kernel
theorem dX6_fill_63 : Eq (decode cX6_fill 63) (Except.ok (Instr.iload_n 3, 1)) := fE fw_dX6_fill_63_c 0 rfl
theorem dX6_fill_64 : Eq (decode cX6_fill 64) (Except.ok (Instr.iload 4, 2)) := fE fw_dX6_fill_63_c 1 rfl
theorem dX6_fill_66 : Eq (decode cX6_fill 66) (Except.ok (Instr.invokevirtual 90, 3)) := fE fw_dX6_fill_63_c 2 rfl
theorem dX6_fill_69 : Eq (decode cX6_fill 69) (Except.ok (Instr.istore 6, 2)) := fE fw_dX6_fill_63_c 3 rfl
theorem dX6_fill_71 : Eq (decode cX6_fill 71) (Except.ok (Instr.iload 5, 2)) := fE fw_dX6_fill_63_c 4 rfl
theorem dX6_fill_73 : Eq (decode cX6_fill 73) (Except.ok (Instr.iload 6, 2)) := fE fw_dX6_fill_63_c 5 rfl
theorem dX6_fill_75 : Eq (decode cX6_fill 75) (Except.ok (Instr.iconst (-1), 1)) := fE fw_dX6_fill_63_c 6 rfl
theorem dX6_fill_76 : Eq (decode cX6_fill 76) (Except.ok (Instr.ixor, 1)) := fE fw_dX6_fill_63_c 7 rfl
theorem dX6_fill_77 : Eq (decode cX6_fill 77) (Except.ok (Instr.iand, 1)) := fE fw_dX6_fill_63_c 8 rfl
theorem dX6_fill_78 : Eq (decode cX6_fill 78) (Except.ok (Instr.istore 7, 2)) := fE fw_dX6_fill_63_c 9 rfl
theorem dX6_fill_80 : Eq (decode cX6_fill 80) (Except.ok (Instr.iconst 0, 1)) := fE fw_dX6_fill_63_c 10 rfl
theorem dX6_fill_81 : Eq (decode cX6_fill 81) (Except.ok (Instr.istore 8, 2)) := fE fw_dX6_fill_63_c 11 rfl
theorem dX6_fill_83 : Eq (decode cX6_fill 83) (Except.ok (Instr.iconst 0, 1)) := fE fw_dX6_fill_63_c 12 rfl
theorem dX6_fill_84 : Eq (decode cX6_fill 84) (Except.ok (Instr.istore 9, 2)) := fE fw_dX6_fill_63_c 13 rfl
theorem dX6_fill_86 : Eq (decode cX6_fill 86) (Except.ok (Instr.iload 9, 2)) := fE fw_dX6_fill_63_c 14 rfl
theorem dX6_fill_88 : Eq (decode cX6_fill 88) (Except.ok (Instr.sipush 1024, 3)) := fE fw_dX6_fill_63_c 15 rfl
theorem dX6_fill_91 : Eq (decode cX6_fill 91) (Except.ok (Instr.if_icmp .ge 75, 3)) := fE fw_dX6_fill_63_c 16 rfl
theorem dX6_fill_94 : Eq (decode cX6_fill 94) (Except.ok (Instr.iload 8, 2)) := fE fw_dX6_fill_63_c 17 rfl
theorem dX6_fill_96 : Eq (decode cX6_fill 96) (Except.ok (Instr.iload 6, 2)) := fE fw_dX6_fill_63_c 18 rfl
theorem dX6_fill_98 : Eq (decode cX6_fill 98) (Except.ok (Instr.ior, 1)) := fE fw_dX6_fill_63_c 19 rfl
def fw_dX6_fill_99 : List (Nat × Instr × Nat) := [(99, .istore 10, 2), (101, .iload 10, 2), (103, .ifCond .eq 39, 3), (106, .aload_n 0, 1), (107, .iload 10, 2), (109, .iload 5, 2), (111, .iload_n 1, 1), (112, .invokevirtual 93, 3), (115, .ifCond .eq 27, 3), (118, .aload_n 0, 1), (119, .iload_n 1, 1), (120, .iload 10, 2), (122, .ior, 1), (123, .iload_n 2, 1), (124, .iconst 1, 1), (125, .iadd, 1), (126, .invokestatic 58, 3), (129, .ifCond .eq 13, 3), (132, .aload_n 0, 1), (133, .getfield 9, 3)]
theorem fw_dX6_fill_99_c : fchk 99 (cX6_fill.data.toList.drop 99) fw_dX6_fill_99 = true := by decide +kernel
theorem dX6_fill_99 : Eq (decode cX6_fill 99) (Except.ok (Instr.istore 10, 2)) := fE fw_dX6_fill_99_c 0 rfl
theorem dX6_fill_101 : Eq (decode cX6_fill 101) (Except.ok (Instr.iload 10, 2)) := fE fw_dX6_fill_99_c 1 rfl
theorem dX6_fill_103 : Eq (decode cX6_fill 103) (Except.ok (Instr.ifCond .eq 39, 3)) := fE fw_dX6_fill_99_c 2 rfl
theorem dX6_fill_106 : Eq (decode cX6_fill 106) (Except.ok (Instr.aload_n 0, 1)) := fE fw_dX6_fill_99_c 3 rfl
theorem dX6_fill_107 : Eq (decode cX6_fill 107) (Except.ok (Instr.iload 10, 2)) := fE fw_dX6_fill_99_c 4 rfl
theorem dX6_fill_109 : Eq (decode cX6_fill 109) (Except.ok (Instr.iload 5, 2)) := fE fw_dX6_fill_99_c 5 rfl
theorem dX6_fill_111 : Eq (decode cX6_fill 111) (Except.ok (Instr.iload_n 1, 1)) := fE fw_dX6_fill_99_c 6 rfl
theorem dX6_fill_112 : Eq (decode cX6_fill 112) (Except.ok (Instr.invokevirtual 93, 3)) := fE fw_dX6_fill_99_c 7 rfl
theorem dX6_fill_115 : Eq (decode cX6_fill 115) (Except.ok (Instr.ifCond .eq 27, 3)) := fE fw_dX6_fill_99_c 8 rfl
theorem dX6_fill_118 : Eq (decode cX6_fill 118) (Except.ok (Instr.aload_n 0, 1)) := fE fw_dX6_fill_99_c 9 rfl
theorem dX6_fill_119 : Eq (decode cX6_fill 119) (Except.ok (Instr.iload_n 1, 1)) := fE fw_dX6_fill_99_c 10 rfl
theorem dX6_fill_120 : Eq (decode cX6_fill 120) (Except.ok (Instr.iload 10, 2)) := fE fw_dX6_fill_99_c 11 rfl
theorem dX6_fill_122 : Eq (decode cX6_fill 122) (Except.ok (Instr.ior, 1)) := fE fw_dX6_fill_99_c 12 rfl
theorem dX6_fill_123 : Eq (decode cX6_fill 123) (Except.ok (Instr.iload_n 2, 1)) := fE fw_dX6_fill_99_c 13 rfl
theorem dX6_fill_124 : Eq (decode cX6_fill 124) (Except.ok (Instr.iconst 1, 1)) := fE fw_dX6_fill_99_c 14 rfl
theorem dX6_fill_125 : Eq (decode cX6_fill 125) (Except.ok (Instr.iadd, 1)) := fE fw_dX6_fill_99_c 15 rfl
theorem dX6_fill_126 : Eq (decode cX6_fill 126) (Except.ok (Instr.invokestatic 58, 3)) := fE fw_dX6_fill_99_c 16 rfl
theorem dX6_fill_129 : Eq (decode cX6_fill 129) (Except.ok (Instr.ifCond .eq 13, 3)) := fE fw_dX6_fill_99_c 17 rfl
theorem dX6_fill_132 : Eq (decode cX6_fill 132) (Except.ok (Instr.aload_n 0, 1)) := fE fw_dX6_fill_99_c 18 rfl
theorem dX6_fill_133 : Eq (decode cX6_fill 133) (Except.ok (Instr.getfield 9, 3)) := fE fw_dX6_fill_99_c 19 rfl
def fw_dX6_fill_136 : List (Nat × Instr × Nat) := [(136, .iload_n 2, 1), (137, .iload 10, 2), (139, .iastore, 1), (140, .iconst 1, 1), (141, .ireturn, 1), (142, .iload 8, 2), (144, .iload 7, 2), (146, .isub, 1), (147, .iload 7, 2), (149, .iand, 1), (150, .istore 8, 2), (152, .iload 8, 2), (154, .ifCond .ne 6, 3), (157, .goto 9, 3)]
theorem fw_dX6_fill_136_c : fchk 136 (cX6_fill.data.toList.drop 136) fw_dX6_fill_136 = true := by decide +kernel
theorem dX6_fill_136 : Eq (decode cX6_fill 136) (Except.ok (Instr.iload_n 2, 1)) := fE fw_dX6_fill_136_c 0 rfl
theorem dX6_fill_137 : Eq (decode cX6_fill 137) (Except.ok (Instr.iload 10, 2)) := fE fw_dX6_fill_136_c 1 rfl
theorem dX6_fill_139 : Eq (decode cX6_fill 139) (Except.ok (Instr.iastore, 1)) := fE fw_dX6_fill_136_c 2 rfl
theorem dX6_fill_140 : Eq (decode cX6_fill 140) (Except.ok (Instr.iconst 1, 1)) := fE fw_dX6_fill_136_c 3 rfl
theorem dX6_fill_141 : Eq (decode cX6_fill 141) (Except.ok (Instr.ireturn, 1)) := fE fw_dX6_fill_136_c 4 rfl
theorem dX6_fill_142 : Eq (decode cX6_fill 142) (Except.ok (Instr.iload 8, 2)) := fE fw_dX6_fill_136_c 5 rfl
theorem dX6_fill_144 : Eq (decode cX6_fill 144) (Except.ok (Instr.iload 7, 2)) := fE fw_dX6_fill_136_c 6 rfl
theorem dX6_fill_146 : Eq (decode cX6_fill 146) (Except.ok (Instr.isub, 1)) := fE fw_dX6_fill_136_c 7 rfl
theorem dX6_fill_147 : Eq (decode cX6_fill 147) (Except.ok (Instr.iload 7, 2)) := fE fw_dX6_fill_136_c 8 rfl
theorem dX6_fill_149 : Eq (decode cX6_fill 149) (Except.ok (Instr.iand, 1)) := fE fw_dX6_fill_136_c 9 rfl
theorem dX6_fill_150 : Eq (decode cX6_fill 150) (Except.ok (Instr.istore 8, 2)) := fE fw_dX6_fill_136_c 10 rfl
theorem dX6_fill_152 : Eq (decode cX6_fill 152) (Except.ok (Instr.iload 8, 2)) := fE fw_dX6_fill_136_c 11 rfl
theorem dX6_fill_154 : Eq (decode cX6_fill 154) (Except.ok (Instr.ifCond .ne 6, 3)) := fE fw_dX6_fill_136_c 12 rfl
theorem dX6_fill_157 : Eq (decode cX6_fill 157) (Except.ok (Instr.goto 9, 3)) := fE fw_dX6_fill_136_c 13 rfl
theorem dX6_fill_160 : decode cX6_fill 160 = .ok (.iinc 9 1, 3) := by decide +kernel
def fw_dX6_fill_163 : List (Nat × Instr × Nat) := [(163, .goto (-77), 3), (166, .aload_n 0, 1), (167, .getfield 30, 3), (170, .iload_n 1, 1), (171, .iload 4, 2), (173, .i2b, 1), (174, .bastore, 1), (175, .iconst 0, 1), (176, .ireturn, 1)]
theorem fw_dX6_fill_163_c : fchk 163 (cX6_fill.data.toList.drop 163) fw_dX6_fill_163 = true := by decide +kernel
theorem dX6_fill_163 : Eq (decode cX6_fill 163) (Except.ok (Instr.goto (-77), 3)) := fE fw_dX6_fill_163_c 0 rfl
theorem dX6_fill_166 : Eq (decode cX6_fill 166) (Except.ok (Instr.aload_n 0, 1)) := fE fw_dX6_fill_163_c 1 rfl
theorem dX6_fill_167 : Eq (decode cX6_fill 167) (Except.ok (Instr.getfield 30, 3)) := fE fw_dX6_fill_163_c 2 rfl
theorem dX6_fill_170 : Eq (decode cX6_fill 170) (Except.ok (Instr.iload_n 1, 1)) := fE fw_dX6_fill_163_c 3 rfl
theorem dX6_fill_171 : Eq (decode cX6_fill 171) (Except.ok (Instr.iload 4, 2)) := fE fw_dX6_fill_163_c 4 rfl
theorem dX6_fill_173 : Eq (decode cX6_fill 173) (Except.ok (Instr.i2b, 1)) := fE fw_dX6_fill_163_c 5 rfl
theorem dX6_fill_174 : Eq (decode cX6_fill 174) (Except.ok (Instr.bastore, 1)) := fE fw_dX6_fill_163_c 6 rfl
theorem dX6_fill_175 : Eq (decode cX6_fill 175) (Except.ok (Instr.iconst 0, 1)) := fE fw_dX6_fill_163_c 7 rfl
theorem dX6_fill_176 : Eq (decode cX6_fill 176) (Except.ok (Instr.ireturn, 1)) := fE fw_dX6_fill_163_c 8 rfl
set_option maxRecDepth 20000 in
theorem gi_wsX6_areTooMany_0 : GoodIn wsX6_areTooMany wsX6_areTooMany := goodIn_sub (fun _ h => h) (by decide +kernel)
set_option maxRecDepth 20000 in
theorem gi_wsX6_areTooMany_1 : GoodIn wsX6_areTooMany wsX60 := goodIn_sub (fun w h => List.mem_cons_of_mem _ (List.mem_append_right _ h)) (by decide +kernel)
def bs_wsX6_areTooMany : List (List Cond) := [wsX6_areTooMany, wsX60]
theorem bs_wsX6_areTooMany_in : ∀ b ∈ bs_wsX6_areTooMany, GoodIn wsX6_areTooMany b := List.forall_mem_cons.mpr ⟨gi_wsX6_areTooMany_0, List.forall_mem_cons.mpr ⟨gi_wsX6_areTooMany_1, (fun _ h => absurd h List.not_mem_nil)⟩⟩
set_option maxRecDepth 20000 in
theorem ggX6_areTooMany_J6_bitCount_0f7a4 : GoodIn wsX6_areTooMany wsJ6_bitCount_0f7a4 := goodIn_k (gi_q bs_wsX6_areTooMany_in _ [(0, 8)] rfl) (gi_q bs_wsX6_areTooMany_in _ [(0, 9), (0, 10), (0, 11)] rfl)
set_option maxRecDepth 20000 in
theorem gX6_areTooMany_J6_bitCount_0f7a4 : GoodIn wsX6_areTooMany (va_wsS RX6 97 yJ6_bitCount_0f7a4 wsJ6_bitCount_0f7a4) := goodIn_app (gi_q bs_wsX6_areTooMany_in _ [(0, 5), (0, 6), (0, 7)] rfl) ggX6_areTooMany_J6_bitCount_0f7a4
set_option maxRecDepth 20000 in
theorem ggX6_areTooMany_X7_isIn : GoodIn wsX6_areTooMany wsX7_isIn := goodIn_k (gi_q bs_wsX6_areTooMany_in _ [(0, 14)] rfl) (gi_q bs_wsX6_areTooMany_in _ [] rfl)
set_option maxRecDepth 20000 in
theorem gX6_areTooMany_X7_isIn_n102 : GoodIn wsX6_areTooMany (wsX7_isIn) := ggX6_areTooMany_X7_isIn
def fw_dX6_areTooMany_0 : List (Nat × Instr × Nat) := [(0, .iconst 0, 1), (1, .istore_n 3, 1), (2, .iload_n 3, 1), (3, .iconst 5, 1), (4, .if_icmp .ge 33, 3), (7, .iload_n 1, 1), (8, .aload_n 0, 1), (9, .getfield 24, 3), (12, .iload_n 3, 1), (13, .iaload, 1), (14, .iand, 1), (15, .invokestatic 97, 3), (18, .aload_n 0, 1), (19, .getfield 27, 3), (22, .iload_n 3, 1), (23, .iaload, 1), (24, .iload_n 2, 1), (25, .imul, 1), (26, .if_icmp .le 5, 3), (29, .iconst 1, 1)]
theorem fw_dX6_areTooMany_0_c : fchk 0 (cX6_areTooMany.data.toList.drop 0) fw_dX6_areTooMany_0 = true := by decide +kernel
theorem dX6_areTooMany_0 : Eq (decode cX6_areTooMany 0) (Except.ok (Instr.iconst 0, 1)) := fE fw_dX6_areTooMany_0_c 0 rfl
theorem dX6_areTooMany_1 : Eq (decode cX6_areTooMany 1) (Except.ok (Instr.istore_n 3, 1)) := fE fw_dX6_areTooMany_0_c 1 rfl
theorem dX6_areTooMany_2 : Eq (decode cX6_areTooMany 2) (Except.ok (Instr.iload_n 3, 1)) := fE fw_dX6_areTooMany_0_c 2 rfl
theorem dX6_areTooMany_3 : Eq (decode cX6_areTooMany 3) (Except.ok (Instr.iconst 5, 1)) := fE fw_dX6_areTooMany_0_c 3 rfl
theorem dX6_areTooMany_4 : Eq (decode cX6_areTooMany 4) (Except.ok (Instr.if_icmp .ge 33, 3)) := fE fw_dX6_areTooMany_0_c 4 rfl
theorem dX6_areTooMany_7 : Eq (decode cX6_areTooMany 7) (Except.ok (Instr.iload_n 1, 1)) := fE fw_dX6_areTooMany_0_c 5 rfl
theorem dX6_areTooMany_8 : Eq (decode cX6_areTooMany 8) (Except.ok (Instr.aload_n 0, 1)) := fE fw_dX6_areTooMany_0_c 6 rfl
theorem dX6_areTooMany_9 : Eq (decode cX6_areTooMany 9) (Except.ok (Instr.getfield 24, 3)) := fE fw_dX6_areTooMany_0_c 7 rfl
theorem dX6_areTooMany_12 : Eq (decode cX6_areTooMany 12) (Except.ok (Instr.iload_n 3, 1)) := fE fw_dX6_areTooMany_0_c 8 rfl
theorem dX6_areTooMany_13 : Eq (decode cX6_areTooMany 13) (Except.ok (Instr.iaload, 1)) := fE fw_dX6_areTooMany_0_c 9 rfl
theorem dX6_areTooMany_14 : Eq (decode cX6_areTooMany 14) (Except.ok (Instr.iand, 1)) := fE fw_dX6_areTooMany_0_c 10 rfl
theorem dX6_areTooMany_15 : Eq (decode cX6_areTooMany 15) (Except.ok (Instr.invokestatic 97, 3)) := fE fw_dX6_areTooMany_0_c 11 rfl
theorem dX6_areTooMany_18 : Eq (decode cX6_areTooMany 18) (Except.ok (Instr.aload_n 0, 1)) := fE fw_dX6_areTooMany_0_c 12 rfl
theorem dX6_areTooMany_19 : Eq (decode cX6_areTooMany 19) (Except.ok (Instr.getfield 27, 3)) := fE fw_dX6_areTooMany_0_c 13 rfl
theorem dX6_areTooMany_22 : Eq (decode cX6_areTooMany 22) (Except.ok (Instr.iload_n 3, 1)) := fE fw_dX6_areTooMany_0_c 14 rfl
theorem dX6_areTooMany_23 : Eq (decode cX6_areTooMany 23) (Except.ok (Instr.iaload, 1)) := fE fw_dX6_areTooMany_0_c 15 rfl
theorem dX6_areTooMany_24 : Eq (decode cX6_areTooMany 24) (Except.ok (Instr.iload_n 2, 1)) := fE fw_dX6_areTooMany_0_c 16 rfl
theorem dX6_areTooMany_25 : Eq (decode cX6_areTooMany 25) (Except.ok (Instr.imul, 1)) := fE fw_dX6_areTooMany_0_c 17 rfl
theorem dX6_areTooMany_26 : Eq (decode cX6_areTooMany 26) (Except.ok (Instr.if_icmp .le 5, 3)) := fE fw_dX6_areTooMany_0_c 18 rfl
theorem dX6_areTooMany_29 : Eq (decode cX6_areTooMany 29) (Except.ok (Instr.iconst 1, 1)) := fE fw_dX6_areTooMany_0_c 19 rfl
def fw_dX6_areTooMany_30 : List (Nat × Instr × Nat) := [(30, .ireturn, 1)]
theorem fw_dX6_areTooMany_30_c : fchk 30 (cX6_areTooMany.data.toList.drop 30) fw_dX6_areTooMany_30 = true := by decide +kernel
theorem dX6_areTooMany_30 : Eq (decode cX6_areTooMany 30) (Except.ok (Instr.ireturn, 1)) := fE fw_dX6_areTooMany_30_c 0 rfl
theorem dX6_areTooMany_31 : decode cX6_areTooMany 31 = .ok (.iinc 3 1, 3) := by decide +kernel
def fw_dX6_areTooMany_34 : List (Nat × Instr × Nat) := [(34, .goto (-32), 3), (37, .iconst 0, 1), (38, .istore_n 3, 1), (39, .iload_n 3, 1), (40, .aload_n 0, 1), (41, .getfield 43, 3), (44, .if_icmp .ge 29, 3), (47, .iload_n 1, 1), (48, .iload_n 3, 1), (49, .invokestatic 102, 3), (52, .ifCond .eq 15, 3), (55, .aload_n 0, 1), (56, .getfield 21, 3), (59, .iload_n 3, 1), (60, .iaload, 1), (61, .iload_n 2, 1), (62, .if_icmp .lt 5, 3), (65, .iconst 1, 1), (66, .ireturn, 1)]
theorem fw_dX6_areTooMany_34_c : fchk 34 (cX6_areTooMany.data.toList.drop 34) fw_dX6_areTooMany_34 = true := by decide +kernel
theorem dX6_areTooMany_34 : Eq (decode cX6_areTooMany 34) (Except.ok (Instr.goto (-32), 3)) := fE fw_dX6_areTooMany_34_c 0 rfl
theorem dX6_areTooMany_37 : Eq (decode cX6_areTooMany 37) (Except.ok (Instr.iconst 0, 1)) := fE fw_dX6_areTooMany_34_c 1 rfl
theorem dX6_areTooMany_38 : Eq (decode cX6_areTooMany 38) (Except.ok (Instr.istore_n 3, 1)) := fE fw_dX6_areTooMany_34_c 2 rfl
theorem dX6_areTooMany_39 : Eq (decode cX6_areTooMany 39) (Except.ok (Instr.iload_n 3, 1)) := fE fw_dX6_areTooMany_34_c 3 rfl
theorem dX6_areTooMany_40 : Eq (decode cX6_areTooMany 40) (Except.ok (Instr.aload_n 0, 1)) := fE fw_dX6_areTooMany_34_c 4 rfl
theorem dX6_areTooMany_41 : Eq (decode cX6_areTooMany 41) (Except.ok (Instr.getfield 43, 3)) := fE fw_dX6_areTooMany_34_c 5 rfl
theorem dX6_areTooMany_44 : Eq (decode cX6_areTooMany 44) (Except.ok (Instr.if_icmp .ge 29, 3)) := fE fw_dX6_areTooMany_34_c 6 rfl
theorem dX6_areTooMany_47 : Eq (decode cX6_areTooMany 47) (Except.ok (Instr.iload_n 1, 1)) := fE fw_dX6_areTooMany_34_c 7 rfl
theorem dX6_areTooMany_48 : Eq (decode cX6_areTooMany 48) (Except.ok (Instr.iload_n 3, 1)) := fE fw_dX6_areTooMany_34_c 8 rfl
theorem dX6_areTooMany_49 : Eq (decode cX6_areTooMany 49) (Except.ok (Instr.invokestatic 102, 3)) := fE fw_dX6_areTooMany_34_c 9 rfl
theorem dX6_areTooMany_52 : Eq (decode cX6_areTooMany 52) (Except.ok (Instr.ifCond .eq 15, 3)) := fE fw_dX6_areTooMany_34_c 10 rfl
theorem dX6_areTooMany_55 : Eq (decode cX6_areTooMany 55) (Except.ok (Instr.aload_n 0, 1)) := fE fw_dX6_areTooMany_34_c 11 rfl
theorem dX6_areTooMany_56 : Eq (decode cX6_areTooMany 56) (Except.ok (Instr.getfield 21, 3)) := fE fw_dX6_areTooMany_34_c 12 rfl
theorem dX6_areTooMany_59 : Eq (decode cX6_areTooMany 59) (Except.ok (Instr.iload_n 3, 1)) := fE fw_dX6_areTooMany_34_c 13 rfl
theorem dX6_areTooMany_60 : Eq (decode cX6_areTooMany 60) (Except.ok (Instr.iaload, 1)) := fE fw_dX6_areTooMany_34_c 14 rfl
theorem dX6_areTooMany_61 : Eq (decode cX6_areTooMany 61) (Except.ok (Instr.iload_n 2, 1)) := fE fw_dX6_areTooMany_34_c 15 rfl
theorem dX6_areTooMany_62 : Eq (decode cX6_areTooMany 62) (Except.ok (Instr.if_icmp .lt 5, 3)) := fE fw_dX6_areTooMany_34_c 16 rfl
theorem dX6_areTooMany_65 : Eq (decode cX6_areTooMany 65) (Except.ok (Instr.iconst 1, 1)) := fE fw_dX6_areTooMany_34_c 17 rfl
theorem dX6_areTooMany_66 : Eq (decode cX6_areTooMany 66) (Except.ok (Instr.ireturn, 1)) := fE fw_dX6_areTooMany_34_c 18 rfl
theorem dX6_areTooMany_67 : decode cX6_areTooMany 67 = .ok (.iinc 3 1, 3) := by decide +kernel
def fw_dX6_areTooMany_70 : List (Nat × Instr × Nat) := [(70, .goto (-31), 3), (73, .iconst 0, 1), (74, .ireturn, 1)]
theorem fw_dX6_areTooMany_70_c : fchk 70 (cX6_areTooMany.data.toList.drop 70) fw_dX6_areTooMany_70 = true := by decide +kernel
theorem dX6_areTooMany_70 : Eq (decode cX6_areTooMany 70) (Except.ok (Instr.goto (-31), 3)) := fE fw_dX6_areTooMany_70_c 0 rfl
theorem dX6_areTooMany_73 : Eq (decode cX6_areTooMany 73) (Except.ok (Instr.iconst 0, 1)) := fE fw_dX6_areTooMany_70_c 1 rfl
theorem dX6_areTooMany_74 : Eq (decode cX6_areTooMany 74) (Except.ok (Instr.ireturn, 1)) := fE fw_dX6_areTooMany_70_c 2 rfl
set_option maxRecDepth 20000 in
theorem gi_wsX6_readyAfter_0 : GoodIn wsX6_readyAfter wsX6_readyAfter := goodIn_sub (fun _ h => h) (by decide +kernel)
set_option maxRecDepth 20000 in
theorem gi_wsX6_readyAfter_1 : GoodIn wsX6_readyAfter wsX60 := goodIn_sub (fun w h => List.mem_cons_of_mem _ (List.mem_append_right _ h)) (by decide +kernel)
def bs_wsX6_readyAfter : List (List Cond) := [wsX6_readyAfter, wsX60]
theorem bs_wsX6_readyAfter_in : ∀ b ∈ bs_wsX6_readyAfter, GoodIn wsX6_readyAfter b := List.forall_mem_cons.mpr ⟨gi_wsX6_readyAfter_0, List.forall_mem_cons.mpr ⟨gi_wsX6_readyAfter_1, (fun _ h => absurd h List.not_mem_nil)⟩⟩
set_option maxRecDepth 20000 in
theorem ggX6_readyAfter_X7_isIn : GoodIn wsX6_readyAfter wsX7_isIn := goodIn_k (gi_q bs_wsX6_readyAfter_in _ [(0, 6)] rfl) (gi_q bs_wsX6_readyAfter_in _ [] rfl)
set_option maxRecDepth 20000 in
theorem gX6_readyAfter_X7_isIn_n102 : GoodIn wsX6_readyAfter (wsX7_isIn) := ggX6_readyAfter_X7_isIn
def fw_dX6_readyAfter_0 : List (Nat × Instr × Nat) := [(0, .iconst 0, 1), (1, .istore_n 2, 1), (2, .iconst 0, 1), (3, .istore_n 3, 1), (4, .iload_n 3, 1), (5, .aload_n 0, 1), (6, .getfield 43, 3), (9, .if_icmp .ge 63, 3), (12, .aload_n 0, 1), (13, .getfield 15, 3), (16, .iload_n 3, 1), (17, .iaload, 1), (18, .iload_n 1, 1), (19, .iconst (-1), 1), (20, .ixor, 1), (21, .iand, 1), (22, .ifCond .ne 22, 3), (25, .aload_n 0, 1), (26, .getfield 18, 3), (29, .iload_n 3, 1)]
theorem fw_dX6_readyAfter_0_c : fchk 0 (cX6_readyAfter.data.toList.drop 0) fw_dX6_readyAfter_0 = true := by decide +kernel
theorem dX6_readyAfter_0 : Eq (decode cX6_readyAfter 0) (Except.ok (Instr.iconst 0, 1)) := fE fw_dX6_readyAfter_0_c 0 rfl
theorem dX6_readyAfter_1 : Eq (decode cX6_readyAfter 1) (Except.ok (Instr.istore_n 2, 1)) := fE fw_dX6_readyAfter_0_c 1 rfl
theorem dX6_readyAfter_2 : Eq (decode cX6_readyAfter 2) (Except.ok (Instr.iconst 0, 1)) := fE fw_dX6_readyAfter_0_c 2 rfl
theorem dX6_readyAfter_3 : Eq (decode cX6_readyAfter 3) (Except.ok (Instr.istore_n 3, 1)) := fE fw_dX6_readyAfter_0_c 3 rfl
theorem dX6_readyAfter_4 : Eq (decode cX6_readyAfter 4) (Except.ok (Instr.iload_n 3, 1)) := fE fw_dX6_readyAfter_0_c 4 rfl
theorem dX6_readyAfter_5 : Eq (decode cX6_readyAfter 5) (Except.ok (Instr.aload_n 0, 1)) := fE fw_dX6_readyAfter_0_c 5 rfl
theorem dX6_readyAfter_6 : Eq (decode cX6_readyAfter 6) (Except.ok (Instr.getfield 43, 3)) := fE fw_dX6_readyAfter_0_c 6 rfl
theorem dX6_readyAfter_9 : Eq (decode cX6_readyAfter 9) (Except.ok (Instr.if_icmp .ge 63, 3)) := fE fw_dX6_readyAfter_0_c 7 rfl
theorem dX6_readyAfter_12 : Eq (decode cX6_readyAfter 12) (Except.ok (Instr.aload_n 0, 1)) := fE fw_dX6_readyAfter_0_c 8 rfl
theorem dX6_readyAfter_13 : Eq (decode cX6_readyAfter 13) (Except.ok (Instr.getfield 15, 3)) := fE fw_dX6_readyAfter_0_c 9 rfl
theorem dX6_readyAfter_16 : Eq (decode cX6_readyAfter 16) (Except.ok (Instr.iload_n 3, 1)) := fE fw_dX6_readyAfter_0_c 10 rfl
theorem dX6_readyAfter_17 : Eq (decode cX6_readyAfter 17) (Except.ok (Instr.iaload, 1)) := fE fw_dX6_readyAfter_0_c 11 rfl
theorem dX6_readyAfter_18 : Eq (decode cX6_readyAfter 18) (Except.ok (Instr.iload_n 1, 1)) := fE fw_dX6_readyAfter_0_c 12 rfl
theorem dX6_readyAfter_19 : Eq (decode cX6_readyAfter 19) (Except.ok (Instr.iconst (-1), 1)) := fE fw_dX6_readyAfter_0_c 13 rfl
theorem dX6_readyAfter_20 : Eq (decode cX6_readyAfter 20) (Except.ok (Instr.ixor, 1)) := fE fw_dX6_readyAfter_0_c 14 rfl
theorem dX6_readyAfter_21 : Eq (decode cX6_readyAfter 21) (Except.ok (Instr.iand, 1)) := fE fw_dX6_readyAfter_0_c 15 rfl
theorem dX6_readyAfter_22 : Eq (decode cX6_readyAfter 22) (Except.ok (Instr.ifCond .ne 22, 3)) := fE fw_dX6_readyAfter_0_c 16 rfl
theorem dX6_readyAfter_25 : Eq (decode cX6_readyAfter 25) (Except.ok (Instr.aload_n 0, 1)) := fE fw_dX6_readyAfter_0_c 17 rfl
theorem dX6_readyAfter_26 : Eq (decode cX6_readyAfter 26) (Except.ok (Instr.getfield 18, 3)) := fE fw_dX6_readyAfter_0_c 18 rfl
theorem dX6_readyAfter_29 : Eq (decode cX6_readyAfter 29) (Except.ok (Instr.iload_n 3, 1)) := fE fw_dX6_readyAfter_0_c 19 rfl
def fw_dX6_readyAfter_30 : List (Nat × Instr × Nat) := [(30, .iaload, 1), (31, .iload_n 1, 1), (32, .iload_n 2, 1), (33, .ior, 1), (34, .iconst (-1), 1), (35, .ixor, 1), (36, .iand, 1), (37, .ifCond .ne 7, 3), (40, .iconst 1, 1), (41, .goto 4, 3), (44, .iconst 0, 1), (45, .istore 4, 2), (47, .iload 4, 2), (49, .ifCond .eq 17, 3), (52, .iload_n 1, 1), (53, .iload_n 3, 1), (54, .invokestatic 102, 3), (57, .ifCond .ne 9, 3), (60, .iload_n 2, 1), (61, .iconst 1, 1)]
theorem fw_dX6_readyAfter_30_c : fchk 30 (cX6_readyAfter.data.toList.drop 30) fw_dX6_readyAfter_30 = true := by decide +kernel
theorem dX6_readyAfter_30 : Eq (decode cX6_readyAfter 30) (Except.ok (Instr.iaload, 1)) := fE fw_dX6_readyAfter_30_c 0 rfl
theorem dX6_readyAfter_31 : Eq (decode cX6_readyAfter 31) (Except.ok (Instr.iload_n 1, 1)) := fE fw_dX6_readyAfter_30_c 1 rfl
theorem dX6_readyAfter_32 : Eq (decode cX6_readyAfter 32) (Except.ok (Instr.iload_n 2, 1)) := fE fw_dX6_readyAfter_30_c 2 rfl
theorem dX6_readyAfter_33 : Eq (decode cX6_readyAfter 33) (Except.ok (Instr.ior, 1)) := fE fw_dX6_readyAfter_30_c 3 rfl
theorem dX6_readyAfter_34 : Eq (decode cX6_readyAfter 34) (Except.ok (Instr.iconst (-1), 1)) := fE fw_dX6_readyAfter_30_c 4 rfl
theorem dX6_readyAfter_35 : Eq (decode cX6_readyAfter 35) (Except.ok (Instr.ixor, 1)) := fE fw_dX6_readyAfter_30_c 5 rfl
theorem dX6_readyAfter_36 : Eq (decode cX6_readyAfter 36) (Except.ok (Instr.iand, 1)) := fE fw_dX6_readyAfter_30_c 6 rfl
theorem dX6_readyAfter_37 : Eq (decode cX6_readyAfter 37) (Except.ok (Instr.ifCond .ne 7, 3)) := fE fw_dX6_readyAfter_30_c 7 rfl
theorem dX6_readyAfter_40 : Eq (decode cX6_readyAfter 40) (Except.ok (Instr.iconst 1, 1)) := fE fw_dX6_readyAfter_30_c 8 rfl
theorem dX6_readyAfter_41 : Eq (decode cX6_readyAfter 41) (Except.ok (Instr.goto 4, 3)) := fE fw_dX6_readyAfter_30_c 9 rfl
theorem dX6_readyAfter_44 : Eq (decode cX6_readyAfter 44) (Except.ok (Instr.iconst 0, 1)) := fE fw_dX6_readyAfter_30_c 10 rfl
theorem dX6_readyAfter_45 : Eq (decode cX6_readyAfter 45) (Except.ok (Instr.istore 4, 2)) := fE fw_dX6_readyAfter_30_c 11 rfl
theorem dX6_readyAfter_47 : Eq (decode cX6_readyAfter 47) (Except.ok (Instr.iload 4, 2)) := fE fw_dX6_readyAfter_30_c 12 rfl
theorem dX6_readyAfter_49 : Eq (decode cX6_readyAfter 49) (Except.ok (Instr.ifCond .eq 17, 3)) := fE fw_dX6_readyAfter_30_c 13 rfl
theorem dX6_readyAfter_52 : Eq (decode cX6_readyAfter 52) (Except.ok (Instr.iload_n 1, 1)) := fE fw_dX6_readyAfter_30_c 14 rfl
theorem dX6_readyAfter_53 : Eq (decode cX6_readyAfter 53) (Except.ok (Instr.iload_n 3, 1)) := fE fw_dX6_readyAfter_30_c 15 rfl
theorem dX6_readyAfter_54 : Eq (decode cX6_readyAfter 54) (Except.ok (Instr.invokestatic 102, 3)) := fE fw_dX6_readyAfter_30_c 16 rfl
theorem dX6_readyAfter_57 : Eq (decode cX6_readyAfter 57) (Except.ok (Instr.ifCond .ne 9, 3)) := fE fw_dX6_readyAfter_30_c 17 rfl
theorem dX6_readyAfter_60 : Eq (decode cX6_readyAfter 60) (Except.ok (Instr.iload_n 2, 1)) := fE fw_dX6_readyAfter_30_c 18 rfl
theorem dX6_readyAfter_61 : Eq (decode cX6_readyAfter 61) (Except.ok (Instr.iconst 1, 1)) := fE fw_dX6_readyAfter_30_c 19 rfl
def fw_dX6_readyAfter_62 : List (Nat × Instr × Nat) := [(62, .iload_n 3, 1), (63, .ishl, 1), (64, .ior, 1), (65, .istore_n 2, 1)]
theorem fw_dX6_readyAfter_62_c : fchk 62 (cX6_readyAfter.data.toList.drop 62) fw_dX6_readyAfter_62 = true := by decide +kernel
theorem dX6_readyAfter_62 : Eq (decode cX6_readyAfter 62) (Except.ok (Instr.iload_n 3, 1)) := fE fw_dX6_readyAfter_62_c 0 rfl
theorem dX6_readyAfter_63 : Eq (decode cX6_readyAfter 63) (Except.ok (Instr.ishl, 1)) := fE fw_dX6_readyAfter_62_c 1 rfl
theorem dX6_readyAfter_64 : Eq (decode cX6_readyAfter 64) (Except.ok (Instr.ior, 1)) := fE fw_dX6_readyAfter_62_c 2 rfl
theorem dX6_readyAfter_65 : Eq (decode cX6_readyAfter 65) (Except.ok (Instr.istore_n 2, 1)) := fE fw_dX6_readyAfter_62_c 3 rfl
theorem dX6_readyAfter_66 : decode cX6_readyAfter 66 = .ok (.iinc 3 1, 3) := by decide +kernel
def fw_dX6_readyAfter_69 : List (Nat × Instr × Nat) := [(69, .goto (-65), 3), (72, .iload_n 2, 1), (73, .ireturn, 1)]
theorem fw_dX6_readyAfter_69_c : fchk 69 (cX6_readyAfter.data.toList.drop 69) fw_dX6_readyAfter_69 = true := by decide +kernel
theorem dX6_readyAfter_69 : Eq (decode cX6_readyAfter 69) (Except.ok (Instr.goto (-65), 3)) := fE fw_dX6_readyAfter_69_c 0 rfl
theorem dX6_readyAfter_72 : Eq (decode cX6_readyAfter 72) (Except.ok (Instr.iload_n 2, 1)) := fE fw_dX6_readyAfter_69_c 1 rfl
theorem dX6_readyAfter_73 : Eq (decode cX6_readyAfter 73) (Except.ok (Instr.ireturn, 1)) := fE fw_dX6_readyAfter_69_c 2 rfl
set_option maxRecDepth 20000 in
theorem gi_wsX6_urgentOf_0 : GoodIn wsX6_urgentOf wsX6_urgentOf := goodIn_sub (fun _ h => h) (by decide +kernel)
set_option maxRecDepth 20000 in
theorem gi_wsX6_urgentOf_1 : GoodIn wsX6_urgentOf wsX60 := goodIn_sub (fun w h => List.mem_cons_of_mem _ (List.mem_append_right _ h)) (by decide +kernel)
def bs_wsX6_urgentOf : List (List Cond) := [wsX6_urgentOf, wsX60]
theorem bs_wsX6_urgentOf_in : ∀ b ∈ bs_wsX6_urgentOf, GoodIn wsX6_urgentOf b := List.forall_mem_cons.mpr ⟨gi_wsX6_urgentOf_0, List.forall_mem_cons.mpr ⟨gi_wsX6_urgentOf_1, (fun _ h => absurd h List.not_mem_nil)⟩⟩
set_option maxRecDepth 20000 in
theorem ggX6_urgentOf_X7_isIn : GoodIn wsX6_urgentOf wsX7_isIn := goodIn_k (gi_q bs_wsX6_urgentOf_in _ [(0, 5)] rfl) (gi_q bs_wsX6_urgentOf_in _ [] rfl)
set_option maxRecDepth 20000 in
theorem gX6_urgentOf_X7_isIn_n102 : GoodIn wsX6_urgentOf (wsX7_isIn) := ggX6_urgentOf_X7_isIn
def fw_dX6_urgentOf_0 : List (Nat × Instr × Nat) := [(0, .iconst 0, 1), (1, .istore_n 3, 1), (2, .iconst 0, 1), (3, .istore 4, 2), (5, .iload 4, 2), (7, .aload_n 0, 1), (8, .getfield 43, 3), (11, .if_icmp .ge 38, 3), (14, .iload_n 1, 1), (15, .iload 4, 2), (17, .invokestatic 102, 3), (20, .ifCond .eq 23, 3), (23, .aload_n 0, 1), (24, .getfield 21, 3), (27, .iload 4, 2), (29, .iaload, 1), (30, .iload_n 2, 1), (31, .iconst 1, 1), (32, .isub, 1), (33, .if_icmp .ne 10, 3)]
theorem fw_dX6_urgentOf_0_c : fchk 0 (cX6_urgentOf.data.toList.drop 0) fw_dX6_urgentOf_0 = true := by decide +kernel
theorem dX6_urgentOf_0 : Eq (decode cX6_urgentOf 0) (Except.ok (Instr.iconst 0, 1)) := fE fw_dX6_urgentOf_0_c 0 rfl
theorem dX6_urgentOf_1 : Eq (decode cX6_urgentOf 1) (Except.ok (Instr.istore_n 3, 1)) := fE fw_dX6_urgentOf_0_c 1 rfl
theorem dX6_urgentOf_2 : Eq (decode cX6_urgentOf 2) (Except.ok (Instr.iconst 0, 1)) := fE fw_dX6_urgentOf_0_c 2 rfl
theorem dX6_urgentOf_3 : Eq (decode cX6_urgentOf 3) (Except.ok (Instr.istore 4, 2)) := fE fw_dX6_urgentOf_0_c 3 rfl
theorem dX6_urgentOf_5 : Eq (decode cX6_urgentOf 5) (Except.ok (Instr.iload 4, 2)) := fE fw_dX6_urgentOf_0_c 4 rfl
theorem dX6_urgentOf_7 : Eq (decode cX6_urgentOf 7) (Except.ok (Instr.aload_n 0, 1)) := fE fw_dX6_urgentOf_0_c 5 rfl
theorem dX6_urgentOf_8 : Eq (decode cX6_urgentOf 8) (Except.ok (Instr.getfield 43, 3)) := fE fw_dX6_urgentOf_0_c 6 rfl
theorem dX6_urgentOf_11 : Eq (decode cX6_urgentOf 11) (Except.ok (Instr.if_icmp .ge 38, 3)) := fE fw_dX6_urgentOf_0_c 7 rfl
theorem dX6_urgentOf_14 : Eq (decode cX6_urgentOf 14) (Except.ok (Instr.iload_n 1, 1)) := fE fw_dX6_urgentOf_0_c 8 rfl
theorem dX6_urgentOf_15 : Eq (decode cX6_urgentOf 15) (Except.ok (Instr.iload 4, 2)) := fE fw_dX6_urgentOf_0_c 9 rfl
theorem dX6_urgentOf_17 : Eq (decode cX6_urgentOf 17) (Except.ok (Instr.invokestatic 102, 3)) := fE fw_dX6_urgentOf_0_c 10 rfl
theorem dX6_urgentOf_20 : Eq (decode cX6_urgentOf 20) (Except.ok (Instr.ifCond .eq 23, 3)) := fE fw_dX6_urgentOf_0_c 11 rfl
theorem dX6_urgentOf_23 : Eq (decode cX6_urgentOf 23) (Except.ok (Instr.aload_n 0, 1)) := fE fw_dX6_urgentOf_0_c 12 rfl
theorem dX6_urgentOf_24 : Eq (decode cX6_urgentOf 24) (Except.ok (Instr.getfield 21, 3)) := fE fw_dX6_urgentOf_0_c 13 rfl
theorem dX6_urgentOf_27 : Eq (decode cX6_urgentOf 27) (Except.ok (Instr.iload 4, 2)) := fE fw_dX6_urgentOf_0_c 14 rfl
theorem dX6_urgentOf_29 : Eq (decode cX6_urgentOf 29) (Except.ok (Instr.iaload, 1)) := fE fw_dX6_urgentOf_0_c 15 rfl
theorem dX6_urgentOf_30 : Eq (decode cX6_urgentOf 30) (Except.ok (Instr.iload_n 2, 1)) := fE fw_dX6_urgentOf_0_c 16 rfl
theorem dX6_urgentOf_31 : Eq (decode cX6_urgentOf 31) (Except.ok (Instr.iconst 1, 1)) := fE fw_dX6_urgentOf_0_c 17 rfl
theorem dX6_urgentOf_32 : Eq (decode cX6_urgentOf 32) (Except.ok (Instr.isub, 1)) := fE fw_dX6_urgentOf_0_c 18 rfl
theorem dX6_urgentOf_33 : Eq (decode cX6_urgentOf 33) (Except.ok (Instr.if_icmp .ne 10, 3)) := fE fw_dX6_urgentOf_0_c 19 rfl
def fw_dX6_urgentOf_36 : List (Nat × Instr × Nat) := [(36, .iload_n 3, 1), (37, .iconst 1, 1), (38, .iload 4, 2), (40, .ishl, 1), (41, .ior, 1), (42, .istore_n 3, 1)]
theorem fw_dX6_urgentOf_36_c : fchk 36 (cX6_urgentOf.data.toList.drop 36) fw_dX6_urgentOf_36 = true := by decide +kernel
theorem dX6_urgentOf_36 : Eq (decode cX6_urgentOf 36) (Except.ok (Instr.iload_n 3, 1)) := fE fw_dX6_urgentOf_36_c 0 rfl
theorem dX6_urgentOf_37 : Eq (decode cX6_urgentOf 37) (Except.ok (Instr.iconst 1, 1)) := fE fw_dX6_urgentOf_36_c 1 rfl
theorem dX6_urgentOf_38 : Eq (decode cX6_urgentOf 38) (Except.ok (Instr.iload 4, 2)) := fE fw_dX6_urgentOf_36_c 2 rfl
theorem dX6_urgentOf_40 : Eq (decode cX6_urgentOf 40) (Except.ok (Instr.ishl, 1)) := fE fw_dX6_urgentOf_36_c 3 rfl
theorem dX6_urgentOf_41 : Eq (decode cX6_urgentOf 41) (Except.ok (Instr.ior, 1)) := fE fw_dX6_urgentOf_36_c 4 rfl
theorem dX6_urgentOf_42 : Eq (decode cX6_urgentOf 42) (Except.ok (Instr.istore_n 3, 1)) := fE fw_dX6_urgentOf_36_c 5 rfl
theorem dX6_urgentOf_43 : decode cX6_urgentOf 43 = .ok (.iinc 4 1, 3) := by decide +kernel
def fw_dX6_urgentOf_46 : List (Nat × Instr × Nat) := [(46, .goto (-41), 3), (49, .iload_n 3, 1), (50, .ireturn, 1)]
theorem fw_dX6_urgentOf_46_c : fchk 46 (cX6_urgentOf.data.toList.drop 46) fw_dX6_urgentOf_46 = true := by decide +kernel
theorem dX6_urgentOf_46 : Eq (decode cX6_urgentOf 46) (Except.ok (Instr.goto (-41), 3)) := fE fw_dX6_urgentOf_46_c 0 rfl
theorem dX6_urgentOf_49 : Eq (decode cX6_urgentOf 49) (Except.ok (Instr.iload_n 3, 1)) := fE fw_dX6_urgentOf_46_c 1 rfl
theorem dX6_urgentOf_50 : Eq (decode cX6_urgentOf 50) (Except.ok (Instr.ireturn, 1)) := fE fw_dX6_urgentOf_46_c 2 rfl
set_option maxRecDepth 20000 in
theorem gi_wsX6_canMeet_0 : GoodIn wsX6_canMeet wsX6_canMeet := goodIn_sub (fun _ h => h) (by decide +kernel)
set_option maxRecDepth 20000 in
theorem gi_wsX6_canMeet_1 : GoodIn wsX6_canMeet wsX60 := goodIn_sub (fun w h => List.mem_cons_of_mem _ (List.mem_append_right _ h)) (by decide +kernel)
def bs_wsX6_canMeet : List (List Cond) := [wsX6_canMeet, wsX60]
theorem bs_wsX6_canMeet_in : ∀ b ∈ bs_wsX6_canMeet, GoodIn wsX6_canMeet b := List.forall_mem_cons.mpr ⟨gi_wsX6_canMeet_0, List.forall_mem_cons.mpr ⟨gi_wsX6_canMeet_1, (fun _ h => absurd h List.not_mem_nil)⟩⟩
set_option maxRecDepth 20000 in
theorem ggX6_canMeet_J6_bitCount_0f7a4 : GoodIn wsX6_canMeet wsJ6_bitCount_0f7a4 := goodIn_k (gi_q bs_wsX6_canMeet_in _ [(0, 8)] rfl) (gi_q bs_wsX6_canMeet_in _ [(0, 9), (0, 10), (0, 11)] rfl)
set_option maxRecDepth 20000 in
theorem gX6_canMeet_J6_bitCount_0f7a4 : GoodIn wsX6_canMeet (va_wsS RX6 97 yJ6_bitCount_0f7a4 wsJ6_bitCount_0f7a4) := goodIn_app (gi_q bs_wsX6_canMeet_in _ [(0, 5), (0, 6), (0, 7)] rfl) ggX6_canMeet_J6_bitCount_0f7a4
set_option maxRecDepth 20000 in
theorem ggX6_canMeet_X7_isIn : GoodIn wsX6_canMeet wsX7_isIn := goodIn_k (gi_q bs_wsX6_canMeet_in _ [(0, 14)] rfl) (gi_q bs_wsX6_canMeet_in _ [] rfl)
set_option maxRecDepth 20000 in
theorem gX6_canMeet_X7_isIn_n102 : GoodIn wsX6_canMeet (wsX7_isIn) := ggX6_canMeet_X7_isIn
def fw_dX6_canMeet_0 : List (Nat × Instr × Nat) := [(0, .iload_n 1, 1), (1, .iload_n 2, 1), (2, .iconst (-1), 1), (3, .ixor, 1), (4, .iand, 1), (5, .ifCond .eq 5, 3), (8, .iconst 0, 1), (9, .ireturn, 1), (10, .iconst 0, 1), (11, .istore 4, 2), (13, .iload 4, 2), (15, .iconst 5, 1), (16, .if_icmp .ge 33, 3), (19, .iload_n 1, 1), (20, .aload_n 0, 1), (21, .getfield 24, 3), (24, .iload 4, 2), (26, .iaload, 1), (27, .iand, 1), (28, .invokestatic 97, 3)]
theorem fw_dX6_canMeet_0_c : fchk 0 (cX6_canMeet.data.toList.drop 0) fw_dX6_canMeet_0 = true := by decide +kernel
theorem dX6_canMeet_0 : Eq (decode cX6_canMeet 0) (Except.ok (Instr.iload_n 1, 1)) := fE fw_dX6_canMeet_0_c 0 rfl
theorem dX6_canMeet_1 : Eq (decode cX6_canMeet 1) (Except.ok (Instr.iload_n 2, 1)) := fE fw_dX6_canMeet_0_c 1 rfl
theorem dX6_canMeet_2 : Eq (decode cX6_canMeet 2) (Except.ok (Instr.iconst (-1), 1)) := fE fw_dX6_canMeet_0_c 2 rfl
theorem dX6_canMeet_3 : Eq (decode cX6_canMeet 3) (Except.ok (Instr.ixor, 1)) := fE fw_dX6_canMeet_0_c 3 rfl
theorem dX6_canMeet_4 : Eq (decode cX6_canMeet 4) (Except.ok (Instr.iand, 1)) := fE fw_dX6_canMeet_0_c 4 rfl
theorem dX6_canMeet_5 : Eq (decode cX6_canMeet 5) (Except.ok (Instr.ifCond .eq 5, 3)) := fE fw_dX6_canMeet_0_c 5 rfl
theorem dX6_canMeet_8 : Eq (decode cX6_canMeet 8) (Except.ok (Instr.iconst 0, 1)) := fE fw_dX6_canMeet_0_c 6 rfl
theorem dX6_canMeet_9 : Eq (decode cX6_canMeet 9) (Except.ok (Instr.ireturn, 1)) := fE fw_dX6_canMeet_0_c 7 rfl
theorem dX6_canMeet_10 : Eq (decode cX6_canMeet 10) (Except.ok (Instr.iconst 0, 1)) := fE fw_dX6_canMeet_0_c 8 rfl
theorem dX6_canMeet_11 : Eq (decode cX6_canMeet 11) (Except.ok (Instr.istore 4, 2)) := fE fw_dX6_canMeet_0_c 9 rfl
theorem dX6_canMeet_13 : Eq (decode cX6_canMeet 13) (Except.ok (Instr.iload 4, 2)) := fE fw_dX6_canMeet_0_c 10 rfl
theorem dX6_canMeet_15 : Eq (decode cX6_canMeet 15) (Except.ok (Instr.iconst 5, 1)) := fE fw_dX6_canMeet_0_c 11 rfl
theorem dX6_canMeet_16 : Eq (decode cX6_canMeet 16) (Except.ok (Instr.if_icmp .ge 33, 3)) := fE fw_dX6_canMeet_0_c 12 rfl
theorem dX6_canMeet_19 : Eq (decode cX6_canMeet 19) (Except.ok (Instr.iload_n 1, 1)) := fE fw_dX6_canMeet_0_c 13 rfl
theorem dX6_canMeet_20 : Eq (decode cX6_canMeet 20) (Except.ok (Instr.aload_n 0, 1)) := fE fw_dX6_canMeet_0_c 14 rfl
theorem dX6_canMeet_21 : Eq (decode cX6_canMeet 21) (Except.ok (Instr.getfield 24, 3)) := fE fw_dX6_canMeet_0_c 15 rfl
theorem dX6_canMeet_24 : Eq (decode cX6_canMeet 24) (Except.ok (Instr.iload 4, 2)) := fE fw_dX6_canMeet_0_c 16 rfl
theorem dX6_canMeet_26 : Eq (decode cX6_canMeet 26) (Except.ok (Instr.iaload, 1)) := fE fw_dX6_canMeet_0_c 17 rfl
theorem dX6_canMeet_27 : Eq (decode cX6_canMeet 27) (Except.ok (Instr.iand, 1)) := fE fw_dX6_canMeet_0_c 18 rfl
theorem dX6_canMeet_28 : Eq (decode cX6_canMeet 28) (Except.ok (Instr.invokestatic 97, 3)) := fE fw_dX6_canMeet_0_c 19 rfl
def fw_dX6_canMeet_31 : List (Nat × Instr × Nat) := [(31, .aload_n 0, 1), (32, .getfield 27, 3), (35, .iload 4, 2), (37, .iaload, 1), (38, .if_icmp .le 5, 3), (41, .iconst 0, 1), (42, .ireturn, 1)]
theorem fw_dX6_canMeet_31_c : fchk 31 (cX6_canMeet.data.toList.drop 31) fw_dX6_canMeet_31 = true := by decide +kernel
theorem dX6_canMeet_31 : Eq (decode cX6_canMeet 31) (Except.ok (Instr.aload_n 0, 1)) := fE fw_dX6_canMeet_31_c 0 rfl
theorem dX6_canMeet_32 : Eq (decode cX6_canMeet 32) (Except.ok (Instr.getfield 27, 3)) := fE fw_dX6_canMeet_31_c 1 rfl
theorem dX6_canMeet_35 : Eq (decode cX6_canMeet 35) (Except.ok (Instr.iload 4, 2)) := fE fw_dX6_canMeet_31_c 2 rfl
theorem dX6_canMeet_37 : Eq (decode cX6_canMeet 37) (Except.ok (Instr.iaload, 1)) := fE fw_dX6_canMeet_31_c 3 rfl
theorem dX6_canMeet_38 : Eq (decode cX6_canMeet 38) (Except.ok (Instr.if_icmp .le 5, 3)) := fE fw_dX6_canMeet_31_c 4 rfl
theorem dX6_canMeet_41 : Eq (decode cX6_canMeet 41) (Except.ok (Instr.iconst 0, 1)) := fE fw_dX6_canMeet_31_c 5 rfl
theorem dX6_canMeet_42 : Eq (decode cX6_canMeet 42) (Except.ok (Instr.ireturn, 1)) := fE fw_dX6_canMeet_31_c 6 rfl
theorem dX6_canMeet_43 : decode cX6_canMeet 43 = .ok (.iinc 4 1, 3) := by decide +kernel
def fw_dX6_canMeet_46 : List (Nat × Instr × Nat) := [(46, .goto (-33), 3), (49, .iconst 0, 1), (50, .istore 4, 2), (52, .iload 4, 2), (54, .aload_n 0, 1), (55, .getfield 43, 3), (58, .if_icmp .ge 36, 3), (61, .iload_n 1, 1), (62, .iload 4, 2), (64, .invokestatic 102, 3), (67, .ifCond .eq 21, 3), (70, .aload_n 0, 1), (71, .getfield 18, 3), (74, .iload 4, 2), (76, .iaload, 1), (77, .iload_n 3, 1), (78, .iload_n 1, 1), (79, .ior, 1), (80, .iconst (-1), 1), (81, .ixor, 1)]
theorem fw_dX6_canMeet_46_c : fchk 46 (cX6_canMeet.data.toList.drop 46) fw_dX6_canMeet_46 = true := by decide +kernel
theorem dX6_canMeet_46 : Eq (decode cX6_canMeet 46) (Except.ok (Instr.goto (-33), 3)) := fE fw_dX6_canMeet_46_c 0 rfl
theorem dX6_canMeet_49 : Eq (decode cX6_canMeet 49) (Except.ok (Instr.iconst 0, 1)) := fE fw_dX6_canMeet_46_c 1 rfl
theorem dX6_canMeet_50 : Eq (decode cX6_canMeet 50) (Except.ok (Instr.istore 4, 2)) := fE fw_dX6_canMeet_46_c 2 rfl
theorem dX6_canMeet_52 : Eq (decode cX6_canMeet 52) (Except.ok (Instr.iload 4, 2)) := fE fw_dX6_canMeet_46_c 3 rfl
theorem dX6_canMeet_54 : Eq (decode cX6_canMeet 54) (Except.ok (Instr.aload_n 0, 1)) := fE fw_dX6_canMeet_46_c 4 rfl
theorem dX6_canMeet_55 : Eq (decode cX6_canMeet 55) (Except.ok (Instr.getfield 43, 3)) := fE fw_dX6_canMeet_46_c 5 rfl
theorem dX6_canMeet_58 : Eq (decode cX6_canMeet 58) (Except.ok (Instr.if_icmp .ge 36, 3)) := fE fw_dX6_canMeet_46_c 6 rfl
theorem dX6_canMeet_61 : Eq (decode cX6_canMeet 61) (Except.ok (Instr.iload_n 1, 1)) := fE fw_dX6_canMeet_46_c 7 rfl
theorem dX6_canMeet_62 : Eq (decode cX6_canMeet 62) (Except.ok (Instr.iload 4, 2)) := fE fw_dX6_canMeet_46_c 8 rfl
theorem dX6_canMeet_64 : Eq (decode cX6_canMeet 64) (Except.ok (Instr.invokestatic 102, 3)) := fE fw_dX6_canMeet_46_c 9 rfl
theorem dX6_canMeet_67 : Eq (decode cX6_canMeet 67) (Except.ok (Instr.ifCond .eq 21, 3)) := fE fw_dX6_canMeet_46_c 10 rfl
theorem dX6_canMeet_70 : Eq (decode cX6_canMeet 70) (Except.ok (Instr.aload_n 0, 1)) := fE fw_dX6_canMeet_46_c 11 rfl
theorem dX6_canMeet_71 : Eq (decode cX6_canMeet 71) (Except.ok (Instr.getfield 18, 3)) := fE fw_dX6_canMeet_46_c 12 rfl
theorem dX6_canMeet_74 : Eq (decode cX6_canMeet 74) (Except.ok (Instr.iload 4, 2)) := fE fw_dX6_canMeet_46_c 13 rfl
theorem dX6_canMeet_76 : Eq (decode cX6_canMeet 76) (Except.ok (Instr.iaload, 1)) := fE fw_dX6_canMeet_46_c 14 rfl
theorem dX6_canMeet_77 : Eq (decode cX6_canMeet 77) (Except.ok (Instr.iload_n 3, 1)) := fE fw_dX6_canMeet_46_c 15 rfl
theorem dX6_canMeet_78 : Eq (decode cX6_canMeet 78) (Except.ok (Instr.iload_n 1, 1)) := fE fw_dX6_canMeet_46_c 16 rfl
theorem dX6_canMeet_79 : Eq (decode cX6_canMeet 79) (Except.ok (Instr.ior, 1)) := fE fw_dX6_canMeet_46_c 17 rfl
theorem dX6_canMeet_80 : Eq (decode cX6_canMeet 80) (Except.ok (Instr.iconst (-1), 1)) := fE fw_dX6_canMeet_46_c 18 rfl
theorem dX6_canMeet_81 : Eq (decode cX6_canMeet 81) (Except.ok (Instr.ixor, 1)) := fE fw_dX6_canMeet_46_c 19 rfl
def fw_dX6_canMeet_82 : List (Nat × Instr × Nat) := [(82, .iand, 1), (83, .ifCond .eq 5, 3), (86, .iconst 0, 1), (87, .ireturn, 1)]
theorem fw_dX6_canMeet_82_c : fchk 82 (cX6_canMeet.data.toList.drop 82) fw_dX6_canMeet_82 = true := by decide +kernel
theorem dX6_canMeet_82 : Eq (decode cX6_canMeet 82) (Except.ok (Instr.iand, 1)) := fE fw_dX6_canMeet_82_c 0 rfl
theorem dX6_canMeet_83 : Eq (decode cX6_canMeet 83) (Except.ok (Instr.ifCond .eq 5, 3)) := fE fw_dX6_canMeet_82_c 1 rfl
theorem dX6_canMeet_86 : Eq (decode cX6_canMeet 86) (Except.ok (Instr.iconst 0, 1)) := fE fw_dX6_canMeet_82_c 2 rfl
theorem dX6_canMeet_87 : Eq (decode cX6_canMeet 87) (Except.ok (Instr.ireturn, 1)) := fE fw_dX6_canMeet_82_c 3 rfl
theorem dX6_canMeet_88 : decode cX6_canMeet 88 = .ok (.iinc 4 1, 3) := by decide +kernel
def fw_dX6_canMeet_91 : List (Nat × Instr × Nat) := [(91, .goto (-39), 3), (94, .iconst 1, 1), (95, .ireturn, 1)]
theorem fw_dX6_canMeet_91_c : fchk 91 (cX6_canMeet.data.toList.drop 91) fw_dX6_canMeet_91 = true := by decide +kernel
theorem dX6_canMeet_91 : Eq (decode cX6_canMeet 91) (Except.ok (Instr.goto (-39), 3)) := fE fw_dX6_canMeet_91_c 0 rfl
theorem dX6_canMeet_94 : Eq (decode cX6_canMeet 94) (Except.ok (Instr.iconst 1, 1)) := fE fw_dX6_canMeet_91_c 1 rfl
theorem dX6_canMeet_95 : Eq (decode cX6_canMeet 95) (Except.ok (Instr.ireturn, 1)) := fE fw_dX6_canMeet_91_c 2 rfl
def fw_dJ6_bitCount_0f7a4_0 : List (Nat × Instr × Nat) := [(0, .iload_n 0, 1), (1, .iload_n 0, 1), (2, .iconst 1, 1), (3, .iushr, 1), (4, .ldc_w 265, 3), (7, .iand, 1), (8, .isub, 1), (9, .istore_n 0, 1), (10, .iload_n 0, 1), (11, .ldc_w 266, 3), (14, .iand, 1), (15, .iload_n 0, 1), (16, .iconst 2, 1), (17, .iushr, 1), (18, .ldc_w 266, 3), (21, .iand, 1), (22, .iadd, 1), (23, .istore_n 0, 1), (24, .iload_n 0, 1), (25, .iload_n 0, 1)]
theorem fw_dJ6_bitCount_0f7a4_0_c : fchk 0 (cJ6_bitCount_0f7a4.data.toList.drop 0) fw_dJ6_bitCount_0f7a4_0 = true := by decide +kernel
theorem dJ6_bitCount_0f7a4_0 : Eq (decode cJ6_bitCount_0f7a4 0) (Except.ok (Instr.iload_n 0, 1)) := fE fw_dJ6_bitCount_0f7a4_0_c 0 rfl
theorem dJ6_bitCount_0f7a4_1 : Eq (decode cJ6_bitCount_0f7a4 1) (Except.ok (Instr.iload_n 0, 1)) := fE fw_dJ6_bitCount_0f7a4_0_c 1 rfl
theorem dJ6_bitCount_0f7a4_2 : Eq (decode cJ6_bitCount_0f7a4 2) (Except.ok (Instr.iconst 1, 1)) := fE fw_dJ6_bitCount_0f7a4_0_c 2 rfl
theorem dJ6_bitCount_0f7a4_3 : Eq (decode cJ6_bitCount_0f7a4 3) (Except.ok (Instr.iushr, 1)) := fE fw_dJ6_bitCount_0f7a4_0_c 3 rfl
theorem dJ6_bitCount_0f7a4_4 : Eq (decode cJ6_bitCount_0f7a4 4) (Except.ok (Instr.ldc_w 265, 3)) := fE fw_dJ6_bitCount_0f7a4_0_c 4 rfl
theorem dJ6_bitCount_0f7a4_7 : Eq (decode cJ6_bitCount_0f7a4 7) (Except.ok (Instr.iand, 1)) := fE fw_dJ6_bitCount_0f7a4_0_c 5 rfl
theorem dJ6_bitCount_0f7a4_8 : Eq (decode cJ6_bitCount_0f7a4 8) (Except.ok (Instr.isub, 1)) := fE fw_dJ6_bitCount_0f7a4_0_c 6 rfl
theorem dJ6_bitCount_0f7a4_9 : Eq (decode cJ6_bitCount_0f7a4 9) (Except.ok (Instr.istore_n 0, 1)) := fE fw_dJ6_bitCount_0f7a4_0_c 7 rfl
theorem dJ6_bitCount_0f7a4_10 : Eq (decode cJ6_bitCount_0f7a4 10) (Except.ok (Instr.iload_n 0, 1)) := fE fw_dJ6_bitCount_0f7a4_0_c 8 rfl
theorem dJ6_bitCount_0f7a4_11 : Eq (decode cJ6_bitCount_0f7a4 11) (Except.ok (Instr.ldc_w 266, 3)) := fE fw_dJ6_bitCount_0f7a4_0_c 9 rfl
theorem dJ6_bitCount_0f7a4_14 : Eq (decode cJ6_bitCount_0f7a4 14) (Except.ok (Instr.iand, 1)) := fE fw_dJ6_bitCount_0f7a4_0_c 10 rfl
theorem dJ6_bitCount_0f7a4_15 : Eq (decode cJ6_bitCount_0f7a4 15) (Except.ok (Instr.iload_n 0, 1)) := fE fw_dJ6_bitCount_0f7a4_0_c 11 rfl
theorem dJ6_bitCount_0f7a4_16 : Eq (decode cJ6_bitCount_0f7a4 16) (Except.ok (Instr.iconst 2, 1)) := fE fw_dJ6_bitCount_0f7a4_0_c 12 rfl
theorem dJ6_bitCount_0f7a4_17 : Eq (decode cJ6_bitCount_0f7a4 17) (Except.ok (Instr.iushr, 1)) := fE fw_dJ6_bitCount_0f7a4_0_c 13 rfl
theorem dJ6_bitCount_0f7a4_18 : Eq (decode cJ6_bitCount_0f7a4 18) (Except.ok (Instr.ldc_w 266, 3)) := fE fw_dJ6_bitCount_0f7a4_0_c 14 rfl
theorem dJ6_bitCount_0f7a4_21 : Eq (decode cJ6_bitCount_0f7a4 21) (Except.ok (Instr.iand, 1)) := fE fw_dJ6_bitCount_0f7a4_0_c 15 rfl
theorem dJ6_bitCount_0f7a4_22 : Eq (decode cJ6_bitCount_0f7a4 22) (Except.ok (Instr.iadd, 1)) := fE fw_dJ6_bitCount_0f7a4_0_c 16 rfl
theorem dJ6_bitCount_0f7a4_23 : Eq (decode cJ6_bitCount_0f7a4 23) (Except.ok (Instr.istore_n 0, 1)) := fE fw_dJ6_bitCount_0f7a4_0_c 17 rfl
theorem dJ6_bitCount_0f7a4_24 : Eq (decode cJ6_bitCount_0f7a4 24) (Except.ok (Instr.iload_n 0, 1)) := fE fw_dJ6_bitCount_0f7a4_0_c 18 rfl
theorem dJ6_bitCount_0f7a4_25 : Eq (decode cJ6_bitCount_0f7a4 25) (Except.ok (Instr.iload_n 0, 1)) := fE fw_dJ6_bitCount_0f7a4_0_c 19 rfl
def fw_dJ6_bitCount_0f7a4_26 : List (Nat × Instr × Nat) := [(26, .iconst 4, 1), (27, .iushr, 1), (28, .iadd, 1), (29, .ldc_w 267, 3), (32, .iand, 1), (33, .istore_n 0, 1), (34, .iload_n 0, 1), (35, .iload_n 0, 1), (36, .bipush 8, 2), (38, .iushr, 1), (39, .iadd, 1), (40, .istore_n 0, 1), (41, .iload_n 0, 1), (42, .iload_n 0, 1), (43, .bipush 16, 2), (45, .iushr, 1), (46, .iadd, 1), (47, .istore_n 0, 1), (48, .iload_n 0, 1), (49, .bipush 63, 2)]
theorem fw_dJ6_bitCount_0f7a4_26_c : fchk 26 (cJ6_bitCount_0f7a4.data.toList.drop 26) fw_dJ6_bitCount_0f7a4_26 = true := by decide +kernel
theorem dJ6_bitCount_0f7a4_26 : Eq (decode cJ6_bitCount_0f7a4 26) (Except.ok (Instr.iconst 4, 1)) := fE fw_dJ6_bitCount_0f7a4_26_c 0 rfl
theorem dJ6_bitCount_0f7a4_27 : Eq (decode cJ6_bitCount_0f7a4 27) (Except.ok (Instr.iushr, 1)) := fE fw_dJ6_bitCount_0f7a4_26_c 1 rfl
theorem dJ6_bitCount_0f7a4_28 : Eq (decode cJ6_bitCount_0f7a4 28) (Except.ok (Instr.iadd, 1)) := fE fw_dJ6_bitCount_0f7a4_26_c 2 rfl
theorem dJ6_bitCount_0f7a4_29 : Eq (decode cJ6_bitCount_0f7a4 29) (Except.ok (Instr.ldc_w 267, 3)) := fE fw_dJ6_bitCount_0f7a4_26_c 3 rfl
theorem dJ6_bitCount_0f7a4_32 : Eq (decode cJ6_bitCount_0f7a4 32) (Except.ok (Instr.iand, 1)) := fE fw_dJ6_bitCount_0f7a4_26_c 4 rfl
theorem dJ6_bitCount_0f7a4_33 : Eq (decode cJ6_bitCount_0f7a4 33) (Except.ok (Instr.istore_n 0, 1)) := fE fw_dJ6_bitCount_0f7a4_26_c 5 rfl
theorem dJ6_bitCount_0f7a4_34 : Eq (decode cJ6_bitCount_0f7a4 34) (Except.ok (Instr.iload_n 0, 1)) := fE fw_dJ6_bitCount_0f7a4_26_c 6 rfl
theorem dJ6_bitCount_0f7a4_35 : Eq (decode cJ6_bitCount_0f7a4 35) (Except.ok (Instr.iload_n 0, 1)) := fE fw_dJ6_bitCount_0f7a4_26_c 7 rfl
theorem dJ6_bitCount_0f7a4_36 : Eq (decode cJ6_bitCount_0f7a4 36) (Except.ok (Instr.bipush 8, 2)) := fE fw_dJ6_bitCount_0f7a4_26_c 8 rfl
theorem dJ6_bitCount_0f7a4_38 : Eq (decode cJ6_bitCount_0f7a4 38) (Except.ok (Instr.iushr, 1)) := fE fw_dJ6_bitCount_0f7a4_26_c 9 rfl
theorem dJ6_bitCount_0f7a4_39 : Eq (decode cJ6_bitCount_0f7a4 39) (Except.ok (Instr.iadd, 1)) := fE fw_dJ6_bitCount_0f7a4_26_c 10 rfl
theorem dJ6_bitCount_0f7a4_40 : Eq (decode cJ6_bitCount_0f7a4 40) (Except.ok (Instr.istore_n 0, 1)) := fE fw_dJ6_bitCount_0f7a4_26_c 11 rfl
theorem dJ6_bitCount_0f7a4_41 : Eq (decode cJ6_bitCount_0f7a4 41) (Except.ok (Instr.iload_n 0, 1)) := fE fw_dJ6_bitCount_0f7a4_26_c 12 rfl
theorem dJ6_bitCount_0f7a4_42 : Eq (decode cJ6_bitCount_0f7a4 42) (Except.ok (Instr.iload_n 0, 1)) := fE fw_dJ6_bitCount_0f7a4_26_c 13 rfl
theorem dJ6_bitCount_0f7a4_43 : Eq (decode cJ6_bitCount_0f7a4 43) (Except.ok (Instr.bipush 16, 2)) := fE fw_dJ6_bitCount_0f7a4_26_c 14 rfl
theorem dJ6_bitCount_0f7a4_45 : Eq (decode cJ6_bitCount_0f7a4 45) (Except.ok (Instr.iushr, 1)) := fE fw_dJ6_bitCount_0f7a4_26_c 15 rfl
theorem dJ6_bitCount_0f7a4_46 : Eq (decode cJ6_bitCount_0f7a4 46) (Except.ok (Instr.iadd, 1)) := fE fw_dJ6_bitCount_0f7a4_26_c 16 rfl
theorem dJ6_bitCount_0f7a4_47 : Eq (decode cJ6_bitCount_0f7a4 47) (Except.ok (Instr.istore_n 0, 1)) := fE fw_dJ6_bitCount_0f7a4_26_c 17 rfl
theorem dJ6_bitCount_0f7a4_48 : Eq (decode cJ6_bitCount_0f7a4 48) (Except.ok (Instr.iload_n 0, 1)) := fE fw_dJ6_bitCount_0f7a4_26_c 18 rfl
theorem dJ6_bitCount_0f7a4_49 : Eq (decode cJ6_bitCount_0f7a4 49) (Except.ok (Instr.bipush 63, 2)) := fE fw_dJ6_bitCount_0f7a4_26_c 19 rfl
def fw_dJ6_bitCount_0f7a4_51 : List (Nat × Instr × Nat) := [(51, .iand, 1), (52, .ireturn, 1)]
theorem fw_dJ6_bitCount_0f7a4_51_c : fchk 51 (cJ6_bitCount_0f7a4.data.toList.drop 51) fw_dJ6_bitCount_0f7a4_51 = true := by decide +kernel
theorem dJ6_bitCount_0f7a4_51 : Eq (decode cJ6_bitCount_0f7a4 51) (Except.ok (Instr.iand, 1)) := fE fw_dJ6_bitCount_0f7a4_51_c 0 rfl
theorem dJ6_bitCount_0f7a4_52 : Eq (decode cJ6_bitCount_0f7a4 52) (Except.ok (Instr.ireturn, 1)) := fE fw_dJ6_bitCount_0f7a4_51_c 1 rfl
def fw_dJ9_max_7cf53_0 : List (Nat × Instr × Nat) := [(0, .iload_n 0, 1), (1, .iload_n 1, 1), (2, .if_icmp .lt 7, 3), (5, .iload_n 0, 1), (6, .goto 4, 3), (9, .iload_n 1, 1), (10, .ireturn, 1)]
theorem fw_dJ9_max_7cf53_0_c : fchk 0 (cJ9_max_7cf53.data.toList.drop 0) fw_dJ9_max_7cf53_0 = true := by decide +kernel
theorem dJ9_max_7cf53_0 : Eq (decode cJ9_max_7cf53 0) (Except.ok (Instr.iload_n 0, 1)) := fE fw_dJ9_max_7cf53_0_c 0 rfl
theorem dJ9_max_7cf53_1 : Eq (decode cJ9_max_7cf53 1) (Except.ok (Instr.iload_n 1, 1)) := fE fw_dJ9_max_7cf53_0_c 1 rfl
theorem dJ9_max_7cf53_2 : Eq (decode cJ9_max_7cf53 2) (Except.ok (Instr.if_icmp .lt 7, 3)) := fE fw_dJ9_max_7cf53_0_c 2 rfl
theorem dJ9_max_7cf53_5 : Eq (decode cJ9_max_7cf53 5) (Except.ok (Instr.iload_n 0, 1)) := fE fw_dJ9_max_7cf53_0_c 3 rfl
theorem dJ9_max_7cf53_6 : Eq (decode cJ9_max_7cf53 6) (Except.ok (Instr.goto 4, 3)) := fE fw_dJ9_max_7cf53_0_c 4 rfl
theorem dJ9_max_7cf53_9 : Eq (decode cJ9_max_7cf53 9) (Except.ok (Instr.iload_n 1, 1)) := fE fw_dJ9_max_7cf53_0_c 5 rfl
theorem dJ9_max_7cf53_10 : Eq (decode cJ9_max_7cf53 10) (Except.ok (Instr.ireturn, 1)) := fE fw_dJ9_max_7cf53_0_c 6 rfl
def fw_dJ7_fill_53178_0 : List (Nat × Instr × Nat) := [(0, .iconst 0, 1), (1, .istore_n 2, 1), (2, .aload_n 0, 1), (3, .arraylength, 1), (4, .istore_n 3, 1), (5, .iload_n 2, 1), (6, .iload_n 3, 1), (7, .if_icmp .ge 13, 3), (10, .aload_n 0, 1), (11, .iload_n 2, 1), (12, .iload_n 1, 1), (13, .iastore, 1)]
theorem fw_dJ7_fill_53178_0_c : fchk 0 (cJ7_fill_53178.data.toList.drop 0) fw_dJ7_fill_53178_0 = true := by decide +kernel
theorem dJ7_fill_53178_0 : Eq (decode cJ7_fill_53178 0) (Except.ok (Instr.iconst 0, 1)) := fE fw_dJ7_fill_53178_0_c 0 rfl
theorem dJ7_fill_53178_1 : Eq (decode cJ7_fill_53178 1) (Except.ok (Instr.istore_n 2, 1)) := fE fw_dJ7_fill_53178_0_c 1 rfl
theorem dJ7_fill_53178_2 : Eq (decode cJ7_fill_53178 2) (Except.ok (Instr.aload_n 0, 1)) := fE fw_dJ7_fill_53178_0_c 2 rfl
theorem dJ7_fill_53178_3 : Eq (decode cJ7_fill_53178 3) (Except.ok (Instr.arraylength, 1)) := fE fw_dJ7_fill_53178_0_c 3 rfl
theorem dJ7_fill_53178_4 : Eq (decode cJ7_fill_53178 4) (Except.ok (Instr.istore_n 3, 1)) := fE fw_dJ7_fill_53178_0_c 4 rfl
theorem dJ7_fill_53178_5 : Eq (decode cJ7_fill_53178 5) (Except.ok (Instr.iload_n 2, 1)) := fE fw_dJ7_fill_53178_0_c 5 rfl
theorem dJ7_fill_53178_6 : Eq (decode cJ7_fill_53178 6) (Except.ok (Instr.iload_n 3, 1)) := fE fw_dJ7_fill_53178_0_c 6 rfl
theorem dJ7_fill_53178_7 : Eq (decode cJ7_fill_53178 7) (Except.ok (Instr.if_icmp .ge 13, 3)) := fE fw_dJ7_fill_53178_0_c 7 rfl
theorem dJ7_fill_53178_10 : Eq (decode cJ7_fill_53178 10) (Except.ok (Instr.aload_n 0, 1)) := fE fw_dJ7_fill_53178_0_c 8 rfl
theorem dJ7_fill_53178_11 : Eq (decode cJ7_fill_53178 11) (Except.ok (Instr.iload_n 2, 1)) := fE fw_dJ7_fill_53178_0_c 9 rfl
theorem dJ7_fill_53178_12 : Eq (decode cJ7_fill_53178 12) (Except.ok (Instr.iload_n 1, 1)) := fE fw_dJ7_fill_53178_0_c 10 rfl
theorem dJ7_fill_53178_13 : Eq (decode cJ7_fill_53178 13) (Except.ok (Instr.iastore, 1)) := fE fw_dJ7_fill_53178_0_c 11 rfl
theorem dJ7_fill_53178_14 : decode cJ7_fill_53178 14 = .ok (.iinc 2 1, 3) := by decide +kernel
def fw_dJ7_fill_53178_17 : List (Nat × Instr × Nat) := [(17, .goto (-12), 3), (20, .return_, 1)]
theorem fw_dJ7_fill_53178_17_c : fchk 17 (cJ7_fill_53178.data.toList.drop 17) fw_dJ7_fill_53178_17 = true := by decide +kernel
theorem dJ7_fill_53178_17 : Eq (decode cJ7_fill_53178 17) (Except.ok (Instr.goto (-12), 3)) := fE fw_dJ7_fill_53178_17_c 0 rfl
theorem dJ7_fill_53178_20 : Eq (decode cJ7_fill_53178 20) (Except.ok (Instr.return_, 1)) := fE fw_dJ7_fill_53178_17_c 1 rfl
