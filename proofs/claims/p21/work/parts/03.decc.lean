set_option maxRecDepth 20000 in
theorem gi_wsX7_init_0 : GoodIn wsX7_init wsX7_init_r1 := goodIn_sub (fun w h => List.mem_cons_of_mem _ (List.mem_append_left _ (List.mem_append_left _ (List.mem_append_left _ (List.mem_append_left _ (List.mem_append_left _ (List.mem_append_left _ (List.mem_append_left _ (List.mem_append_left _ (List.mem_append_left _ h)))))))))) (by decide +kernel)
set_option maxRecDepth 20000 in
theorem gi_wsX7_init_1 : GoodIn wsX7_init wsX7_init_r2 := goodIn_sub (fun w h => List.mem_cons_of_mem _ (List.mem_append_left _ (List.mem_append_left _ (List.mem_append_left _ (List.mem_append_left _ (List.mem_append_left _ (List.mem_append_left _ (List.mem_append_left _ (List.mem_append_left _ (List.mem_append_right _ (List.mem_append_left _ h))))))))))) (by decide +kernel)
set_option maxRecDepth 20000 in
theorem gi_wsX7_init_2 : GoodIn wsX7_init wsX7_init_r3 := goodIn_sub (fun w h => List.mem_cons_of_mem _ (List.mem_append_left _ (List.mem_append_left _ (List.mem_append_left _ (List.mem_append_left _ (List.mem_append_left _ (List.mem_append_left _ (List.mem_append_left _ (List.mem_append_left _ (List.mem_append_right _ (List.mem_append_right _ (List.mem_append_left _ h)))))))))))) (by decide +kernel)
set_option maxRecDepth 20000 in
theorem gi_wsX7_init_3 : GoodIn wsX7_init wsX7_init_r4 := goodIn_sub (fun w h => List.mem_cons_of_mem _ (List.mem_append_left _ (List.mem_append_left _ (List.mem_append_left _ (List.mem_append_left _ (List.mem_append_left _ (List.mem_append_left _ (List.mem_append_left _ (List.mem_append_left _ (List.mem_append_right _ (List.mem_append_right _ (List.mem_append_right _ (List.mem_append_left _ h))))))))))))) (by decide +kernel)
set_option maxRecDepth 20000 in
theorem gi_wsX7_init_4 : GoodIn wsX7_init wsX7_init_r5 := goodIn_sub (fun w h => List.mem_cons_of_mem _ (List.mem_append_left _ (List.mem_append_left _ (List.mem_append_left _ (List.mem_append_left _ (List.mem_append_left _ (List.mem_append_left _ (List.mem_append_left _ (List.mem_append_left _ (List.mem_append_right _ (List.mem_append_right _ (List.mem_append_right _ (List.mem_append_right _ (List.mem_append_left _ h)))))))))))))) (by decide +kernel)
set_option maxRecDepth 20000 in
theorem gi_wsX7_init_5 : GoodIn wsX7_init wsX7_init_r6 := goodIn_sub (fun w h => List.mem_cons_of_mem _ (List.mem_append_left _ (List.mem_append_left _ (List.mem_append_left _ (List.mem_append_left _ (List.mem_append_left _ (List.mem_append_left _ (List.mem_append_left _ (List.mem_append_left _ (List.mem_append_right _ (List.mem_append_right _ (List.mem_append_right _ (List.mem_append_right _ (List.mem_append_right _ h)))))))))))))) (by decide +kernel)
set_option maxRecDepth 20000 in
theorem gi_wsX7_init_6 : GoodIn wsX7_init wsX20 := goodIn_sub (fun w h => List.mem_cons_of_mem _ (List.mem_append_left _ (List.mem_append_left _ (List.mem_append_left _ (List.mem_append_left _ (List.mem_append_left _ (List.mem_append_left _ (List.mem_append_left _ (List.mem_append_right _ h))))))))) (by decide +kernel)
set_option maxRecDepth 20000 in
theorem gi_wsX7_init_7 : GoodIn wsX7_init wsX70 := goodIn_sub (fun w h => List.mem_cons_of_mem _ (List.mem_append_left _ (List.mem_append_left _ (List.mem_append_left _ (List.mem_append_left _ (List.mem_append_left _ (List.mem_append_left _ (List.mem_append_right _ h)))))))) (by decide +kernel)
set_option maxRecDepth 20000 in
theorem gi_wsX7_init_8 : GoodIn wsX7_init wsX50 := goodIn_sub (fun w h => List.mem_cons_of_mem _ (List.mem_append_left _ (List.mem_append_left _ (List.mem_append_left _ (List.mem_append_left _ (List.mem_append_left _ (List.mem_append_right _ h))))))) (by decide +kernel)
set_option maxRecDepth 20000 in
theorem gi_wsX7_init_9 : GoodIn wsX7_init wsX30 := goodIn_sub (fun w h => List.mem_cons_of_mem _ (List.mem_append_left _ (List.mem_append_left _ (List.mem_append_left _ (List.mem_append_left _ (List.mem_append_right _ h)))))) (by decide +kernel)
set_option maxRecDepth 20000 in
theorem gi_wsX7_init_10 : GoodIn wsX7_init wsX40 := goodIn_sub (fun w h => List.mem_cons_of_mem _ (List.mem_append_left _ (List.mem_append_left _ (List.mem_append_left _ (List.mem_append_right _ h))))) (by decide +kernel)
set_option maxRecDepth 20000 in
theorem gi_wsX7_init_11 : GoodIn wsX7_init wsX10 := goodIn_sub (fun w h => List.mem_cons_of_mem _ (List.mem_append_left _ (List.mem_append_left _ (List.mem_append_right _ h)))) (by decide +kernel)
set_option maxRecDepth 20000 in
theorem gi_wsX7_init_12 : GoodIn wsX7_init wsX00 := goodIn_sub (fun w h => List.mem_cons_of_mem _ (List.mem_append_left _ (List.mem_append_right _ h))) (by decide +kernel)
set_option maxRecDepth 20000 in
theorem gi_wsX7_init_13 : GoodIn wsX7_init wsX60 := goodIn_sub (fun w h => List.mem_cons_of_mem _ (List.mem_append_right _ h)) (by decide +kernel)
def bs_wsX7_init : List (List Cond) := [wsX7_init_r1, wsX7_init_r2, wsX7_init_r3, wsX7_init_r4, wsX7_init_r5, wsX7_init_r6, wsX20, wsX70, wsX50, wsX30, wsX40, wsX10, wsX00, wsX60]
theorem bs_wsX7_init_in : ∀ b ∈ bs_wsX7_init, GoodIn wsX7_init b := List.forall_mem_cons.mpr ⟨gi_wsX7_init_0, List.forall_mem_cons.mpr ⟨gi_wsX7_init_1, List.forall_mem_cons.mpr ⟨gi_wsX7_init_2, List.forall_mem_cons.mpr ⟨gi_wsX7_init_3, List.forall_mem_cons.mpr ⟨gi_wsX7_init_4, List.forall_mem_cons.mpr ⟨gi_wsX7_init_5, List.forall_mem_cons.mpr ⟨gi_wsX7_init_6, List.forall_mem_cons.mpr ⟨gi_wsX7_init_7, List.forall_mem_cons.mpr ⟨gi_wsX7_init_8, List.forall_mem_cons.mpr ⟨gi_wsX7_init_9, List.forall_mem_cons.mpr ⟨gi_wsX7_init_10, List.forall_mem_cons.mpr ⟨gi_wsX7_init_11, List.forall_mem_cons.mpr ⟨gi_wsX7_init_12, List.forall_mem_cons.mpr ⟨gi_wsX7_init_13, (fun _ h => absurd h List.not_mem_nil)⟩⟩⟩⟩⟩⟩⟩⟩⟩⟩⟩⟩⟩⟩
set_option maxRecDepth 20000 in
theorem ggX7_init_X2_init : GoodIn wsX7_init wsX2_init := goodIn_k (gi_q bs_wsX7_init_in _ [(1, 14)] rfl) (goodIn_app (gi_q bs_wsX7_init_in _ [(1, 15), (0, 1), (0, 2), (1, 3), (1, 16), (1, 6), (1, 17), (1, 18), (1, 19), (1, 20), (1, 21), (1, 22), (1, 23)] rfl) (gi_wsX7_init_6))
set_option maxRecDepth 20000 in
theorem gX7_init_X2_init : GoodIn wsX7_init (wsX2_init) := ggX7_init_X2_init
set_option maxRecDepth 20000 in
theorem ggX7_init_X5_init : GoodIn wsX7_init wsX5_init := goodIn_k (gi_q bs_wsX7_init_in _ [(2, 1)] rfl) (goodIn_app (gi_q bs_wsX7_init_in _ [(2, 2), (0, 1), (0, 2), (1, 3), (2, 3), (2, 4), (2, 5), (2, 6), (2, 7), (2, 8), (2, 9)] rfl) (gi_wsX7_init_8))
set_option maxRecDepth 20000 in
theorem gX7_init_X5_init_n18 : GoodIn wsX7_init (wsX5_init) := ggX7_init_X5_init
set_option maxRecDepth 20000 in
theorem ggX7_init_X3_init : GoodIn wsX7_init wsX3_init := goodIn_k (gi_q bs_wsX7_init_in _ [(2, 12)] rfl) (goodIn_app (goodIn_app (goodIn_app (gi_q bs_wsX7_init_in _ [(2, 13), (0, 1), (0, 2), (2, 14), (2, 15), (1, 3), (2, 16), (2, 17), (2, 18), (2, 19), (2, 20), (2, 21), (2, 22), (2, 23), (3, 0), (3, 1), (3, 2), (3, 3), (3, 4), (3, 5), (3, 6), (3, 7), (3, 8), (3, 9)] rfl) (gi_q bs_wsX7_init_in _ [(3, 10), (3, 11), (3, 12), (3, 13)] rfl)) (gi_wsX7_init_9)) (gi_wsX7_init_13))
set_option maxRecDepth 20000 in
theorem gX7_init_X3_init : GoodIn wsX7_init (wsX3_init) := ggX7_init_X3_init
set_option maxRecDepth 20000 in
theorem ggX7_init_X4_init : GoodIn wsX7_init wsX4_init := goodIn_k (gi_q bs_wsX7_init_in _ [(3, 16)] rfl) (goodIn_app (gi_q bs_wsX7_init_in _ [(3, 17), (0, 1), (0, 2), (1, 3), (3, 18), (3, 19), (3, 20), (3, 21), (3, 22), (3, 23), (4, 0)] rfl) (gi_wsX7_init_10))
set_option maxRecDepth 20000 in
theorem gX7_init_X4_init : GoodIn wsX7_init (wsX4_init) := ggX7_init_X4_init
set_option maxRecDepth 20000 in
theorem ggX7_init_X1_init : GoodIn wsX7_init wsX1_init := goodIn_k (gi_q bs_wsX7_init_in _ [(4, 3)] rfl) (goodIn_app (gi_q bs_wsX7_init_in _ [(4, 4), (0, 1), (0, 2), (1, 3), (4, 5), (4, 6), (4, 7), (4, 8), (4, 9), (4, 10), (4, 11), (4, 12), (4, 13)] rfl) (gi_wsX7_init_11))
set_option maxRecDepth 20000 in
theorem gX7_init_X1_init : GoodIn wsX7_init (wsX1_init) := ggX7_init_X1_init
set_option maxRecDepth 20000 in
theorem ggX7_init_X0_init : GoodIn wsX7_init wsX0_init := goodIn_k (gi_q bs_wsX7_init_in _ [(4, 16)] rfl) (goodIn_app (gi_q bs_wsX7_init_in _ [(4, 17), (0, 1), (0, 2), (4, 18), (1, 3), (4, 19), (1, 6), (4, 20), (4, 21), (4, 22), (4, 23), (5, 0)] rfl) (gi_wsX7_init_12))
set_option maxRecDepth 20000 in
theorem gX7_init_X0_init : GoodIn wsX7_init (wsX0_init) := ggX7_init_X0_init
set_option maxRecDepth 20000 in
theorem ggX7_init_J7_fill_53178 : GoodIn wsX7_init wsJ7_fill_53178 := goodIn_k (gi_q bs_wsX7_init_in _ [(1, 23)] rfl) (gi_q bs_wsX7_init_in _ [] rfl)
set_option maxRecDepth 20000 in
theorem gX7_init_J7_fill_53178 : GoodIn wsX7_init (va_wsS RX7 77 yJ7_fill_53178 wsJ7_fill_53178) := goodIn_app (gi_q bs_wsX7_init_in _ [(5, 1), (1, 21), (1, 22)] rfl) ggX7_init_J7_fill_53178
def fw_dX7_init_0 : List (Nat × Instr × Nat) := [(0, .aload_n 0, 1), (1, .invokespecial 3, 3), (4, .aload_n 0, 1), (5, .new 9, 3), (8, .dup, 1), (9, .invokespecial 11, 3), (12, .putfield 12, 3), (15, .aload_n 0, 1), (16, .new 16, 3), (19, .dup, 1), (20, .invokespecial 18, 3), (23, .putfield 19, 3), (26, .aload_n 0, 1), (27, .new 23, 3), (30, .dup, 1), (31, .aload_n 0, 1), (32, .getfield 19, 3), (35, .invokespecial 25, 3), (38, .putfield 28, 3), (41, .aload_n 0, 1)]
theorem fw_dX7_init_0_c : fchk 0 (cX7_init.data.toList.drop 0) fw_dX7_init_0 = true := by decide +kernel
theorem dX7_init_0 : Eq (decode cX7_init 0) (Except.ok (Instr.aload_n 0, 1)) := fE fw_dX7_init_0_c 0 rfl
theorem dX7_init_1 : Eq (decode cX7_init 1) (Except.ok (Instr.invokespecial 3, 3)) := fE fw_dX7_init_0_c 1 rfl
theorem dX7_init_4 : Eq (decode cX7_init 4) (Except.ok (Instr.aload_n 0, 1)) := fE fw_dX7_init_0_c 2 rfl
theorem dX7_init_5 : Eq (decode cX7_init 5) (Except.ok (Instr.new 9, 3)) := fE fw_dX7_init_0_c 3 rfl
theorem dX7_init_8 : Eq (decode cX7_init 8) (Except.ok (Instr.dup, 1)) := fE fw_dX7_init_0_c 4 rfl
theorem dX7_init_9 : Eq (decode cX7_init 9) (Except.ok (Instr.invokespecial 11, 3)) := fE fw_dX7_init_0_c 5 rfl
theorem dX7_init_12 : Eq (decode cX7_init 12) (Except.ok (Instr.putfield 12, 3)) := fE fw_dX7_init_0_c 6 rfl
theorem dX7_init_15 : Eq (decode cX7_init 15) (Except.ok (Instr.aload_n 0, 1)) := fE fw_dX7_init_0_c 7 rfl
theorem dX7_init_16 : Eq (decode cX7_init 16) (Except.ok (Instr.new 16, 3)) := fE fw_dX7_init_0_c 8 rfl
theorem dX7_init_19 : Eq (decode cX7_init 19) (Except.ok (Instr.dup, 1)) := fE fw_dX7_init_0_c 9 rfl
theorem dX7_init_20 : Eq (decode cX7_init 20) (Except.ok (Instr.invokespecial 18, 3)) := fE fw_dX7_init_0_c 10 rfl
theorem dX7_init_23 : Eq (decode cX7_init 23) (Except.ok (Instr.putfield 19, 3)) := fE fw_dX7_init_0_c 11 rfl
theorem dX7_init_26 : Eq (decode cX7_init 26) (Except.ok (Instr.aload_n 0, 1)) := fE fw_dX7_init_0_c 12 rfl
theorem dX7_init_27 : Eq (decode cX7_init 27) (Except.ok (Instr.new 23, 3)) := fE fw_dX7_init_0_c 13 rfl
theorem dX7_init_30 : Eq (decode cX7_init 30) (Except.ok (Instr.dup, 1)) := fE fw_dX7_init_0_c 14 rfl
theorem dX7_init_31 : Eq (decode cX7_init 31) (Except.ok (Instr.aload_n 0, 1)) := fE fw_dX7_init_0_c 15 rfl
theorem dX7_init_32 : Eq (decode cX7_init 32) (Except.ok (Instr.getfield 19, 3)) := fE fw_dX7_init_0_c 16 rfl
theorem dX7_init_35 : Eq (decode cX7_init 35) (Except.ok (Instr.invokespecial 25, 3)) := fE fw_dX7_init_0_c 17 rfl
theorem dX7_init_38 : Eq (decode cX7_init 38) (Except.ok (Instr.putfield 28, 3)) := fE fw_dX7_init_0_c 18 rfl
theorem dX7_init_41 : Eq (decode cX7_init 41) (Except.ok (Instr.aload_n 0, 1)) := fE fw_dX7_init_0_c 19 rfl
def fw_dX7_init_42 : List (Nat × Instr × Nat) := [(42, .new 32, 3), (45, .dup, 1), (46, .aload_n 0, 1), (47, .getfield 19, 3), (50, .aload_n 0, 1), (51, .getfield 28, 3), (54, .invokespecial 34, 3), (57, .putfield 37, 3), (60, .aload_n 0, 1), (61, .new 41, 3), (64, .dup, 1), (65, .aload_n 0, 1), (66, .getfield 19, 3), (69, .aload_n 0, 1), (70, .getfield 37, 3), (73, .invokespecial 43, 3), (76, .putfield 46, 3), (79, .aload_n 0, 1), (80, .new 50, 3), (83, .dup, 1)]
theorem fw_dX7_init_42_c : fchk 42 (cX7_init.data.toList.drop 42) fw_dX7_init_42 = true := by decide +kernel
theorem dX7_init_42 : Eq (decode cX7_init 42) (Except.ok (Instr.new 32, 3)) := fE fw_dX7_init_42_c 0 rfl
theorem dX7_init_45 : Eq (decode cX7_init 45) (Except.ok (Instr.dup, 1)) := fE fw_dX7_init_42_c 1 rfl
theorem dX7_init_46 : Eq (decode cX7_init 46) (Except.ok (Instr.aload_n 0, 1)) := fE fw_dX7_init_42_c 2 rfl
theorem dX7_init_47 : Eq (decode cX7_init 47) (Except.ok (Instr.getfield 19, 3)) := fE fw_dX7_init_42_c 3 rfl
theorem dX7_init_50 : Eq (decode cX7_init 50) (Except.ok (Instr.aload_n 0, 1)) := fE fw_dX7_init_42_c 4 rfl
theorem dX7_init_51 : Eq (decode cX7_init 51) (Except.ok (Instr.getfield 28, 3)) := fE fw_dX7_init_42_c 5 rfl
theorem dX7_init_54 : Eq (decode cX7_init 54) (Except.ok (Instr.invokespecial 34, 3)) := fE fw_dX7_init_42_c 6 rfl
theorem dX7_init_57 : Eq (decode cX7_init 57) (Except.ok (Instr.putfield 37, 3)) := fE fw_dX7_init_42_c 7 rfl
theorem dX7_init_60 : Eq (decode cX7_init 60) (Except.ok (Instr.aload_n 0, 1)) := fE fw_dX7_init_42_c 8 rfl
theorem dX7_init_61 : Eq (decode cX7_init 61) (Except.ok (Instr.new 41, 3)) := fE fw_dX7_init_42_c 9 rfl
theorem dX7_init_64 : Eq (decode cX7_init 64) (Except.ok (Instr.dup, 1)) := fE fw_dX7_init_42_c 10 rfl
theorem dX7_init_65 : Eq (decode cX7_init 65) (Except.ok (Instr.aload_n 0, 1)) := fE fw_dX7_init_42_c 11 rfl
theorem dX7_init_66 : Eq (decode cX7_init 66) (Except.ok (Instr.getfield 19, 3)) := fE fw_dX7_init_42_c 12 rfl
theorem dX7_init_69 : Eq (decode cX7_init 69) (Except.ok (Instr.aload_n 0, 1)) := fE fw_dX7_init_42_c 13 rfl
theorem dX7_init_70 : Eq (decode cX7_init 70) (Except.ok (Instr.getfield 37, 3)) := fE fw_dX7_init_42_c 14 rfl
theorem dX7_init_73 : Eq (decode cX7_init 73) (Except.ok (Instr.invokespecial 43, 3)) := fE fw_dX7_init_42_c 15 rfl
theorem dX7_init_76 : Eq (decode cX7_init 76) (Except.ok (Instr.putfield 46, 3)) := fE fw_dX7_init_42_c 16 rfl
theorem dX7_init_79 : Eq (decode cX7_init 79) (Except.ok (Instr.aload_n 0, 1)) := fE fw_dX7_init_42_c 17 rfl
theorem dX7_init_80 : Eq (decode cX7_init 80) (Except.ok (Instr.new 50, 3)) := fE fw_dX7_init_42_c 18 rfl
theorem dX7_init_83 : Eq (decode cX7_init 83) (Except.ok (Instr.dup, 1)) := fE fw_dX7_init_42_c 19 rfl
def fw_dX7_init_84 : List (Nat × Instr × Nat) := [(84, .aload_n 0, 1), (85, .getfield 12, 3), (88, .aload_n 0, 1), (89, .getfield 19, 3), (92, .aload_n 0, 1), (93, .getfield 28, 3), (96, .invokespecial 52, 3), (99, .putfield 55, 3), (102, .aload_n 0, 1), (103, .iconst 3, 1)]
theorem fw_dX7_init_84_c : fchk 84 (cX7_init.data.toList.drop 84) fw_dX7_init_84 = true := by decide +kernel
theorem dX7_init_84 : Eq (decode cX7_init 84) (Except.ok (Instr.aload_n 0, 1)) := fE fw_dX7_init_84_c 0 rfl
theorem dX7_init_85 : Eq (decode cX7_init 85) (Except.ok (Instr.getfield 12, 3)) := fE fw_dX7_init_84_c 1 rfl
theorem dX7_init_88 : Eq (decode cX7_init 88) (Except.ok (Instr.aload_n 0, 1)) := fE fw_dX7_init_84_c 2 rfl
theorem dX7_init_89 : Eq (decode cX7_init 89) (Except.ok (Instr.getfield 19, 3)) := fE fw_dX7_init_84_c 3 rfl
theorem dX7_init_92 : Eq (decode cX7_init 92) (Except.ok (Instr.aload_n 0, 1)) := fE fw_dX7_init_84_c 4 rfl
theorem dX7_init_93 : Eq (decode cX7_init 93) (Except.ok (Instr.getfield 28, 3)) := fE fw_dX7_init_84_c 5 rfl
theorem dX7_init_96 : Eq (decode cX7_init 96) (Except.ok (Instr.invokespecial 52, 3)) := fE fw_dX7_init_84_c 6 rfl
theorem dX7_init_99 : Eq (decode cX7_init 99) (Except.ok (Instr.putfield 55, 3)) := fE fw_dX7_init_84_c 7 rfl
theorem dX7_init_102 : Eq (decode cX7_init 102) (Except.ok (Instr.aload_n 0, 1)) := fE fw_dX7_init_84_c 8 rfl
theorem dX7_init_103 : Eq (decode cX7_init 103) (Except.ok (Instr.iconst 3, 1)) := fE fw_dX7_init_84_c 9 rfl
theorem dX7_init_104 : decode cX7_init 104 = .ok (.newarray .int, 2) := by decide +kernel
def fw_dX7_init_106 : List (Nat × Instr × Nat) := [(106, .putfield 59, 3), (109, .aload_n 0, 1), (110, .bipush 16, 2)]
theorem fw_dX7_init_106_c : fchk 106 (cX7_init.data.toList.drop 106) fw_dX7_init_106 = true := by decide +kernel
theorem dX7_init_106 : Eq (decode cX7_init 106) (Except.ok (Instr.putfield 59, 3)) := fE fw_dX7_init_106_c 0 rfl
theorem dX7_init_109 : Eq (decode cX7_init 109) (Except.ok (Instr.aload_n 0, 1)) := fE fw_dX7_init_106_c 1 rfl
theorem dX7_init_110 : Eq (decode cX7_init 110) (Except.ok (Instr.bipush 16, 2)) := fE fw_dX7_init_106_c 2 rfl
theorem dX7_init_112 : decode cX7_init 112 = .ok (.newarray .int, 2) := by decide +kernel
def fw_dX7_init_114 : List (Nat × Instr × Nat) := [(114, .putfield 63, 3), (117, .aload_n 0, 1), (118, .bipush 74, 2)]
theorem fw_dX7_init_114_c : fchk 114 (cX7_init.data.toList.drop 114) fw_dX7_init_114 = true := by decide +kernel
theorem dX7_init_114 : Eq (decode cX7_init 114) (Except.ok (Instr.putfield 63, 3)) := fE fw_dX7_init_114_c 0 rfl
theorem dX7_init_117 : Eq (decode cX7_init 117) (Except.ok (Instr.aload_n 0, 1)) := fE fw_dX7_init_114_c 1 rfl
theorem dX7_init_118 : Eq (decode cX7_init 118) (Except.ok (Instr.bipush 74, 2)) := fE fw_dX7_init_114_c 2 rfl
theorem dX7_init_120 : decode cX7_init 120 = .ok (.newarray .long, 2) := by decide +kernel
def fw_dX7_init_122 : List (Nat × Instr × Nat) := [(122, .putfield 66, 3), (125, .aload_n 0, 1), (126, .bipush 64, 2)]
theorem fw_dX7_init_122_c : fchk 122 (cX7_init.data.toList.drop 122) fw_dX7_init_122 = true := by decide +kernel
theorem dX7_init_122 : Eq (decode cX7_init 122) (Except.ok (Instr.putfield 66, 3)) := fE fw_dX7_init_122_c 0 rfl
theorem dX7_init_125 : Eq (decode cX7_init 125) (Except.ok (Instr.aload_n 0, 1)) := fE fw_dX7_init_122_c 1 rfl
theorem dX7_init_126 : Eq (decode cX7_init 126) (Except.ok (Instr.bipush 64, 2)) := fE fw_dX7_init_122_c 2 rfl
theorem dX7_init_128 : decode cX7_init 128 = .ok (.newarray .short, 2) := by decide +kernel
def fw_dX7_init_130 : List (Nat × Instr × Nat) := [(130, .putfield 70, 3), (133, .aload_n 0, 1), (134, .bipush 8, 2)]
theorem fw_dX7_init_130_c : fchk 130 (cX7_init.data.toList.drop 130) fw_dX7_init_130 = true := by decide +kernel
theorem dX7_init_130 : Eq (decode cX7_init 130) (Except.ok (Instr.putfield 70, 3)) := fE fw_dX7_init_130_c 0 rfl
theorem dX7_init_133 : Eq (decode cX7_init 133) (Except.ok (Instr.aload_n 0, 1)) := fE fw_dX7_init_130_c 1 rfl
theorem dX7_init_134 : Eq (decode cX7_init 134) (Except.ok (Instr.bipush 8, 2)) := fE fw_dX7_init_130_c 2 rfl
theorem dX7_init_136 : decode cX7_init 136 = .ok (.newarray .int, 2) := by decide +kernel
def fw_dX7_init_138 : List (Nat × Instr × Nat) := [(138, .putfield 74, 3), (141, .aload_n 0, 1), (142, .getfield 63, 3), (145, .iconst (-1), 1), (146, .invokestatic 77, 3), (149, .aload_n 0, 1), (150, .getfield 59, 3), (153, .iconst 2, 1), (154, .iconst (-1), 1), (155, .iastore, 1), (156, .aload_n 0, 1), (157, .iconst (-1), 1), (158, .putfield 83, 3), (161, .return_, 1)]
theorem fw_dX7_init_138_c : fchk 138 (cX7_init.data.toList.drop 138) fw_dX7_init_138 = true := by decide +kernel
theorem dX7_init_138 : Eq (decode cX7_init 138) (Except.ok (Instr.putfield 74, 3)) := fE fw_dX7_init_138_c 0 rfl
theorem dX7_init_141 : Eq (decode cX7_init 141) (Except.ok (Instr.aload_n 0, 1)) := fE fw_dX7_init_138_c 1 rfl
theorem dX7_init_142 : Eq (decode cX7_init 142) (Except.ok (Instr.getfield 63, 3)) := fE fw_dX7_init_138_c 2 rfl
theorem dX7_init_145 : Eq (decode cX7_init 145) (Except.ok (Instr.iconst (-1), 1)) := fE fw_dX7_init_138_c 3 rfl
theorem dX7_init_146 : Eq (decode cX7_init 146) (Except.ok (Instr.invokestatic 77, 3)) := fE fw_dX7_init_138_c 4 rfl
theorem dX7_init_149 : Eq (decode cX7_init 149) (Except.ok (Instr.aload_n 0, 1)) := fE fw_dX7_init_138_c 5 rfl
theorem dX7_init_150 : Eq (decode cX7_init 150) (Except.ok (Instr.getfield 59, 3)) := fE fw_dX7_init_138_c 6 rfl
theorem dX7_init_153 : Eq (decode cX7_init 153) (Except.ok (Instr.iconst 2, 1)) := fE fw_dX7_init_138_c 7 rfl
theorem dX7_init_154 : Eq (decode cX7_init 154) (Except.ok (Instr.iconst (-1), 1)) := fE fw_dX7_init_138_c 8 rfl
theorem dX7_init_155 : Eq (decode cX7_init 155) (Except.ok (Instr.iastore, 1)) := fE fw_dX7_init_138_c 9 rfl
theorem dX7_init_156 : Eq (decode cX7_init 156) (Except.ok (Instr.aload_n 0, 1)) := fE fw_dX7_init_138_c 10 rfl
theorem dX7_init_157 : Eq (decode cX7_init 157) (Except.ok (Instr.iconst (-1), 1)) := fE fw_dX7_init_138_c 11 rfl
theorem dX7_init_158 : Eq (decode cX7_init 158) (Except.ok (Instr.putfield 83, 3)) := fE fw_dX7_init_138_c 12 rfl
theorem dX7_init_161 : Eq (decode cX7_init 161) (Except.ok (Instr.return_, 1)) := fE fw_dX7_init_138_c 13 rfl
set_option maxRecDepth 20000 in
theorem gi_wsX7_width_0 : GoodIn wsX7_width wsX7_width := goodIn_sub (fun _ h => h) (by decide +kernel)
set_option maxRecDepth 20000 in
theorem gi_wsX7_width_1 : GoodIn wsX7_width wsX70 := goodIn_sub (fun w h => List.mem_cons_of_mem _ (List.mem_append_left _ (List.mem_append_right _ h))) (by decide +kernel)
set_option maxRecDepth 20000 in
theorem gi_wsX7_width_2 : GoodIn wsX7_width wsX20 := goodIn_sub (fun w h => List.mem_cons_of_mem _ (List.mem_append_right _ h)) (by decide +kernel)
def bs_wsX7_width : List (List Cond) := [wsX7_width, wsX70, wsX20]
theorem bs_wsX7_width_in : ∀ b ∈ bs_wsX7_width, GoodIn wsX7_width b := List.forall_mem_cons.mpr ⟨gi_wsX7_width_0, List.forall_mem_cons.mpr ⟨gi_wsX7_width_1, List.forall_mem_cons.mpr ⟨gi_wsX7_width_2, (fun _ h => absurd h List.not_mem_nil)⟩⟩⟩
set_option maxRecDepth 20000 in
theorem ggX7_width_X7_isRegister : GoodIn wsX7_width wsX7_isRegister := goodIn_k (gi_q bs_wsX7_width_in _ [(0, 7)] rfl) (gi_q bs_wsX7_width_in _ [] rfl)
set_option maxRecDepth 20000 in
theorem gX7_width_X7_isRegister : GoodIn wsX7_width (va_wsS RX7 87 yX7_isRegister wsX7_isRegister) := goodIn_app (gi_q bs_wsX7_width_in _ [(0, 4), (0, 5), (0, 6)] rfl) ggX7_width_X7_isRegister
set_option maxRecDepth 20000 in
theorem ggX7_width_X7_refuse : GoodIn wsX7_width wsX7_refuse := goodIn_k (gi_q bs_wsX7_width_in _ [(0, 11)] rfl) (goodIn_app (gi_q bs_wsX7_width_in _ [(0, 12)] rfl) (gi_wsX7_width_1))
set_option maxRecDepth 20000 in
theorem gX7_width_X7_refuse : GoodIn wsX7_width (wsV RX7 91 RX7 yX7_refuse wsX7_refuse) := goodIn_app (gi_q bs_wsX7_width_in _ [(0, 8), (0, 9), (0, 10), (0, 6)] rfl) ggX7_width_X7_refuse
set_option maxRecDepth 20000 in
theorem ggX7_width_X2_put : GoodIn wsX7_width wsX2_put := goodIn_k (gi_q bs_wsX7_width_in _ [(0, 17)] rfl) (goodIn_app (gi_q bs_wsX7_width_in _ [(0, 18), (0, 19), (0, 20), (0, 21), (0, 16), (0, 22), (0, 23)] rfl) (gi_wsX7_width_2))
set_option maxRecDepth 20000 in
theorem gX7_width_X2_put : GoodIn wsX7_width (wsV RX7 101 RX2 yX2_put wsX2_put) := goodIn_app (gi_q bs_wsX7_width_in _ [(0, 13), (0, 14), (0, 15), (0, 16)] rfl) ggX7_width_X2_put
def fw_dX7_width_0 : List (Nat × Instr × Nat) := [(0, .iload_n 1, 1), (1, .invokestatic 87, 3), (4, .ifCond .ne 10, 3), (7, .aload_n 0, 1), (8, .bipush (-3), 2), (10, .invokevirtual 91, 3), (13, .ireturn, 1), (14, .iload_n 2, 1), (15, .iconst 1, 1), (16, .if_icmp .lt 9, 3), (19, .iload_n 2, 1), (20, .bipush 32, 2), (22, .if_icmp .le 10, 3), (25, .aload_n 0, 1), (26, .bipush (-6), 2), (28, .invokevirtual 91, 3), (31, .ireturn, 1), (32, .aload_n 0, 1), (33, .getfield 12, 3), (36, .getfield 95, 3)]
theorem fw_dX7_width_0_c : fchk 0 (cX7_width.data.toList.drop 0) fw_dX7_width_0 = true := by decide +kernel
theorem dX7_width_0 : Eq (decode cX7_width 0) (Except.ok (Instr.iload_n 1, 1)) := fE fw_dX7_width_0_c 0 rfl
theorem dX7_width_1 : Eq (decode cX7_width 1) (Except.ok (Instr.invokestatic 87, 3)) := fE fw_dX7_width_0_c 1 rfl
theorem dX7_width_4 : Eq (decode cX7_width 4) (Except.ok (Instr.ifCond .ne 10, 3)) := fE fw_dX7_width_0_c 2 rfl
theorem dX7_width_7 : Eq (decode cX7_width 7) (Except.ok (Instr.aload_n 0, 1)) := fE fw_dX7_width_0_c 3 rfl
theorem dX7_width_8 : Eq (decode cX7_width 8) (Except.ok (Instr.bipush (-3), 2)) := fE fw_dX7_width_0_c 4 rfl
theorem dX7_width_10 : Eq (decode cX7_width 10) (Except.ok (Instr.invokevirtual 91, 3)) := fE fw_dX7_width_0_c 5 rfl
theorem dX7_width_13 : Eq (decode cX7_width 13) (Except.ok (Instr.ireturn, 1)) := fE fw_dX7_width_0_c 6 rfl
theorem dX7_width_14 : Eq (decode cX7_width 14) (Except.ok (Instr.iload_n 2, 1)) := fE fw_dX7_width_0_c 7 rfl
theorem dX7_width_15 : Eq (decode cX7_width 15) (Except.ok (Instr.iconst 1, 1)) := fE fw_dX7_width_0_c 8 rfl
theorem dX7_width_16 : Eq (decode cX7_width 16) (Except.ok (Instr.if_icmp .lt 9, 3)) := fE fw_dX7_width_0_c 9 rfl
theorem dX7_width_19 : Eq (decode cX7_width 19) (Except.ok (Instr.iload_n 2, 1)) := fE fw_dX7_width_0_c 10 rfl
theorem dX7_width_20 : Eq (decode cX7_width 20) (Except.ok (Instr.bipush 32, 2)) := fE fw_dX7_width_0_c 11 rfl
theorem dX7_width_22 : Eq (decode cX7_width 22) (Except.ok (Instr.if_icmp .le 10, 3)) := fE fw_dX7_width_0_c 12 rfl
theorem dX7_width_25 : Eq (decode cX7_width 25) (Except.ok (Instr.aload_n 0, 1)) := fE fw_dX7_width_0_c 13 rfl
theorem dX7_width_26 : Eq (decode cX7_width 26) (Except.ok (Instr.bipush (-6), 2)) := fE fw_dX7_width_0_c 14 rfl
theorem dX7_width_28 : Eq (decode cX7_width 28) (Except.ok (Instr.invokevirtual 91, 3)) := fE fw_dX7_width_0_c 15 rfl
theorem dX7_width_31 : Eq (decode cX7_width 31) (Except.ok (Instr.ireturn, 1)) := fE fw_dX7_width_0_c 16 rfl
theorem dX7_width_32 : Eq (decode cX7_width 32) (Except.ok (Instr.aload_n 0, 1)) := fE fw_dX7_width_0_c 17 rfl
theorem dX7_width_33 : Eq (decode cX7_width 33) (Except.ok (Instr.getfield 12, 3)) := fE fw_dX7_width_0_c 18 rfl
theorem dX7_width_36 : Eq (decode cX7_width 36) (Except.ok (Instr.getfield 95, 3)) := fE fw_dX7_width_0_c 19 rfl
def fw_dX7_width_39 : List (Nat × Instr × Nat) := [(39, .iload_n 1, 1), (40, .iaload, 1), (41, .istore_n 3, 1), (42, .aload_n 0, 1), (43, .getfield 12, 3), (46, .getfield 95, 3), (49, .iload_n 1, 1), (50, .iload_n 2, 1), (51, .iastore, 1), (52, .aload_n 0, 1), (53, .getfield 12, 3), (56, .iload_n 1, 1), (57, .aload_n 0, 1), (58, .getfield 12, 3), (61, .getfield 98, 3), (64, .iload_n 1, 1), (65, .laload, 1), (66, .invokevirtual 101, 3), (69, .pop, 1), (70, .iload_n 3, 1)]
theorem fw_dX7_width_39_c : fchk 39 (cX7_width.data.toList.drop 39) fw_dX7_width_39 = true := by decide +kernel
theorem dX7_width_39 : Eq (decode cX7_width 39) (Except.ok (Instr.iload_n 1, 1)) := fE fw_dX7_width_39_c 0 rfl
theorem dX7_width_40 : Eq (decode cX7_width 40) (Except.ok (Instr.iaload, 1)) := fE fw_dX7_width_39_c 1 rfl
theorem dX7_width_41 : Eq (decode cX7_width 41) (Except.ok (Instr.istore_n 3, 1)) := fE fw_dX7_width_39_c 2 rfl
theorem dX7_width_42 : Eq (decode cX7_width 42) (Except.ok (Instr.aload_n 0, 1)) := fE fw_dX7_width_39_c 3 rfl
theorem dX7_width_43 : Eq (decode cX7_width 43) (Except.ok (Instr.getfield 12, 3)) := fE fw_dX7_width_39_c 4 rfl
theorem dX7_width_46 : Eq (decode cX7_width 46) (Except.ok (Instr.getfield 95, 3)) := fE fw_dX7_width_39_c 5 rfl
theorem dX7_width_49 : Eq (decode cX7_width 49) (Except.ok (Instr.iload_n 1, 1)) := fE fw_dX7_width_39_c 6 rfl
theorem dX7_width_50 : Eq (decode cX7_width 50) (Except.ok (Instr.iload_n 2, 1)) := fE fw_dX7_width_39_c 7 rfl
theorem dX7_width_51 : Eq (decode cX7_width 51) (Except.ok (Instr.iastore, 1)) := fE fw_dX7_width_39_c 8 rfl
theorem dX7_width_52 : Eq (decode cX7_width 52) (Except.ok (Instr.aload_n 0, 1)) := fE fw_dX7_width_39_c 9 rfl
theorem dX7_width_53 : Eq (decode cX7_width 53) (Except.ok (Instr.getfield 12, 3)) := fE fw_dX7_width_39_c 10 rfl
theorem dX7_width_56 : Eq (decode cX7_width 56) (Except.ok (Instr.iload_n 1, 1)) := fE fw_dX7_width_39_c 11 rfl
theorem dX7_width_57 : Eq (decode cX7_width 57) (Except.ok (Instr.aload_n 0, 1)) := fE fw_dX7_width_39_c 12 rfl
theorem dX7_width_58 : Eq (decode cX7_width 58) (Except.ok (Instr.getfield 12, 3)) := fE fw_dX7_width_39_c 13 rfl
theorem dX7_width_61 : Eq (decode cX7_width 61) (Except.ok (Instr.getfield 98, 3)) := fE fw_dX7_width_39_c 14 rfl
theorem dX7_width_64 : Eq (decode cX7_width 64) (Except.ok (Instr.iload_n 1, 1)) := fE fw_dX7_width_39_c 15 rfl
theorem dX7_width_65 : Eq (decode cX7_width 65) (Except.ok (Instr.laload, 1)) := fE fw_dX7_width_39_c 16 rfl
theorem dX7_width_66 : Eq (decode cX7_width 66) (Except.ok (Instr.invokevirtual 101, 3)) := fE fw_dX7_width_39_c 17 rfl
theorem dX7_width_69 : Eq (decode cX7_width 69) (Except.ok (Instr.pop, 1)) := fE fw_dX7_width_39_c 18 rfl
theorem dX7_width_70 : Eq (decode cX7_width 70) (Except.ok (Instr.iload_n 3, 1)) := fE fw_dX7_width_39_c 19 rfl
def fw_dX7_width_71 : List (Nat × Instr × Nat) := [(71, .ireturn, 1)]
theorem fw_dX7_width_71_c : fchk 71 (cX7_width.data.toList.drop 71) fw_dX7_width_71 = true := by decide +kernel
theorem dX7_width_71 : Eq (decode cX7_width 71) (Except.ok (Instr.ireturn, 1)) := fE fw_dX7_width_71_c 0 rfl
set_option maxRecDepth 20000 in
theorem gi_wsX7_set_0 : GoodIn wsX7_set wsX7_set := goodIn_sub (fun _ h => h) (by decide +kernel)
set_option maxRecDepth 20000 in
theorem gi_wsX7_set_1 : GoodIn wsX7_set wsX70 := goodIn_sub (fun w h => List.mem_cons_of_mem _ (List.mem_append_left _ (List.mem_append_right _ h))) (by decide +kernel)
set_option maxRecDepth 20000 in
theorem gi_wsX7_set_2 : GoodIn wsX7_set wsX20 := goodIn_sub (fun w h => List.mem_cons_of_mem _ (List.mem_append_right _ h)) (by decide +kernel)
def bs_wsX7_set : List (List Cond) := [wsX7_set, wsX70, wsX20]
theorem bs_wsX7_set_in : ∀ b ∈ bs_wsX7_set, GoodIn wsX7_set b := List.forall_mem_cons.mpr ⟨gi_wsX7_set_0, List.forall_mem_cons.mpr ⟨gi_wsX7_set_1, List.forall_mem_cons.mpr ⟨gi_wsX7_set_2, (fun _ h => absurd h List.not_mem_nil)⟩⟩⟩
set_option maxRecDepth 20000 in
theorem ggX7_set_X7_isRegister : GoodIn wsX7_set wsX7_isRegister := goodIn_k (gi_q bs_wsX7_set_in _ [(0, 5)] rfl) (gi_q bs_wsX7_set_in _ [] rfl)
set_option maxRecDepth 20000 in
theorem gX7_set_X7_isRegister : GoodIn wsX7_set (va_wsS RX7 87 yX7_isRegister wsX7_isRegister) := goodIn_app (gi_q bs_wsX7_set_in _ [(0, 2), (0, 3), (0, 4)] rfl) ggX7_set_X7_isRegister
set_option maxRecDepth 20000 in
theorem ggX7_set_X7_refuse : GoodIn wsX7_set wsX7_refuse := goodIn_k (gi_q bs_wsX7_set_in _ [(0, 9)] rfl) (goodIn_app (gi_q bs_wsX7_set_in _ [(0, 10)] rfl) (gi_wsX7_set_1))
set_option maxRecDepth 20000 in
theorem gX7_set_X7_refuse : GoodIn wsX7_set (wsV RX7 91 RX7 yX7_refuse wsX7_refuse) := goodIn_app (gi_q bs_wsX7_set_in _ [(0, 6), (0, 7), (0, 8), (0, 4)] rfl) ggX7_set_X7_refuse
set_option maxRecDepth 20000 in
theorem ggX7_set_X2_put : GoodIn wsX7_set wsX2_put := goodIn_k (gi_q bs_wsX7_set_in _ [(0, 15)] rfl) (goodIn_app (gi_q bs_wsX7_set_in _ [(0, 16), (0, 17), (0, 18), (0, 19), (0, 14), (0, 20), (0, 21)] rfl) (gi_wsX7_set_2))
set_option maxRecDepth 20000 in
theorem gX7_set_X2_put : GoodIn wsX7_set (wsV RX7 101 RX2 yX2_put wsX2_put) := goodIn_app (gi_q bs_wsX7_set_in _ [(0, 11), (0, 12), (0, 13), (0, 14)] rfl) ggX7_set_X2_put
def fw_dX7_set_0 : List (Nat × Instr × Nat) := [(0, .iload_n 1, 1), (1, .invokestatic 87, 3), (4, .ifCond .ne 10, 3), (7, .aload_n 0, 1), (8, .bipush (-3), 2), (10, .invokevirtual 91, 3), (13, .ireturn, 1), (14, .aload_n 0, 1), (15, .getfield 12, 3), (18, .iload_n 1, 1), (19, .lload_n 2, 1), (20, .invokevirtual 101, 3), (23, .ireturn, 1)]
theorem fw_dX7_set_0_c : fchk 0 (cX7_set.data.toList.drop 0) fw_dX7_set_0 = true := by decide +kernel
theorem dX7_set_0 : Eq (decode cX7_set 0) (Except.ok (Instr.iload_n 1, 1)) := fE fw_dX7_set_0_c 0 rfl
theorem dX7_set_1 : Eq (decode cX7_set 1) (Except.ok (Instr.invokestatic 87, 3)) := fE fw_dX7_set_0_c 1 rfl
theorem dX7_set_4 : Eq (decode cX7_set 4) (Except.ok (Instr.ifCond .ne 10, 3)) := fE fw_dX7_set_0_c 2 rfl
theorem dX7_set_7 : Eq (decode cX7_set 7) (Except.ok (Instr.aload_n 0, 1)) := fE fw_dX7_set_0_c 3 rfl
theorem dX7_set_8 : Eq (decode cX7_set 8) (Except.ok (Instr.bipush (-3), 2)) := fE fw_dX7_set_0_c 4 rfl
theorem dX7_set_10 : Eq (decode cX7_set 10) (Except.ok (Instr.invokevirtual 91, 3)) := fE fw_dX7_set_0_c 5 rfl
theorem dX7_set_13 : Eq (decode cX7_set 13) (Except.ok (Instr.ireturn, 1)) := fE fw_dX7_set_0_c 6 rfl
theorem dX7_set_14 : Eq (decode cX7_set 14) (Except.ok (Instr.aload_n 0, 1)) := fE fw_dX7_set_0_c 7 rfl
theorem dX7_set_15 : Eq (decode cX7_set 15) (Except.ok (Instr.getfield 12, 3)) := fE fw_dX7_set_0_c 8 rfl
theorem dX7_set_18 : Eq (decode cX7_set 18) (Except.ok (Instr.iload_n 1, 1)) := fE fw_dX7_set_0_c 9 rfl
theorem dX7_set_19 : Eq (decode cX7_set 19) (Except.ok (Instr.lload_n 2, 1)) := fE fw_dX7_set_0_c 10 rfl
theorem dX7_set_20 : Eq (decode cX7_set 20) (Except.ok (Instr.invokevirtual 101, 3)) := fE fw_dX7_set_0_c 11 rfl
theorem dX7_set_23 : Eq (decode cX7_set 23) (Except.ok (Instr.ireturn, 1)) := fE fw_dX7_set_0_c 12 rfl
set_option maxRecDepth 20000 in
theorem gi_wsX7_register_0 : GoodIn wsX7_register wsX7_register := goodIn_sub (fun _ h => h) (by decide +kernel)
set_option maxRecDepth 20000 in
theorem gi_wsX7_register_1 : GoodIn wsX7_register wsX70 := goodIn_sub (fun w h => List.mem_cons_of_mem _ (List.mem_append_left _ (List.mem_append_right _ h))) (by decide +kernel)
set_option maxRecDepth 20000 in
theorem gi_wsX7_register_2 : GoodIn wsX7_register wsX20 := goodIn_sub (fun w h => List.mem_cons_of_mem _ (List.mem_append_right _ h)) (by decide +kernel)
def bs_wsX7_register : List (List Cond) := [wsX7_register, wsX70, wsX20]
theorem bs_wsX7_register_in : ∀ b ∈ bs_wsX7_register, GoodIn wsX7_register b := List.forall_mem_cons.mpr ⟨gi_wsX7_register_0, List.forall_mem_cons.mpr ⟨gi_wsX7_register_1, List.forall_mem_cons.mpr ⟨gi_wsX7_register_2, (fun _ h => absurd h List.not_mem_nil)⟩⟩⟩
set_option maxRecDepth 20000 in
theorem ggX7_register_X7_isRegister : GoodIn wsX7_register wsX7_isRegister := goodIn_k (gi_q bs_wsX7_register_in _ [(0, 6)] rfl) (gi_q bs_wsX7_register_in _ [] rfl)
set_option maxRecDepth 20000 in
theorem gX7_register_X7_isRegister : GoodIn wsX7_register (va_wsS RX7 87 yX7_isRegister wsX7_isRegister) := goodIn_app (gi_q bs_wsX7_register_in _ [(0, 3), (0, 4), (0, 5)] rfl) ggX7_register_X7_isRegister
set_option maxRecDepth 20000 in
theorem ggX7_register_X7_refuse : GoodIn wsX7_register wsX7_refuse := goodIn_k (gi_q bs_wsX7_register_in _ [(0, 10)] rfl) (goodIn_app (gi_q bs_wsX7_register_in _ [(0, 11)] rfl) (gi_wsX7_register_1))
set_option maxRecDepth 20000 in
theorem gX7_register_X7_refuse : GoodIn wsX7_register (wsV RX7 91 RX7 yX7_refuse wsX7_refuse) := goodIn_app (gi_q bs_wsX7_register_in _ [(0, 7), (0, 8), (0, 9), (0, 5)] rfl) ggX7_register_X7_refuse
def fw_dX7_register_0 : List (Nat × Instr × Nat) := [(0, .iload_n 1, 1), (1, .invokestatic 87, 3), (4, .ifCond .ne 12, 3), (7, .aload_n 0, 1), (8, .bipush (-3), 2), (10, .invokevirtual 91, 3), (13, .pop, 1), (14, .lconst 0, 1), (15, .lreturn, 1), (16, .aload_n 0, 1), (17, .getfield 12, 3), (20, .getfield 98, 3), (23, .iload_n 1, 1), (24, .laload, 1), (25, .lreturn, 1)]
theorem fw_dX7_register_0_c : fchk 0 (cX7_register.data.toList.drop 0) fw_dX7_register_0 = true := by decide +kernel
theorem dX7_register_0 : Eq (decode cX7_register 0) (Except.ok (Instr.iload_n 1, 1)) := fE fw_dX7_register_0_c 0 rfl
theorem dX7_register_1 : Eq (decode cX7_register 1) (Except.ok (Instr.invokestatic 87, 3)) := fE fw_dX7_register_0_c 1 rfl
theorem dX7_register_4 : Eq (decode cX7_register 4) (Except.ok (Instr.ifCond .ne 12, 3)) := fE fw_dX7_register_0_c 2 rfl
theorem dX7_register_7 : Eq (decode cX7_register 7) (Except.ok (Instr.aload_n 0, 1)) := fE fw_dX7_register_0_c 3 rfl
theorem dX7_register_8 : Eq (decode cX7_register 8) (Except.ok (Instr.bipush (-3), 2)) := fE fw_dX7_register_0_c 4 rfl
theorem dX7_register_10 : Eq (decode cX7_register 10) (Except.ok (Instr.invokevirtual 91, 3)) := fE fw_dX7_register_0_c 5 rfl
theorem dX7_register_13 : Eq (decode cX7_register 13) (Except.ok (Instr.pop, 1)) := fE fw_dX7_register_0_c 6 rfl
theorem dX7_register_14 : Eq (decode cX7_register 14) (Except.ok (Instr.lconst 0, 1)) := fE fw_dX7_register_0_c 7 rfl
theorem dX7_register_15 : Eq (decode cX7_register 15) (Except.ok (Instr.lreturn, 1)) := fE fw_dX7_register_0_c 8 rfl
theorem dX7_register_16 : Eq (decode cX7_register 16) (Except.ok (Instr.aload_n 0, 1)) := fE fw_dX7_register_0_c 9 rfl
theorem dX7_register_17 : Eq (decode cX7_register 17) (Except.ok (Instr.getfield 12, 3)) := fE fw_dX7_register_0_c 10 rfl
theorem dX7_register_20 : Eq (decode cX7_register 20) (Except.ok (Instr.getfield 98, 3)) := fE fw_dX7_register_0_c 11 rfl
theorem dX7_register_23 : Eq (decode cX7_register 23) (Except.ok (Instr.iload_n 1, 1)) := fE fw_dX7_register_0_c 12 rfl
theorem dX7_register_24 : Eq (decode cX7_register 24) (Except.ok (Instr.laload, 1)) := fE fw_dX7_register_0_c 13 rfl
theorem dX7_register_25 : Eq (decode cX7_register 25) (Except.ok (Instr.lreturn, 1)) := fE fw_dX7_register_0_c 14 rfl
set_option maxRecDepth 20000 in
theorem gi_wsX7_poke_0 : GoodIn wsX7_poke wsX7_poke := goodIn_sub (fun _ h => h) (by decide +kernel)
set_option maxRecDepth 20000 in
theorem gi_wsX7_poke_1 : GoodIn wsX7_poke wsX70 := goodIn_sub (fun w h => List.mem_cons_of_mem _ (List.mem_append_left _ (List.mem_append_right _ h))) (by decide +kernel)
set_option maxRecDepth 20000 in
theorem gi_wsX7_poke_2 : GoodIn wsX7_poke wsX20 := goodIn_sub (fun w h => List.mem_cons_of_mem _ (List.mem_append_right _ h)) (by decide +kernel)
def bs_wsX7_poke : List (List Cond) := [wsX7_poke, wsX70, wsX20]
theorem bs_wsX7_poke_in : ∀ b ∈ bs_wsX7_poke, GoodIn wsX7_poke b := List.forall_mem_cons.mpr ⟨gi_wsX7_poke_0, List.forall_mem_cons.mpr ⟨gi_wsX7_poke_1, List.forall_mem_cons.mpr ⟨gi_wsX7_poke_2, (fun _ h => absurd h List.not_mem_nil)⟩⟩⟩
set_option maxRecDepth 20000 in
theorem ggX7_poke_X7_isCell : GoodIn wsX7_poke wsX7_isCell := goodIn_k (gi_q bs_wsX7_poke_in _ [(0, 5)] rfl) (gi_q bs_wsX7_poke_in _ [(0, 6)] rfl)
set_option maxRecDepth 20000 in
theorem gX7_poke_X7_isCell : GoodIn wsX7_poke (va_wsS RX7 105 yX7_isCell wsX7_isCell) := goodIn_app (gi_q bs_wsX7_poke_in _ [(0, 2), (0, 3), (0, 4)] rfl) ggX7_poke_X7_isCell
set_option maxRecDepth 20000 in
theorem ggX7_poke_X7_refuse : GoodIn wsX7_poke wsX7_refuse := goodIn_k (gi_q bs_wsX7_poke_in _ [(0, 10)] rfl) (goodIn_app (gi_q bs_wsX7_poke_in _ [(0, 11)] rfl) (gi_wsX7_poke_1))
set_option maxRecDepth 20000 in
theorem gX7_poke_X7_refuse : GoodIn wsX7_poke (wsV RX7 91 RX7 yX7_refuse wsX7_refuse) := goodIn_app (gi_q bs_wsX7_poke_in _ [(0, 7), (0, 8), (0, 9), (0, 4)] rfl) ggX7_poke_X7_refuse
set_option maxRecDepth 20000 in
theorem ggX7_poke_X2_put : GoodIn wsX7_poke wsX2_put := goodIn_k (gi_q bs_wsX7_poke_in _ [(0, 16)] rfl) (goodIn_app (gi_q bs_wsX7_poke_in _ [(0, 17), (0, 18), (0, 19), (0, 20), (0, 15), (0, 21), (0, 22)] rfl) (gi_wsX7_poke_2))
set_option maxRecDepth 20000 in
theorem gX7_poke_X2_put : GoodIn wsX7_poke (wsV RX7 101 RX2 yX2_put wsX2_put) := goodIn_app (gi_q bs_wsX7_poke_in _ [(0, 12), (0, 13), (0, 14), (0, 15)] rfl) ggX7_poke_X2_put
def fw_dX7_poke_0 : List (Nat × Instr × Nat) := [(0, .iload_n 1, 1), (1, .i2l, 1), (2, .invokestatic 105, 3), (5, .ifCond .ne 10, 3), (8, .aload_n 0, 1), (9, .bipush (-3), 2), (11, .invokevirtual 91, 3), (14, .ireturn, 1), (15, .aload_n 0, 1), (16, .getfield 12, 3), (19, .bipush 10, 2), (21, .iload_n 1, 1), (22, .iadd, 1), (23, .lload_n 2, 1), (24, .invokevirtual 101, 3), (27, .ireturn, 1)]
theorem fw_dX7_poke_0_c : fchk 0 (cX7_poke.data.toList.drop 0) fw_dX7_poke_0 = true := by decide +kernel
theorem dX7_poke_0 : Eq (decode cX7_poke 0) (Except.ok (Instr.iload_n 1, 1)) := fE fw_dX7_poke_0_c 0 rfl
theorem dX7_poke_1 : Eq (decode cX7_poke 1) (Except.ok (Instr.i2l, 1)) := fE fw_dX7_poke_0_c 1 rfl
theorem dX7_poke_2 : Eq (decode cX7_poke 2) (Except.ok (Instr.invokestatic 105, 3)) := fE fw_dX7_poke_0_c 2 rfl
theorem dX7_poke_5 : Eq (decode cX7_poke 5) (Except.ok (Instr.ifCond .ne 10, 3)) := fE fw_dX7_poke_0_c 3 rfl
theorem dX7_poke_8 : Eq (decode cX7_poke 8) (Except.ok (Instr.aload_n 0, 1)) := fE fw_dX7_poke_0_c 4 rfl
theorem dX7_poke_9 : Eq (decode cX7_poke 9) (Except.ok (Instr.bipush (-3), 2)) := fE fw_dX7_poke_0_c 5 rfl
theorem dX7_poke_11 : Eq (decode cX7_poke 11) (Except.ok (Instr.invokevirtual 91, 3)) := fE fw_dX7_poke_0_c 6 rfl
theorem dX7_poke_14 : Eq (decode cX7_poke 14) (Except.ok (Instr.ireturn, 1)) := fE fw_dX7_poke_0_c 7 rfl
theorem dX7_poke_15 : Eq (decode cX7_poke 15) (Except.ok (Instr.aload_n 0, 1)) := fE fw_dX7_poke_0_c 8 rfl
theorem dX7_poke_16 : Eq (decode cX7_poke 16) (Except.ok (Instr.getfield 12, 3)) := fE fw_dX7_poke_0_c 9 rfl
theorem dX7_poke_19 : Eq (decode cX7_poke 19) (Except.ok (Instr.bipush 10, 2)) := fE fw_dX7_poke_0_c 10 rfl
theorem dX7_poke_21 : Eq (decode cX7_poke 21) (Except.ok (Instr.iload_n 1, 1)) := fE fw_dX7_poke_0_c 11 rfl
theorem dX7_poke_22 : Eq (decode cX7_poke 22) (Except.ok (Instr.iadd, 1)) := fE fw_dX7_poke_0_c 12 rfl
theorem dX7_poke_23 : Eq (decode cX7_poke 23) (Except.ok (Instr.lload_n 2, 1)) := fE fw_dX7_poke_0_c 13 rfl
theorem dX7_poke_24 : Eq (decode cX7_poke 24) (Except.ok (Instr.invokevirtual 101, 3)) := fE fw_dX7_poke_0_c 14 rfl
theorem dX7_poke_27 : Eq (decode cX7_poke 27) (Except.ok (Instr.ireturn, 1)) := fE fw_dX7_poke_0_c 15 rfl
set_option maxRecDepth 20000 in
theorem gi_wsX7_cell_0 : GoodIn wsX7_cell wsX7_cell := goodIn_sub (fun _ h => h) (by decide +kernel)
set_option maxRecDepth 20000 in
theorem gi_wsX7_cell_1 : GoodIn wsX7_cell wsX70 := goodIn_sub (fun w h => List.mem_cons_of_mem _ (List.mem_append_left _ (List.mem_append_right _ h))) (by decide +kernel)
set_option maxRecDepth 20000 in
theorem gi_wsX7_cell_2 : GoodIn wsX7_cell wsX20 := goodIn_sub (fun w h => List.mem_cons_of_mem _ (List.mem_append_right _ h)) (by decide +kernel)
def bs_wsX7_cell : List (List Cond) := [wsX7_cell, wsX70, wsX20]
theorem bs_wsX7_cell_in : ∀ b ∈ bs_wsX7_cell, GoodIn wsX7_cell b := List.forall_mem_cons.mpr ⟨gi_wsX7_cell_0, List.forall_mem_cons.mpr ⟨gi_wsX7_cell_1, List.forall_mem_cons.mpr ⟨gi_wsX7_cell_2, (fun _ h => absurd h List.not_mem_nil)⟩⟩⟩
set_option maxRecDepth 20000 in
theorem ggX7_cell_X7_isCell : GoodIn wsX7_cell wsX7_isCell := goodIn_k (gi_q bs_wsX7_cell_in _ [(0, 6)] rfl) (gi_q bs_wsX7_cell_in _ [(0, 7)] rfl)
set_option maxRecDepth 20000 in
theorem gX7_cell_X7_isCell : GoodIn wsX7_cell (va_wsS RX7 105 yX7_isCell wsX7_isCell) := goodIn_app (gi_q bs_wsX7_cell_in _ [(0, 3), (0, 4), (0, 5)] rfl) ggX7_cell_X7_isCell
set_option maxRecDepth 20000 in
theorem ggX7_cell_X7_refuse : GoodIn wsX7_cell wsX7_refuse := goodIn_k (gi_q bs_wsX7_cell_in _ [(0, 11)] rfl) (goodIn_app (gi_q bs_wsX7_cell_in _ [(0, 12)] rfl) (gi_wsX7_cell_1))
set_option maxRecDepth 20000 in
theorem gX7_cell_X7_refuse : GoodIn wsX7_cell (wsV RX7 91 RX7 yX7_refuse wsX7_refuse) := goodIn_app (gi_q bs_wsX7_cell_in _ [(0, 8), (0, 9), (0, 10), (0, 5)] rfl) ggX7_cell_X7_refuse
def fw_dX7_cell_0 : List (Nat × Instr × Nat) := [(0, .iload_n 1, 1), (1, .i2l, 1), (2, .invokestatic 105, 3), (5, .ifCond .ne 12, 3), (8, .aload_n 0, 1), (9, .bipush (-3), 2), (11, .invokevirtual 91, 3), (14, .pop, 1), (15, .lconst 0, 1), (16, .lreturn, 1), (17, .aload_n 0, 1), (18, .getfield 12, 3), (21, .getfield 98, 3), (24, .bipush 10, 2), (26, .iload_n 1, 1), (27, .iadd, 1), (28, .laload, 1), (29, .lreturn, 1)]
theorem fw_dX7_cell_0_c : fchk 0 (cX7_cell.data.toList.drop 0) fw_dX7_cell_0 = true := by decide +kernel
theorem dX7_cell_0 : Eq (decode cX7_cell 0) (Except.ok (Instr.iload_n 1, 1)) := fE fw_dX7_cell_0_c 0 rfl
theorem dX7_cell_1 : Eq (decode cX7_cell 1) (Except.ok (Instr.i2l, 1)) := fE fw_dX7_cell_0_c 1 rfl
theorem dX7_cell_2 : Eq (decode cX7_cell 2) (Except.ok (Instr.invokestatic 105, 3)) := fE fw_dX7_cell_0_c 2 rfl
theorem dX7_cell_5 : Eq (decode cX7_cell 5) (Except.ok (Instr.ifCond .ne 12, 3)) := fE fw_dX7_cell_0_c 3 rfl
theorem dX7_cell_8 : Eq (decode cX7_cell 8) (Except.ok (Instr.aload_n 0, 1)) := fE fw_dX7_cell_0_c 4 rfl
theorem dX7_cell_9 : Eq (decode cX7_cell 9) (Except.ok (Instr.bipush (-3), 2)) := fE fw_dX7_cell_0_c 5 rfl
theorem dX7_cell_11 : Eq (decode cX7_cell 11) (Except.ok (Instr.invokevirtual 91, 3)) := fE fw_dX7_cell_0_c 6 rfl
theorem dX7_cell_14 : Eq (decode cX7_cell 14) (Except.ok (Instr.pop, 1)) := fE fw_dX7_cell_0_c 7 rfl
theorem dX7_cell_15 : Eq (decode cX7_cell 15) (Except.ok (Instr.lconst 0, 1)) := fE fw_dX7_cell_0_c 8 rfl
theorem dX7_cell_16 : Eq (decode cX7_cell 16) (Except.ok (Instr.lreturn, 1)) := fE fw_dX7_cell_0_c 9 rfl
theorem dX7_cell_17 : Eq (decode cX7_cell 17) (Except.ok (Instr.aload_n 0, 1)) := fE fw_dX7_cell_0_c 10 rfl
theorem dX7_cell_18 : Eq (decode cX7_cell 18) (Except.ok (Instr.getfield 12, 3)) := fE fw_dX7_cell_0_c 11 rfl
theorem dX7_cell_21 : Eq (decode cX7_cell 21) (Except.ok (Instr.getfield 98, 3)) := fE fw_dX7_cell_0_c 12 rfl
theorem dX7_cell_24 : Eq (decode cX7_cell 24) (Except.ok (Instr.bipush 10, 2)) := fE fw_dX7_cell_0_c 13 rfl
theorem dX7_cell_26 : Eq (decode cX7_cell 26) (Except.ok (Instr.iload_n 1, 1)) := fE fw_dX7_cell_0_c 14 rfl
theorem dX7_cell_27 : Eq (decode cX7_cell 27) (Except.ok (Instr.iadd, 1)) := fE fw_dX7_cell_0_c 15 rfl
theorem dX7_cell_28 : Eq (decode cX7_cell 28) (Except.ok (Instr.laload, 1)) := fE fw_dX7_cell_0_c 16 rfl
theorem dX7_cell_29 : Eq (decode cX7_cell 29) (Except.ok (Instr.lreturn, 1)) := fE fw_dX7_cell_0_c 17 rfl
set_option maxRecDepth 20000 in
theorem gi_wsX7_flag_0 : GoodIn wsX7_flag wsX7_flag := goodIn_sub (fun _ h => h) (by decide +kernel)
set_option maxRecDepth 20000 in
theorem gi_wsX7_flag_1 : GoodIn wsX7_flag wsX70 := goodIn_sub (fun w h => List.mem_cons_of_mem _ (List.mem_append_left _ (List.mem_append_right _ h))) (by decide +kernel)
set_option maxRecDepth 20000 in
theorem gi_wsX7_flag_2 : GoodIn wsX7_flag wsX20 := goodIn_sub (fun w h => List.mem_cons_of_mem _ (List.mem_append_right _ h)) (by decide +kernel)
def bs_wsX7_flag : List (List Cond) := [wsX7_flag, wsX70, wsX20]
theorem bs_wsX7_flag_in : ∀ b ∈ bs_wsX7_flag, GoodIn wsX7_flag b := List.forall_mem_cons.mpr ⟨gi_wsX7_flag_0, List.forall_mem_cons.mpr ⟨gi_wsX7_flag_1, List.forall_mem_cons.mpr ⟨gi_wsX7_flag_2, (fun _ h => absurd h List.not_mem_nil)⟩⟩⟩
set_option maxRecDepth 20000 in
theorem ggX7_flag_X7_refuse : GoodIn wsX7_flag wsX7_refuse := goodIn_k (gi_q bs_wsX7_flag_in _ [(0, 7)] rfl) (goodIn_app (gi_q bs_wsX7_flag_in _ [(0, 8)] rfl) (gi_wsX7_flag_1))
set_option maxRecDepth 20000 in
theorem gX7_flag_X7_refuse : GoodIn wsX7_flag (wsV RX7 91 RX7 yX7_refuse wsX7_refuse) := goodIn_app (gi_q bs_wsX7_flag_in _ [(0, 3), (0, 4), (0, 5), (0, 6)] rfl) ggX7_flag_X7_refuse
set_option maxRecDepth 20000 in
theorem ggX7_flag_X2_put : GoodIn wsX7_flag wsX2_put := goodIn_k (gi_q bs_wsX7_flag_in _ [(0, 13)] rfl) (goodIn_app (gi_q bs_wsX7_flag_in _ [(0, 14), (0, 15), (0, 16), (0, 17), (0, 12), (0, 18), (0, 19)] rfl) (gi_wsX7_flag_2))
set_option maxRecDepth 20000 in
theorem gX7_flag_X2_put : GoodIn wsX7_flag (wsV RX7 101 RX2 yX2_put wsX2_put) := goodIn_app (gi_q bs_wsX7_flag_in _ [(0, 9), (0, 10), (0, 11), (0, 12)] rfl) ggX7_flag_X2_put
def fw_dX7_flag_0 : List (Nat × Instr × Nat) := [(0, .iload_n 1, 1), (1, .ifCond .lt 8, 3), (4, .iload_n 1, 1), (5, .iconst 2, 1), (6, .if_icmp .lt 10, 3), (9, .aload_n 0, 1), (10, .bipush (-3), 2), (12, .invokevirtual 91, 3), (15, .ireturn, 1), (16, .aload_n 0, 1), (17, .getfield 12, 3), (20, .getfield 98, 3), (23, .bipush 8, 2), (25, .iload_n 1, 1), (26, .iadd, 1), (27, .laload, 1), (28, .l2i, 1), (29, .istore_n 3, 1), (30, .aload_n 0, 1), (31, .getfield 12, 3)]
theorem fw_dX7_flag_0_c : fchk 0 (cX7_flag.data.toList.drop 0) fw_dX7_flag_0 = true := by decide +kernel
theorem dX7_flag_0 : Eq (decode cX7_flag 0) (Except.ok (Instr.iload_n 1, 1)) := fE fw_dX7_flag_0_c 0 rfl
theorem dX7_flag_1 : Eq (decode cX7_flag 1) (Except.ok (Instr.ifCond .lt 8, 3)) := fE fw_dX7_flag_0_c 1 rfl
theorem dX7_flag_4 : Eq (decode cX7_flag 4) (Except.ok (Instr.iload_n 1, 1)) := fE fw_dX7_flag_0_c 2 rfl
theorem dX7_flag_5 : Eq (decode cX7_flag 5) (Except.ok (Instr.iconst 2, 1)) := fE fw_dX7_flag_0_c 3 rfl
theorem dX7_flag_6 : Eq (decode cX7_flag 6) (Except.ok (Instr.if_icmp .lt 10, 3)) := fE fw_dX7_flag_0_c 4 rfl
theorem dX7_flag_9 : Eq (decode cX7_flag 9) (Except.ok (Instr.aload_n 0, 1)) := fE fw_dX7_flag_0_c 5 rfl
theorem dX7_flag_10 : Eq (decode cX7_flag 10) (Except.ok (Instr.bipush (-3), 2)) := fE fw_dX7_flag_0_c 6 rfl
theorem dX7_flag_12 : Eq (decode cX7_flag 12) (Except.ok (Instr.invokevirtual 91, 3)) := fE fw_dX7_flag_0_c 7 rfl
theorem dX7_flag_15 : Eq (decode cX7_flag 15) (Except.ok (Instr.ireturn, 1)) := fE fw_dX7_flag_0_c 8 rfl
theorem dX7_flag_16 : Eq (decode cX7_flag 16) (Except.ok (Instr.aload_n 0, 1)) := fE fw_dX7_flag_0_c 9 rfl
theorem dX7_flag_17 : Eq (decode cX7_flag 17) (Except.ok (Instr.getfield 12, 3)) := fE fw_dX7_flag_0_c 10 rfl
theorem dX7_flag_20 : Eq (decode cX7_flag 20) (Except.ok (Instr.getfield 98, 3)) := fE fw_dX7_flag_0_c 11 rfl
theorem dX7_flag_23 : Eq (decode cX7_flag 23) (Except.ok (Instr.bipush 8, 2)) := fE fw_dX7_flag_0_c 12 rfl
theorem dX7_flag_25 : Eq (decode cX7_flag 25) (Except.ok (Instr.iload_n 1, 1)) := fE fw_dX7_flag_0_c 13 rfl
theorem dX7_flag_26 : Eq (decode cX7_flag 26) (Except.ok (Instr.iadd, 1)) := fE fw_dX7_flag_0_c 14 rfl
theorem dX7_flag_27 : Eq (decode cX7_flag 27) (Except.ok (Instr.laload, 1)) := fE fw_dX7_flag_0_c 15 rfl
theorem dX7_flag_28 : Eq (decode cX7_flag 28) (Except.ok (Instr.l2i, 1)) := fE fw_dX7_flag_0_c 16 rfl
theorem dX7_flag_29 : Eq (decode cX7_flag 29) (Except.ok (Instr.istore_n 3, 1)) := fE fw_dX7_flag_0_c 17 rfl
theorem dX7_flag_30 : Eq (decode cX7_flag 30) (Except.ok (Instr.aload_n 0, 1)) := fE fw_dX7_flag_0_c 18 rfl
theorem dX7_flag_31 : Eq (decode cX7_flag 31) (Except.ok (Instr.getfield 12, 3)) := fE fw_dX7_flag_0_c 19 rfl
def fw_dX7_flag_34 : List (Nat × Instr × Nat) := [(34, .bipush 8, 2), (36, .iload_n 1, 1), (37, .iadd, 1), (38, .iload_n 2, 1), (39, .ifCond .eq 7, 3), (42, .lconst 1, 1), (43, .goto 4, 3), (46, .lconst 0, 1), (47, .invokevirtual 101, 3), (50, .pop, 1), (51, .iload_n 3, 1), (52, .ireturn, 1)]
theorem fw_dX7_flag_34_c : fchk 34 (cX7_flag.data.toList.drop 34) fw_dX7_flag_34 = true := by decide +kernel
theorem dX7_flag_34 : Eq (decode cX7_flag 34) (Except.ok (Instr.bipush 8, 2)) := fE fw_dX7_flag_34_c 0 rfl
theorem dX7_flag_36 : Eq (decode cX7_flag 36) (Except.ok (Instr.iload_n 1, 1)) := fE fw_dX7_flag_34_c 1 rfl
theorem dX7_flag_37 : Eq (decode cX7_flag 37) (Except.ok (Instr.iadd, 1)) := fE fw_dX7_flag_34_c 2 rfl
theorem dX7_flag_38 : Eq (decode cX7_flag 38) (Except.ok (Instr.iload_n 2, 1)) := fE fw_dX7_flag_34_c 3 rfl
theorem dX7_flag_39 : Eq (decode cX7_flag 39) (Except.ok (Instr.ifCond .eq 7, 3)) := fE fw_dX7_flag_34_c 4 rfl
theorem dX7_flag_42 : Eq (decode cX7_flag 42) (Except.ok (Instr.lconst 1, 1)) := fE fw_dX7_flag_34_c 5 rfl
theorem dX7_flag_43 : Eq (decode cX7_flag 43) (Except.ok (Instr.goto 4, 3)) := fE fw_dX7_flag_34_c 6 rfl
theorem dX7_flag_46 : Eq (decode cX7_flag 46) (Except.ok (Instr.lconst 0, 1)) := fE fw_dX7_flag_34_c 7 rfl
theorem dX7_flag_47 : Eq (decode cX7_flag 47) (Except.ok (Instr.invokevirtual 101, 3)) := fE fw_dX7_flag_34_c 8 rfl
theorem dX7_flag_50 : Eq (decode cX7_flag 50) (Except.ok (Instr.pop, 1)) := fE fw_dX7_flag_34_c 9 rfl
theorem dX7_flag_51 : Eq (decode cX7_flag 51) (Except.ok (Instr.iload_n 3, 1)) := fE fw_dX7_flag_34_c 10 rfl
theorem dX7_flag_52 : Eq (decode cX7_flag 52) (Except.ok (Instr.ireturn, 1)) := fE fw_dX7_flag_34_c 11 rfl
def fw_dX7_flags_0 : List (Nat × Instr × Nat) := [(0, .aload_n 0, 1), (1, .getfield 12, 3), (4, .getfield 98, 3), (7, .bipush 8, 2), (9, .laload, 1), (10, .ldc2_w 109, 3), (13, .aload_n 0, 1), (14, .getfield 12, 3), (17, .getfield 98, 3), (20, .bipush 9, 2), (22, .laload, 1), (23, .lmul, 1), (24, .ladd, 1), (25, .l2i, 1), (26, .ireturn, 1)]
theorem fw_dX7_flags_0_c : fchk 0 (cX7_flags.data.toList.drop 0) fw_dX7_flags_0 = true := by decide +kernel
theorem dX7_flags_0 : Eq (decode cX7_flags 0) (Except.ok (Instr.aload_n 0, 1)) := fE fw_dX7_flags_0_c 0 rfl
theorem dX7_flags_1 : Eq (decode cX7_flags 1) (Except.ok (Instr.getfield 12, 3)) := fE fw_dX7_flags_0_c 1 rfl
theorem dX7_flags_4 : Eq (decode cX7_flags 4) (Except.ok (Instr.getfield 98, 3)) := fE fw_dX7_flags_0_c 2 rfl
theorem dX7_flags_7 : Eq (decode cX7_flags 7) (Except.ok (Instr.bipush 8, 2)) := fE fw_dX7_flags_0_c 3 rfl
theorem dX7_flags_9 : Eq (decode cX7_flags 9) (Except.ok (Instr.laload, 1)) := fE fw_dX7_flags_0_c 4 rfl
theorem dX7_flags_10 : Eq (decode cX7_flags 10) (Except.ok (Instr.ldc2_w 109, 3)) := fE fw_dX7_flags_0_c 5 rfl
theorem dX7_flags_13 : Eq (decode cX7_flags 13) (Except.ok (Instr.aload_n 0, 1)) := fE fw_dX7_flags_0_c 6 rfl
theorem dX7_flags_14 : Eq (decode cX7_flags 14) (Except.ok (Instr.getfield 12, 3)) := fE fw_dX7_flags_0_c 7 rfl
theorem dX7_flags_17 : Eq (decode cX7_flags 17) (Except.ok (Instr.getfield 98, 3)) := fE fw_dX7_flags_0_c 8 rfl
theorem dX7_flags_20 : Eq (decode cX7_flags 20) (Except.ok (Instr.bipush 9, 2)) := fE fw_dX7_flags_0_c 9 rfl
theorem dX7_flags_22 : Eq (decode cX7_flags 22) (Except.ok (Instr.laload, 1)) := fE fw_dX7_flags_0_c 10 rfl
theorem dX7_flags_23 : Eq (decode cX7_flags 23) (Except.ok (Instr.lmul, 1)) := fE fw_dX7_flags_0_c 11 rfl
theorem dX7_flags_24 : Eq (decode cX7_flags 24) (Except.ok (Instr.ladd, 1)) := fE fw_dX7_flags_0_c 12 rfl
theorem dX7_flags_25 : Eq (decode cX7_flags 25) (Except.ok (Instr.l2i, 1)) := fE fw_dX7_flags_0_c 13 rfl
theorem dX7_flags_26 : Eq (decode cX7_flags 26) (Except.ok (Instr.ireturn, 1)) := fE fw_dX7_flags_0_c 14 rfl
set_option maxRecDepth 20000 in
theorem gi_wsX7_act_0 : GoodIn wsX7_act wsX7_act_r1 := goodIn_sub (fun w h => List.mem_cons_of_mem _ (List.mem_append_left _ (List.mem_append_left _ (List.mem_append_left _ (List.mem_append_left _ (List.mem_append_left _ h)))))) (by decide +kernel)
set_option maxRecDepth 20000 in
theorem gi_wsX7_act_1 : GoodIn wsX7_act wsX7_act_r2 := goodIn_sub (fun w h => List.mem_cons_of_mem _ (List.mem_append_left _ (List.mem_append_left _ (List.mem_append_left _ (List.mem_append_left _ (List.mem_append_right _ (List.mem_append_left _ h))))))) (by decide +kernel)
set_option maxRecDepth 20000 in
theorem gi_wsX7_act_2 : GoodIn wsX7_act wsX7_act_r3 := goodIn_sub (fun w h => List.mem_cons_of_mem _ (List.mem_append_left _ (List.mem_append_left _ (List.mem_append_left _ (List.mem_append_left _ (List.mem_append_right _ (List.mem_append_right _ h))))))) (by decide +kernel)
set_option maxRecDepth 20000 in
theorem gi_wsX7_act_3 : GoodIn wsX7_act wsX70 := goodIn_sub (fun w h => List.mem_cons_of_mem _ (List.mem_append_left _ (List.mem_append_left _ (List.mem_append_left _ (List.mem_append_right _ h))))) (by decide +kernel)
set_option maxRecDepth 20000 in
theorem gi_wsX7_act_4 : GoodIn wsX7_act wsX50 := goodIn_sub (fun w h => List.mem_cons_of_mem _ (List.mem_append_left _ (List.mem_append_left _ (List.mem_append_right _ h)))) (by decide +kernel)
set_option maxRecDepth 20000 in
theorem gi_wsX7_act_5 : GoodIn wsX7_act wsX30 := goodIn_sub (fun w h => List.mem_cons_of_mem _ (List.mem_append_left _ (List.mem_append_right _ h))) (by decide +kernel)
set_option maxRecDepth 20000 in
theorem gi_wsX7_act_6 : GoodIn wsX7_act wsX40 := goodIn_sub (fun w h => List.mem_cons_of_mem _ (List.mem_append_right _ h)) (by decide +kernel)
def bs_wsX7_act : List (List Cond) := [wsX7_act_r1, wsX7_act_r2, wsX7_act_r3, wsX70, wsX50, wsX30, wsX40]
theorem bs_wsX7_act_in : ∀ b ∈ bs_wsX7_act, GoodIn wsX7_act b := List.forall_mem_cons.mpr ⟨gi_wsX7_act_0, List.forall_mem_cons.mpr ⟨gi_wsX7_act_1, List.forall_mem_cons.mpr ⟨gi_wsX7_act_2, List.forall_mem_cons.mpr ⟨gi_wsX7_act_3, List.forall_mem_cons.mpr ⟨gi_wsX7_act_4, List.forall_mem_cons.mpr ⟨gi_wsX7_act_5, List.forall_mem_cons.mpr ⟨gi_wsX7_act_6, (fun _ h => absurd h List.not_mem_nil)⟩⟩⟩⟩⟩⟩⟩
set_option maxRecDepth 20000 in
theorem ggX7_act_X7_isInstruction : GoodIn wsX7_act wsX7_isInstruction := goodIn_k (gi_q bs_wsX7_act_in _ [(0, 5)] rfl) (gi_q bs_wsX7_act_in _ [] rfl)
set_option maxRecDepth 20000 in
theorem gX7_act_X7_isInstruction : GoodIn wsX7_act (va_wsS RX7 111 yX7_isInstruction wsX7_isInstruction) := goodIn_app (gi_q bs_wsX7_act_in _ [(0, 2), (0, 3), (0, 4)] rfl) ggX7_act_X7_isInstruction
set_option maxRecDepth 20000 in
theorem ggX7_act_X7_refuse : GoodIn wsX7_act wsX7_refuse := goodIn_k (gi_q bs_wsX7_act_in _ [(0, 9)] rfl) (goodIn_app (gi_q bs_wsX7_act_in _ [(0, 10)] rfl) (gi_wsX7_act_3))
set_option maxRecDepth 20000 in
theorem gX7_act_X7_refuse : GoodIn wsX7_act (wsV RX7 91 RX7 yX7_refuse wsX7_refuse) := goodIn_app (gi_q bs_wsX7_act_in _ [(0, 6), (0, 7), (0, 8), (0, 4)] rfl) ggX7_act_X7_refuse
set_option maxRecDepth 20000 in
theorem ggX7_act_X7_isAct : GoodIn wsX7_act wsX7_isAct := goodIn_k (gi_q bs_wsX7_act_in _ [(0, 13)] rfl) (gi_q bs_wsX7_act_in _ [(0, 14), (0, 15), (0, 16), (0, 17), (0, 18), (0, 4), (0, 19), (0, 20), (0, 21)] rfl)
set_option maxRecDepth 20000 in
theorem gX7_act_X7_isAct : GoodIn wsX7_act (va_wsS RX7 114 yX7_isAct wsX7_isAct) := goodIn_app (gi_q bs_wsX7_act_in _ [(0, 11), (0, 12), (0, 4)] rfl) ggX7_act_X7_isAct
set_option maxRecDepth 20000 in
theorem ggX7_act_X5_add : GoodIn wsX7_act wsX5_add := goodIn_k (gi_q bs_wsX7_act_in _ [(1, 2)] rfl) (goodIn_app (gi_q bs_wsX7_act_in _ [(1, 3), (1, 4), (1, 5), (1, 6), (1, 7), (1, 8), (1, 9), (1, 10), (0, 4), (1, 11), (1, 12), (1, 13), (1, 1), (1, 14), (1, 15), (1, 16), (1, 17)] rfl) (gi_wsX7_act_4))
set_option maxRecDepth 20000 in
theorem gX7_act_X5_add : GoodIn wsX7_act (wsV RX7 121 RX5 yX5_add wsX5_add) := goodIn_app (gi_q bs_wsX7_act_in _ [(0, 22), (0, 23), (1, 0), (1, 1)] rfl) ggX7_act_X5_add
set_option maxRecDepth 20000 in
theorem ggX7_act_X7_takeAwayPackedOf : GoodIn wsX7_act wsX7_takeAwayPackedOf := goodIn_k (gi_q bs_wsX7_act_in _ [(1, 21)] rfl) (goodIn_app (goodIn_app (goodIn_app (gi_q bs_wsX7_act_in _ [(1, 22), (1, 23), (2, 0), (2, 1)] rfl) (gi_wsX7_act_3)) (gi_wsX7_act_5)) (gi_wsX7_act_6))
set_option maxRecDepth 20000 in
theorem gX7_act_X7_takeAwayPackedOf : GoodIn wsX7_act (wsV RX7 125 RX7 yX7_takeAwayPackedOf wsX7_takeAwayPackedOf) := goodIn_app (gi_q bs_wsX7_act_in _ [(1, 18), (1, 19), (1, 20), (0, 4)] rfl) ggX7_act_X7_takeAwayPackedOf
def fw_dX7_act_0 : List (Nat × Instr × Nat) := [(0, .iload_n 1, 1), (1, .invokestatic 111, 3), (4, .ifCond .ne 10, 3), (7, .aload_n 0, 1), (8, .bipush (-3), 2), (10, .invokevirtual 91, 3), (13, .ireturn, 1), (14, .iload_n 2, 1), (15, .iload_n 3, 1), (16, .iload 4, 2), (18, .iload 5, 2), (20, .invokestatic 114, 3), (23, .ifCond .ne 10, 3), (26, .aload_n 0, 1), (27, .bipush (-6), 2), (29, .invokevirtual 91, 3), (32, .ireturn, 1), (33, .aload_n 0, 1), (34, .getfield 19, 3), (37, .getfield 118, 3)]
theorem fw_dX7_act_0_c : fchk 0 (cX7_act.data.toList.drop 0) fw_dX7_act_0 = true := by decide +kernel
theorem dX7_act_0 : Eq (decode cX7_act 0) (Except.ok (Instr.iload_n 1, 1)) := fE fw_dX7_act_0_c 0 rfl
theorem dX7_act_1 : Eq (decode cX7_act 1) (Except.ok (Instr.invokestatic 111, 3)) := fE fw_dX7_act_0_c 1 rfl
theorem dX7_act_4 : Eq (decode cX7_act 4) (Except.ok (Instr.ifCond .ne 10, 3)) := fE fw_dX7_act_0_c 2 rfl
theorem dX7_act_7 : Eq (decode cX7_act 7) (Except.ok (Instr.aload_n 0, 1)) := fE fw_dX7_act_0_c 3 rfl
theorem dX7_act_8 : Eq (decode cX7_act 8) (Except.ok (Instr.bipush (-3), 2)) := fE fw_dX7_act_0_c 4 rfl
theorem dX7_act_10 : Eq (decode cX7_act 10) (Except.ok (Instr.invokevirtual 91, 3)) := fE fw_dX7_act_0_c 5 rfl
theorem dX7_act_13 : Eq (decode cX7_act 13) (Except.ok (Instr.ireturn, 1)) := fE fw_dX7_act_0_c 6 rfl
theorem dX7_act_14 : Eq (decode cX7_act 14) (Except.ok (Instr.iload_n 2, 1)) := fE fw_dX7_act_0_c 7 rfl
theorem dX7_act_15 : Eq (decode cX7_act 15) (Except.ok (Instr.iload_n 3, 1)) := fE fw_dX7_act_0_c 8 rfl
theorem dX7_act_16 : Eq (decode cX7_act 16) (Except.ok (Instr.iload 4, 2)) := fE fw_dX7_act_0_c 9 rfl
theorem dX7_act_18 : Eq (decode cX7_act 18) (Except.ok (Instr.iload 5, 2)) := fE fw_dX7_act_0_c 10 rfl
theorem dX7_act_20 : Eq (decode cX7_act 20) (Except.ok (Instr.invokestatic 114, 3)) := fE fw_dX7_act_0_c 11 rfl
theorem dX7_act_23 : Eq (decode cX7_act 23) (Except.ok (Instr.ifCond .ne 10, 3)) := fE fw_dX7_act_0_c 12 rfl
theorem dX7_act_26 : Eq (decode cX7_act 26) (Except.ok (Instr.aload_n 0, 1)) := fE fw_dX7_act_0_c 13 rfl
theorem dX7_act_27 : Eq (decode cX7_act 27) (Except.ok (Instr.bipush (-6), 2)) := fE fw_dX7_act_0_c 14 rfl
theorem dX7_act_29 : Eq (decode cX7_act 29) (Except.ok (Instr.invokevirtual 91, 3)) := fE fw_dX7_act_0_c 15 rfl
theorem dX7_act_32 : Eq (decode cX7_act 32) (Except.ok (Instr.ireturn, 1)) := fE fw_dX7_act_0_c 16 rfl
theorem dX7_act_33 : Eq (decode cX7_act 33) (Except.ok (Instr.aload_n 0, 1)) := fE fw_dX7_act_0_c 17 rfl
theorem dX7_act_34 : Eq (decode cX7_act 34) (Except.ok (Instr.getfield 19, 3)) := fE fw_dX7_act_0_c 18 rfl
theorem dX7_act_37 : Eq (decode cX7_act 37) (Except.ok (Instr.getfield 118, 3)) := fE fw_dX7_act_0_c 19 rfl
def fw_dX7_act_40 : List (Nat × Instr × Nat) := [(40, .iload_n 1, 1), (41, .iaload, 1), (42, .bipush 10, 2), (44, .if_icmp .lt 10, 3), (47, .aload_n 0, 1), (48, .bipush (-7), 2), (50, .invokevirtual 91, 3), (53, .ireturn, 1), (54, .aload_n 0, 1), (55, .getfield 19, 3), (58, .iload_n 1, 1), (59, .iload_n 2, 1), (60, .iload_n 3, 1), (61, .iload 4, 2), (63, .iload 5, 2), (65, .invokevirtual 121, 3), (68, .aload_n 0, 1), (69, .iload_n 1, 1), (70, .invokevirtual 125, 3), (73, .aload_n 0, 1)]
theorem fw_dX7_act_40_c : fchk 40 (cX7_act.data.toList.drop 40) fw_dX7_act_40 = true := by decide +kernel
theorem dX7_act_40 : Eq (decode cX7_act 40) (Except.ok (Instr.iload_n 1, 1)) := fE fw_dX7_act_40_c 0 rfl
theorem dX7_act_41 : Eq (decode cX7_act 41) (Except.ok (Instr.iaload, 1)) := fE fw_dX7_act_40_c 1 rfl
theorem dX7_act_42 : Eq (decode cX7_act 42) (Except.ok (Instr.bipush 10, 2)) := fE fw_dX7_act_40_c 2 rfl
theorem dX7_act_44 : Eq (decode cX7_act 44) (Except.ok (Instr.if_icmp .lt 10, 3)) := fE fw_dX7_act_40_c 3 rfl
theorem dX7_act_47 : Eq (decode cX7_act 47) (Except.ok (Instr.aload_n 0, 1)) := fE fw_dX7_act_40_c 4 rfl
theorem dX7_act_48 : Eq (decode cX7_act 48) (Except.ok (Instr.bipush (-7), 2)) := fE fw_dX7_act_40_c 5 rfl
theorem dX7_act_50 : Eq (decode cX7_act 50) (Except.ok (Instr.invokevirtual 91, 3)) := fE fw_dX7_act_40_c 6 rfl
theorem dX7_act_53 : Eq (decode cX7_act 53) (Except.ok (Instr.ireturn, 1)) := fE fw_dX7_act_40_c 7 rfl
theorem dX7_act_54 : Eq (decode cX7_act 54) (Except.ok (Instr.aload_n 0, 1)) := fE fw_dX7_act_40_c 8 rfl
theorem dX7_act_55 : Eq (decode cX7_act 55) (Except.ok (Instr.getfield 19, 3)) := fE fw_dX7_act_40_c 9 rfl
theorem dX7_act_58 : Eq (decode cX7_act 58) (Except.ok (Instr.iload_n 1, 1)) := fE fw_dX7_act_40_c 10 rfl
theorem dX7_act_59 : Eq (decode cX7_act 59) (Except.ok (Instr.iload_n 2, 1)) := fE fw_dX7_act_40_c 11 rfl
theorem dX7_act_60 : Eq (decode cX7_act 60) (Except.ok (Instr.iload_n 3, 1)) := fE fw_dX7_act_40_c 12 rfl
theorem dX7_act_61 : Eq (decode cX7_act 61) (Except.ok (Instr.iload 4, 2)) := fE fw_dX7_act_40_c 13 rfl
theorem dX7_act_63 : Eq (decode cX7_act 63) (Except.ok (Instr.iload 5, 2)) := fE fw_dX7_act_40_c 14 rfl
theorem dX7_act_65 : Eq (decode cX7_act 65) (Except.ok (Instr.invokevirtual 121, 3)) := fE fw_dX7_act_40_c 15 rfl
theorem dX7_act_68 : Eq (decode cX7_act 68) (Except.ok (Instr.aload_n 0, 1)) := fE fw_dX7_act_40_c 16 rfl
theorem dX7_act_69 : Eq (decode cX7_act 69) (Except.ok (Instr.iload_n 1, 1)) := fE fw_dX7_act_40_c 17 rfl
theorem dX7_act_70 : Eq (decode cX7_act 70) (Except.ok (Instr.invokevirtual 125, 3)) := fE fw_dX7_act_40_c 18 rfl
theorem dX7_act_73 : Eq (decode cX7_act 73) (Except.ok (Instr.aload_n 0, 1)) := fE fw_dX7_act_40_c 19 rfl
def fw_dX7_act_74 : List (Nat × Instr × Nat) := [(74, .getfield 19, 3), (77, .getfield 118, 3), (80, .iload_n 1, 1), (81, .iaload, 1), (82, .ireturn, 1)]
theorem fw_dX7_act_74_c : fchk 74 (cX7_act.data.toList.drop 74) fw_dX7_act_74 = true := by decide +kernel
theorem dX7_act_74 : Eq (decode cX7_act 74) (Except.ok (Instr.getfield 19, 3)) := fE fw_dX7_act_74_c 0 rfl
theorem dX7_act_77 : Eq (decode cX7_act 77) (Except.ok (Instr.getfield 118, 3)) := fE fw_dX7_act_74_c 1 rfl
theorem dX7_act_80 : Eq (decode cX7_act 80) (Except.ok (Instr.iload_n 1, 1)) := fE fw_dX7_act_74_c 2 rfl
theorem dX7_act_81 : Eq (decode cX7_act 81) (Except.ok (Instr.iaload, 1)) := fE fw_dX7_act_74_c 3 rfl
theorem dX7_act_82 : Eq (decode cX7_act 82) (Except.ok (Instr.ireturn, 1)) := fE fw_dX7_act_74_c 4 rfl
set_option maxRecDepth 20000 in
theorem gi_wsX7_clear_0 : GoodIn wsX7_clear wsX7_clear := goodIn_sub (fun _ h => h) (by decide +kernel)
set_option maxRecDepth 20000 in
theorem gi_wsX7_clear_1 : GoodIn wsX7_clear wsX70 := goodIn_sub (fun w h => List.mem_cons_of_mem _ (List.mem_append_left _ (List.mem_append_left _ (List.mem_append_left _ (List.mem_append_right _ h))))) (by decide +kernel)
set_option maxRecDepth 20000 in
theorem gi_wsX7_clear_2 : GoodIn wsX7_clear wsX50 := goodIn_sub (fun w h => List.mem_cons_of_mem _ (List.mem_append_left _ (List.mem_append_left _ (List.mem_append_right _ h)))) (by decide +kernel)
set_option maxRecDepth 20000 in
theorem gi_wsX7_clear_3 : GoodIn wsX7_clear wsX30 := goodIn_sub (fun w h => List.mem_cons_of_mem _ (List.mem_append_left _ (List.mem_append_right _ h))) (by decide +kernel)
set_option maxRecDepth 20000 in
theorem gi_wsX7_clear_4 : GoodIn wsX7_clear wsX40 := goodIn_sub (fun w h => List.mem_cons_of_mem _ (List.mem_append_right _ h)) (by decide +kernel)
def bs_wsX7_clear : List (List Cond) := [wsX7_clear, wsX70, wsX50, wsX30, wsX40]
theorem bs_wsX7_clear_in : ∀ b ∈ bs_wsX7_clear, GoodIn wsX7_clear b := List.forall_mem_cons.mpr ⟨gi_wsX7_clear_0, List.forall_mem_cons.mpr ⟨gi_wsX7_clear_1, List.forall_mem_cons.mpr ⟨gi_wsX7_clear_2, List.forall_mem_cons.mpr ⟨gi_wsX7_clear_3, List.forall_mem_cons.mpr ⟨gi_wsX7_clear_4, (fun _ h => absurd h List.not_mem_nil)⟩⟩⟩⟩⟩
set_option maxRecDepth 20000 in
theorem ggX7_clear_X7_isInstruction : GoodIn wsX7_clear wsX7_isInstruction := goodIn_k (gi_q bs_wsX7_clear_in _ [(0, 6)] rfl) (gi_q bs_wsX7_clear_in _ [] rfl)
set_option maxRecDepth 20000 in
theorem gX7_clear_X7_isInstruction : GoodIn wsX7_clear (va_wsS RX7 111 yX7_isInstruction wsX7_isInstruction) := goodIn_app (gi_q bs_wsX7_clear_in _ [(0, 3), (0, 4), (0, 5)] rfl) ggX7_clear_X7_isInstruction
set_option maxRecDepth 20000 in
theorem ggX7_clear_X7_refuse : GoodIn wsX7_clear wsX7_refuse := goodIn_k (gi_q bs_wsX7_clear_in _ [(0, 10)] rfl) (goodIn_app (gi_q bs_wsX7_clear_in _ [(0, 11)] rfl) (gi_wsX7_clear_1))
set_option maxRecDepth 20000 in
theorem gX7_clear_X7_refuse : GoodIn wsX7_clear (wsV RX7 91 RX7 yX7_refuse wsX7_refuse) := goodIn_app (gi_q bs_wsX7_clear_in _ [(0, 7), (0, 8), (0, 9), (0, 5)] rfl) ggX7_clear_X7_refuse
set_option maxRecDepth 20000 in
theorem ggX7_clear_X7_takeAwayPackedOf : GoodIn wsX7_clear wsX7_takeAwayPackedOf := goodIn_k (gi_q bs_wsX7_clear_in _ [(0, 15)] rfl) (goodIn_app (goodIn_app (goodIn_app (gi_q bs_wsX7_clear_in _ [(0, 16), (0, 17), (0, 18), (0, 19)] rfl) (gi_wsX7_clear_1)) (gi_wsX7_clear_3)) (gi_wsX7_clear_4))
set_option maxRecDepth 20000 in
theorem gX7_clear_X7_takeAwayPackedOf : GoodIn wsX7_clear (wsV RX7 125 RX7 yX7_takeAwayPackedOf wsX7_takeAwayPackedOf) := goodIn_app (gi_q bs_wsX7_clear_in _ [(0, 12), (0, 13), (0, 14), (0, 5)] rfl) ggX7_clear_X7_takeAwayPackedOf
def fw_dX7_clear_0 : List (Nat × Instr × Nat) := [(0, .iload_n 1, 1), (1, .invokestatic 111, 3), (4, .ifCond .ne 10, 3), (7, .aload_n 0, 1), (8, .bipush (-3), 2), (10, .invokevirtual 91, 3), (13, .ireturn, 1), (14, .aload_n 0, 1), (15, .getfield 19, 3), (18, .getfield 118, 3), (21, .iload_n 1, 1), (22, .iaload, 1), (23, .istore_n 2, 1), (24, .iload_n 2, 1), (25, .ifCond .le 18, 3), (28, .aload_n 0, 1), (29, .getfield 19, 3), (32, .getfield 118, 3), (35, .iload_n 1, 1), (36, .iconst 0, 1)]
theorem fw_dX7_clear_0_c : fchk 0 (cX7_clear.data.toList.drop 0) fw_dX7_clear_0 = true := by decide +kernel
theorem dX7_clear_0 : Eq (decode cX7_clear 0) (Except.ok (Instr.iload_n 1, 1)) := fE fw_dX7_clear_0_c 0 rfl
theorem dX7_clear_1 : Eq (decode cX7_clear 1) (Except.ok (Instr.invokestatic 111, 3)) := fE fw_dX7_clear_0_c 1 rfl
theorem dX7_clear_4 : Eq (decode cX7_clear 4) (Except.ok (Instr.ifCond .ne 10, 3)) := fE fw_dX7_clear_0_c 2 rfl
theorem dX7_clear_7 : Eq (decode cX7_clear 7) (Except.ok (Instr.aload_n 0, 1)) := fE fw_dX7_clear_0_c 3 rfl
theorem dX7_clear_8 : Eq (decode cX7_clear 8) (Except.ok (Instr.bipush (-3), 2)) := fE fw_dX7_clear_0_c 4 rfl
theorem dX7_clear_10 : Eq (decode cX7_clear 10) (Except.ok (Instr.invokevirtual 91, 3)) := fE fw_dX7_clear_0_c 5 rfl
theorem dX7_clear_13 : Eq (decode cX7_clear 13) (Except.ok (Instr.ireturn, 1)) := fE fw_dX7_clear_0_c 6 rfl
theorem dX7_clear_14 : Eq (decode cX7_clear 14) (Except.ok (Instr.aload_n 0, 1)) := fE fw_dX7_clear_0_c 7 rfl
theorem dX7_clear_15 : Eq (decode cX7_clear 15) (Except.ok (Instr.getfield 19, 3)) := fE fw_dX7_clear_0_c 8 rfl
theorem dX7_clear_18 : Eq (decode cX7_clear 18) (Except.ok (Instr.getfield 118, 3)) := fE fw_dX7_clear_0_c 9 rfl
theorem dX7_clear_21 : Eq (decode cX7_clear 21) (Except.ok (Instr.iload_n 1, 1)) := fE fw_dX7_clear_0_c 10 rfl
theorem dX7_clear_22 : Eq (decode cX7_clear 22) (Except.ok (Instr.iaload, 1)) := fE fw_dX7_clear_0_c 11 rfl
theorem dX7_clear_23 : Eq (decode cX7_clear 23) (Except.ok (Instr.istore_n 2, 1)) := fE fw_dX7_clear_0_c 12 rfl
theorem dX7_clear_24 : Eq (decode cX7_clear 24) (Except.ok (Instr.iload_n 2, 1)) := fE fw_dX7_clear_0_c 13 rfl
theorem dX7_clear_25 : Eq (decode cX7_clear 25) (Except.ok (Instr.ifCond .le 18, 3)) := fE fw_dX7_clear_0_c 14 rfl
theorem dX7_clear_28 : Eq (decode cX7_clear 28) (Except.ok (Instr.aload_n 0, 1)) := fE fw_dX7_clear_0_c 15 rfl
theorem dX7_clear_29 : Eq (decode cX7_clear 29) (Except.ok (Instr.getfield 19, 3)) := fE fw_dX7_clear_0_c 16 rfl
theorem dX7_clear_32 : Eq (decode cX7_clear 32) (Except.ok (Instr.getfield 118, 3)) := fE fw_dX7_clear_0_c 17 rfl
theorem dX7_clear_35 : Eq (decode cX7_clear 35) (Except.ok (Instr.iload_n 1, 1)) := fE fw_dX7_clear_0_c 18 rfl
theorem dX7_clear_36 : Eq (decode cX7_clear 36) (Except.ok (Instr.iconst 0, 1)) := fE fw_dX7_clear_0_c 19 rfl
def fw_dX7_clear_37 : List (Nat × Instr × Nat) := [(37, .iastore, 1), (38, .aload_n 0, 1), (39, .iload_n 1, 1), (40, .invokevirtual 125, 3), (43, .iload_n 2, 1), (44, .ireturn, 1)]
theorem fw_dX7_clear_37_c : fchk 37 (cX7_clear.data.toList.drop 37) fw_dX7_clear_37 = true := by decide +kernel
theorem dX7_clear_37 : Eq (decode cX7_clear 37) (Except.ok (Instr.iastore, 1)) := fE fw_dX7_clear_37_c 0 rfl
theorem dX7_clear_38 : Eq (decode cX7_clear 38) (Except.ok (Instr.aload_n 0, 1)) := fE fw_dX7_clear_37_c 1 rfl
theorem dX7_clear_39 : Eq (decode cX7_clear 39) (Except.ok (Instr.iload_n 1, 1)) := fE fw_dX7_clear_37_c 2 rfl
theorem dX7_clear_40 : Eq (decode cX7_clear 40) (Except.ok (Instr.invokevirtual 125, 3)) := fE fw_dX7_clear_37_c 3 rfl
theorem dX7_clear_43 : Eq (decode cX7_clear 43) (Except.ok (Instr.iload_n 2, 1)) := fE fw_dX7_clear_37_c 4 rfl
theorem dX7_clear_44 : Eq (decode cX7_clear 44) (Except.ok (Instr.ireturn, 1)) := fE fw_dX7_clear_37_c 5 rfl
set_option maxRecDepth 20000 in
theorem gi_wsX7_look_0 : GoodIn wsX7_look wsX7_look_r1 := goodIn_sub (fun w h => List.mem_cons_of_mem _ (List.mem_append_left _ (List.mem_append_left _ (List.mem_append_left _ h)))) (by decide +kernel)
set_option maxRecDepth 20000 in
theorem gi_wsX7_look_1 : GoodIn wsX7_look wsX7_look_r2 := goodIn_sub (fun w h => List.mem_cons_of_mem _ (List.mem_append_left _ (List.mem_append_left _ (List.mem_append_right _ h)))) (by decide +kernel)
set_option maxRecDepth 20000 in
theorem gi_wsX7_look_2 : GoodIn wsX7_look wsX70 := goodIn_sub (fun w h => List.mem_cons_of_mem _ (List.mem_append_left _ (List.mem_append_right _ h))) (by decide +kernel)
set_option maxRecDepth 20000 in
theorem gi_wsX7_look_3 : GoodIn wsX7_look wsX50 := goodIn_sub (fun w h => List.mem_cons_of_mem _ (List.mem_append_right _ h)) (by decide +kernel)
def bs_wsX7_look : List (List Cond) := [wsX7_look_r1, wsX7_look_r2, wsX70, wsX50]
theorem bs_wsX7_look_in : ∀ b ∈ bs_wsX7_look, GoodIn wsX7_look b := List.forall_mem_cons.mpr ⟨gi_wsX7_look_0, List.forall_mem_cons.mpr ⟨gi_wsX7_look_1, List.forall_mem_cons.mpr ⟨gi_wsX7_look_2, List.forall_mem_cons.mpr ⟨gi_wsX7_look_3, (fun _ h => absurd h List.not_mem_nil)⟩⟩⟩⟩
set_option maxRecDepth 20000 in
theorem ggX7_look_X7_hasAct : GoodIn wsX7_look wsX7_hasAct := goodIn_k (gi_q bs_wsX7_look_in _ [(0, 9)] rfl) (goodIn_app (goodIn_app (gi_q bs_wsX7_look_in _ [(0, 0), (0, 10), (0, 11), (0, 12), (0, 8), (0, 13)] rfl) (gi_wsX7_look_2)) (gi_wsX7_look_3))
set_option maxRecDepth 20000 in
theorem gX7_look_X7_hasAct : GoodIn wsX7_look (wsV RX7 129 RX7 yX7_hasAct wsX7_hasAct) := goodIn_app (gi_q bs_wsX7_look_in _ [(0, 5), (0, 6), (0, 7), (0, 8)] rfl) ggX7_look_X7_hasAct
set_option maxRecDepth 20000 in
theorem ggX7_look_X7_refuse : GoodIn wsX7_look wsX7_refuse := goodIn_k (gi_q bs_wsX7_look_in _ [(0, 17)] rfl) (goodIn_app (gi_q bs_wsX7_look_in _ [(0, 18)] rfl) (gi_wsX7_look_2))
set_option maxRecDepth 20000 in
theorem gX7_look_X7_refuse : GoodIn wsX7_look (wsV RX7 91 RX7 yX7_refuse wsX7_refuse) := goodIn_app (gi_q bs_wsX7_look_in _ [(0, 14), (0, 15), (0, 16), (0, 8)] rfl) ggX7_look_X7_refuse
set_option maxRecDepth 20000 in
theorem ggX7_look_X7_slot : GoodIn wsX7_look wsX7_slot := goodIn_k (gi_q bs_wsX7_look_in _ [(0, 21)] rfl) (gi_q bs_wsX7_look_in _ [] rfl)
set_option maxRecDepth 20000 in
theorem gX7_look_X7_slot : GoodIn wsX7_look (va_wsS RX7 133 yX7_slot wsX7_slot) := goodIn_app (gi_q bs_wsX7_look_in _ [(0, 19), (0, 20), (0, 8)] rfl) ggX7_look_X7_slot
set_option maxRecDepth 20000 in
theorem ggX7_look_X5_partOf : GoodIn wsX7_look wsX5_partOf := goodIn_k (gi_q bs_wsX7_look_in _ [(1, 2)] rfl) (goodIn_app (gi_q bs_wsX7_look_in _ [(1, 3)] rfl) (gi_wsX7_look_3))
set_option maxRecDepth 20000 in
theorem gX7_look_X5_partOf : GoodIn wsX7_look (wsV RX7 149 RX5 yX5_partOf wsX5_partOf) := goodIn_app (gi_q bs_wsX7_look_in _ [(0, 22), (0, 23), (1, 0), (1, 1)] rfl) ggX7_look_X5_partOf
set_option maxRecDepth 20000 in
theorem ggX7_look_X5_canTrap : GoodIn wsX7_look wsX5_canTrap := goodIn_k (gi_q bs_wsX7_look_in _ [(1, 7)] rfl) (goodIn_app (gi_q bs_wsX7_look_in _ [(1, 3)] rfl) (gi_wsX7_look_3))
set_option maxRecDepth 20000 in
theorem gX7_look_X5_canTrap : GoodIn wsX7_look (wsV RX7 152 RX5 yX5_canTrap wsX5_canTrap) := goodIn_app (gi_q bs_wsX7_look_in _ [(1, 4), (1, 5), (1, 6), (1, 1)] rfl) ggX7_look_X5_canTrap
def fw_dX7_look_0 : List (Nat × Instr × Nat) := [(0, .aload_n 0, 1), (1, .iload_n 1, 1), (2, .iload_n 2, 1), (3, .invokevirtual 129, 3), (6, .ifCond .ne 10, 3), (9, .aload_n 0, 1), (10, .bipush (-3), 2), (12, .invokevirtual 91, 3), (15, .ireturn, 1), (16, .iload_n 1, 1), (17, .iload_n 2, 1), (18, .invokestatic 133, 3), (21, .istore 4, 2), (23, .iload_n 3, 1)]
theorem fw_dX7_look_0_c : fchk 0 (cX7_look.data.toList.drop 0) fw_dX7_look_0 = true := by decide +kernel
theorem dX7_look_0 : Eq (decode cX7_look 0) (Except.ok (Instr.aload_n 0, 1)) := fE fw_dX7_look_0_c 0 rfl
theorem dX7_look_1 : Eq (decode cX7_look 1) (Except.ok (Instr.iload_n 1, 1)) := fE fw_dX7_look_0_c 1 rfl
theorem dX7_look_2 : Eq (decode cX7_look 2) (Except.ok (Instr.iload_n 2, 1)) := fE fw_dX7_look_0_c 2 rfl
theorem dX7_look_3 : Eq (decode cX7_look 3) (Except.ok (Instr.invokevirtual 129, 3)) := fE fw_dX7_look_0_c 3 rfl
theorem dX7_look_6 : Eq (decode cX7_look 6) (Except.ok (Instr.ifCond .ne 10, 3)) := fE fw_dX7_look_0_c 4 rfl
theorem dX7_look_9 : Eq (decode cX7_look 9) (Except.ok (Instr.aload_n 0, 1)) := fE fw_dX7_look_0_c 5 rfl
theorem dX7_look_10 : Eq (decode cX7_look 10) (Except.ok (Instr.bipush (-3), 2)) := fE fw_dX7_look_0_c 6 rfl
theorem dX7_look_12 : Eq (decode cX7_look 12) (Except.ok (Instr.invokevirtual 91, 3)) := fE fw_dX7_look_0_c 7 rfl
theorem dX7_look_15 : Eq (decode cX7_look 15) (Except.ok (Instr.ireturn, 1)) := fE fw_dX7_look_0_c 8 rfl
theorem dX7_look_16 : Eq (decode cX7_look 16) (Except.ok (Instr.iload_n 1, 1)) := fE fw_dX7_look_0_c 9 rfl
theorem dX7_look_17 : Eq (decode cX7_look 17) (Except.ok (Instr.iload_n 2, 1)) := fE fw_dX7_look_0_c 10 rfl
theorem dX7_look_18 : Eq (decode cX7_look 18) (Except.ok (Instr.invokestatic 133, 3)) := fE fw_dX7_look_0_c 11 rfl
theorem dX7_look_21 : Eq (decode cX7_look 21) (Except.ok (Instr.istore 4, 2)) := fE fw_dX7_look_0_c 12 rfl
theorem dX7_look_23 : Eq (decode cX7_look 23) (Except.ok (Instr.iload_n 3, 1)) := fE fw_dX7_look_0_c 13 rfl
theorem dX7_look_24 : decode cX7_look 24 = .ok (.tableswitch 112 0 5 #[40, 51, 62, 73, 84, 94], 40) := by decide +kernel
def fw_dX7_look_64 : List (Nat × Instr × Nat) := [(64, .aload_n 0, 1), (65, .getfield 19, 3), (68, .getfield 137, 3), (71, .iload 4, 2), (73, .iaload, 1), (74, .ireturn, 1), (75, .aload_n 0, 1), (76, .getfield 19, 3), (79, .getfield 140, 3), (82, .iload 4, 2), (84, .iaload, 1), (85, .ireturn, 1), (86, .aload_n 0, 1), (87, .getfield 19, 3), (90, .getfield 143, 3), (93, .iload 4, 2), (95, .iaload, 1), (96, .ireturn, 1), (97, .aload_n 0, 1), (98, .getfield 19, 3)]
theorem fw_dX7_look_64_c : fchk 64 (cX7_look.data.toList.drop 64) fw_dX7_look_64 = true := by decide +kernel
theorem dX7_look_64 : Eq (decode cX7_look 64) (Except.ok (Instr.aload_n 0, 1)) := fE fw_dX7_look_64_c 0 rfl
theorem dX7_look_65 : Eq (decode cX7_look 65) (Except.ok (Instr.getfield 19, 3)) := fE fw_dX7_look_64_c 1 rfl
theorem dX7_look_68 : Eq (decode cX7_look 68) (Except.ok (Instr.getfield 137, 3)) := fE fw_dX7_look_64_c 2 rfl
theorem dX7_look_71 : Eq (decode cX7_look 71) (Except.ok (Instr.iload 4, 2)) := fE fw_dX7_look_64_c 3 rfl
theorem dX7_look_73 : Eq (decode cX7_look 73) (Except.ok (Instr.iaload, 1)) := fE fw_dX7_look_64_c 4 rfl
theorem dX7_look_74 : Eq (decode cX7_look 74) (Except.ok (Instr.ireturn, 1)) := fE fw_dX7_look_64_c 5 rfl
theorem dX7_look_75 : Eq (decode cX7_look 75) (Except.ok (Instr.aload_n 0, 1)) := fE fw_dX7_look_64_c 6 rfl
theorem dX7_look_76 : Eq (decode cX7_look 76) (Except.ok (Instr.getfield 19, 3)) := fE fw_dX7_look_64_c 7 rfl
theorem dX7_look_79 : Eq (decode cX7_look 79) (Except.ok (Instr.getfield 140, 3)) := fE fw_dX7_look_64_c 8 rfl
theorem dX7_look_82 : Eq (decode cX7_look 82) (Except.ok (Instr.iload 4, 2)) := fE fw_dX7_look_64_c 9 rfl
theorem dX7_look_84 : Eq (decode cX7_look 84) (Except.ok (Instr.iaload, 1)) := fE fw_dX7_look_64_c 10 rfl
theorem dX7_look_85 : Eq (decode cX7_look 85) (Except.ok (Instr.ireturn, 1)) := fE fw_dX7_look_64_c 11 rfl
theorem dX7_look_86 : Eq (decode cX7_look 86) (Except.ok (Instr.aload_n 0, 1)) := fE fw_dX7_look_64_c 12 rfl
theorem dX7_look_87 : Eq (decode cX7_look 87) (Except.ok (Instr.getfield 19, 3)) := fE fw_dX7_look_64_c 13 rfl
theorem dX7_look_90 : Eq (decode cX7_look 90) (Except.ok (Instr.getfield 143, 3)) := fE fw_dX7_look_64_c 14 rfl
theorem dX7_look_93 : Eq (decode cX7_look 93) (Except.ok (Instr.iload 4, 2)) := fE fw_dX7_look_64_c 15 rfl
theorem dX7_look_95 : Eq (decode cX7_look 95) (Except.ok (Instr.iaload, 1)) := fE fw_dX7_look_64_c 16 rfl
theorem dX7_look_96 : Eq (decode cX7_look 96) (Except.ok (Instr.ireturn, 1)) := fE fw_dX7_look_64_c 17 rfl
theorem dX7_look_97 : Eq (decode cX7_look 97) (Except.ok (Instr.aload_n 0, 1)) := fE fw_dX7_look_64_c 18 rfl
theorem dX7_look_98 : Eq (decode cX7_look 98) (Except.ok (Instr.getfield 19, 3)) := fE fw_dX7_look_64_c 19 rfl
def fw_dX7_look_101 : List (Nat × Instr × Nat) := [(101, .getfield 146, 3), (104, .iload 4, 2), (106, .iaload, 1), (107, .ireturn, 1), (108, .aload_n 0, 1), (109, .getfield 19, 3), (112, .iload 4, 2), (114, .invokevirtual 149, 3), (117, .ireturn, 1), (118, .aload_n 0, 1), (119, .getfield 19, 3), (122, .iload 4, 2), (124, .invokevirtual 152, 3), (127, .ifCond .eq 7, 3), (130, .iconst 1, 1), (131, .goto 4, 3), (134, .iconst 0, 1), (135, .ireturn, 1), (136, .aload_n 0, 1), (137, .bipush (-6), 2)]
theorem fw_dX7_look_101_c : fchk 101 (cX7_look.data.toList.drop 101) fw_dX7_look_101 = true := by decide +kernel
theorem dX7_look_101 : Eq (decode cX7_look 101) (Except.ok (Instr.getfield 146, 3)) := fE fw_dX7_look_101_c 0 rfl
theorem dX7_look_104 : Eq (decode cX7_look 104) (Except.ok (Instr.iload 4, 2)) := fE fw_dX7_look_101_c 1 rfl
theorem dX7_look_106 : Eq (decode cX7_look 106) (Except.ok (Instr.iaload, 1)) := fE fw_dX7_look_101_c 2 rfl
theorem dX7_look_107 : Eq (decode cX7_look 107) (Except.ok (Instr.ireturn, 1)) := fE fw_dX7_look_101_c 3 rfl
theorem dX7_look_108 : Eq (decode cX7_look 108) (Except.ok (Instr.aload_n 0, 1)) := fE fw_dX7_look_101_c 4 rfl
theorem dX7_look_109 : Eq (decode cX7_look 109) (Except.ok (Instr.getfield 19, 3)) := fE fw_dX7_look_101_c 5 rfl
theorem dX7_look_112 : Eq (decode cX7_look 112) (Except.ok (Instr.iload 4, 2)) := fE fw_dX7_look_101_c 6 rfl
theorem dX7_look_114 : Eq (decode cX7_look 114) (Except.ok (Instr.invokevirtual 149, 3)) := fE fw_dX7_look_101_c 7 rfl
theorem dX7_look_117 : Eq (decode cX7_look 117) (Except.ok (Instr.ireturn, 1)) := fE fw_dX7_look_101_c 8 rfl
theorem dX7_look_118 : Eq (decode cX7_look 118) (Except.ok (Instr.aload_n 0, 1)) := fE fw_dX7_look_101_c 9 rfl
theorem dX7_look_119 : Eq (decode cX7_look 119) (Except.ok (Instr.getfield 19, 3)) := fE fw_dX7_look_101_c 10 rfl
theorem dX7_look_122 : Eq (decode cX7_look 122) (Except.ok (Instr.iload 4, 2)) := fE fw_dX7_look_101_c 11 rfl
theorem dX7_look_124 : Eq (decode cX7_look 124) (Except.ok (Instr.invokevirtual 152, 3)) := fE fw_dX7_look_101_c 12 rfl
theorem dX7_look_127 : Eq (decode cX7_look 127) (Except.ok (Instr.ifCond .eq 7, 3)) := fE fw_dX7_look_101_c 13 rfl
theorem dX7_look_130 : Eq (decode cX7_look 130) (Except.ok (Instr.iconst 1, 1)) := fE fw_dX7_look_101_c 14 rfl
theorem dX7_look_131 : Eq (decode cX7_look 131) (Except.ok (Instr.goto 4, 3)) := fE fw_dX7_look_101_c 15 rfl
theorem dX7_look_134 : Eq (decode cX7_look 134) (Except.ok (Instr.iconst 0, 1)) := fE fw_dX7_look_101_c 16 rfl
theorem dX7_look_135 : Eq (decode cX7_look 135) (Except.ok (Instr.ireturn, 1)) := fE fw_dX7_look_101_c 17 rfl
theorem dX7_look_136 : Eq (decode cX7_look 136) (Except.ok (Instr.aload_n 0, 1)) := fE fw_dX7_look_101_c 18 rfl
theorem dX7_look_137 : Eq (decode cX7_look 137) (Except.ok (Instr.bipush (-6), 2)) := fE fw_dX7_look_101_c 19 rfl
def fw_dX7_look_139 : List (Nat × Instr × Nat) := [(139, .invokevirtual 91, 3), (142, .ireturn, 1)]
theorem fw_dX7_look_139_c : fchk 139 (cX7_look.data.toList.drop 139) fw_dX7_look_139 = true := by decide +kernel
theorem dX7_look_139 : Eq (decode cX7_look 139) (Except.ok (Instr.invokevirtual 91, 3)) := fE fw_dX7_look_139_c 0 rfl
theorem dX7_look_142 : Eq (decode cX7_look 142) (Except.ok (Instr.ireturn, 1)) := fE fw_dX7_look_139_c 1 rfl
set_option maxRecDepth 20000 in
theorem gi_wsX7_buses_0 : GoodIn wsX7_buses wsX7_buses := goodIn_sub (fun _ h => h) (by decide +kernel)
set_option maxRecDepth 20000 in
theorem gi_wsX7_buses_1 : GoodIn wsX7_buses wsX70 := goodIn_sub (fun w h => List.mem_cons_of_mem _ (List.mem_append_left _ (List.mem_append_left _ (List.mem_append_right _ h)))) (by decide +kernel)
set_option maxRecDepth 20000 in
theorem gi_wsX7_buses_2 : GoodIn wsX7_buses wsX30 := goodIn_sub (fun w h => List.mem_cons_of_mem _ (List.mem_append_left _ (List.mem_append_right _ h))) (by decide +kernel)
set_option maxRecDepth 20000 in
theorem gi_wsX7_buses_3 : GoodIn wsX7_buses wsX40 := goodIn_sub (fun w h => List.mem_cons_of_mem _ (List.mem_append_right _ h)) (by decide +kernel)
def bs_wsX7_buses : List (List Cond) := [wsX7_buses, wsX70, wsX30, wsX40]
theorem bs_wsX7_buses_in : ∀ b ∈ bs_wsX7_buses, GoodIn wsX7_buses b := List.forall_mem_cons.mpr ⟨gi_wsX7_buses_0, List.forall_mem_cons.mpr ⟨gi_wsX7_buses_1, List.forall_mem_cons.mpr ⟨gi_wsX7_buses_2, List.forall_mem_cons.mpr ⟨gi_wsX7_buses_3, (fun _ h => absurd h List.not_mem_nil)⟩⟩⟩⟩
set_option maxRecDepth 20000 in
theorem ggX7_buses_X7_refuse : GoodIn wsX7_buses wsX7_refuse := goodIn_k (gi_q bs_wsX7_buses_in _ [(0, 9)] rfl) (goodIn_app (gi_q bs_wsX7_buses_in _ [(0, 10)] rfl) (gi_wsX7_buses_1))
set_option maxRecDepth 20000 in
theorem gX7_buses_X7_refuse : GoodIn wsX7_buses (wsV RX7 91 RX7 yX7_refuse wsX7_refuse) := goodIn_app (gi_q bs_wsX7_buses_in _ [(0, 5), (0, 6), (0, 7), (0, 8)] rfl) ggX7_buses_X7_refuse
set_option maxRecDepth 20000 in
theorem ggX7_buses_X3_dropAll : GoodIn wsX7_buses wsX3_dropAll := goodIn_k (gi_q bs_wsX7_buses_in _ [(0, 15)] rfl) (goodIn_app (gi_q bs_wsX7_buses_in _ [(0, 16)] rfl) (gi_wsX7_buses_2))
set_option maxRecDepth 20000 in
theorem gX7_buses_X3_dropAll : GoodIn wsX7_buses (wsV RX7 158 RX3 yX3_dropAll wsX3_dropAll) := goodIn_app (gi_q bs_wsX7_buses_in _ [(0, 11), (0, 12), (0, 13), (0, 14)] rfl) ggX7_buses_X3_dropAll
def fw_dX7_buses_0 : List (Nat × Instr × Nat) := [(0, .iload_n 1, 1), (1, .iconst 1, 1), (2, .if_icmp .lt 8, 3), (5, .iload_n 1, 1), (6, .iconst 3, 1), (7, .if_icmp .le 10, 3), (10, .aload_n 0, 1), (11, .bipush (-6), 2), (13, .invokevirtual 91, 3), (16, .ireturn, 1), (17, .aload_n 0, 1), (18, .getfield 28, 3), (21, .getfield 155, 3), (24, .istore_n 2, 1), (25, .iload_n 1, 1), (26, .iload_n 2, 1), (27, .if_icmp .eq 26, 3), (30, .aload_n 0, 1), (31, .getfield 28, 3), (34, .iload_n 1, 1)]
theorem fw_dX7_buses_0_c : fchk 0 (cX7_buses.data.toList.drop 0) fw_dX7_buses_0 = true := by decide +kernel
theorem dX7_buses_0 : Eq (decode cX7_buses 0) (Except.ok (Instr.iload_n 1, 1)) := fE fw_dX7_buses_0_c 0 rfl
theorem dX7_buses_1 : Eq (decode cX7_buses 1) (Except.ok (Instr.iconst 1, 1)) := fE fw_dX7_buses_0_c 1 rfl
theorem dX7_buses_2 : Eq (decode cX7_buses 2) (Except.ok (Instr.if_icmp .lt 8, 3)) := fE fw_dX7_buses_0_c 2 rfl
theorem dX7_buses_5 : Eq (decode cX7_buses 5) (Except.ok (Instr.iload_n 1, 1)) := fE fw_dX7_buses_0_c 3 rfl
theorem dX7_buses_6 : Eq (decode cX7_buses 6) (Except.ok (Instr.iconst 3, 1)) := fE fw_dX7_buses_0_c 4 rfl
theorem dX7_buses_7 : Eq (decode cX7_buses 7) (Except.ok (Instr.if_icmp .le 10, 3)) := fE fw_dX7_buses_0_c 5 rfl
theorem dX7_buses_10 : Eq (decode cX7_buses 10) (Except.ok (Instr.aload_n 0, 1)) := fE fw_dX7_buses_0_c 6 rfl
theorem dX7_buses_11 : Eq (decode cX7_buses 11) (Except.ok (Instr.bipush (-6), 2)) := fE fw_dX7_buses_0_c 7 rfl
theorem dX7_buses_13 : Eq (decode cX7_buses 13) (Except.ok (Instr.invokevirtual 91, 3)) := fE fw_dX7_buses_0_c 8 rfl
theorem dX7_buses_16 : Eq (decode cX7_buses 16) (Except.ok (Instr.ireturn, 1)) := fE fw_dX7_buses_0_c 9 rfl
theorem dX7_buses_17 : Eq (decode cX7_buses 17) (Except.ok (Instr.aload_n 0, 1)) := fE fw_dX7_buses_0_c 10 rfl
theorem dX7_buses_18 : Eq (decode cX7_buses 18) (Except.ok (Instr.getfield 28, 3)) := fE fw_dX7_buses_0_c 11 rfl
theorem dX7_buses_21 : Eq (decode cX7_buses 21) (Except.ok (Instr.getfield 155, 3)) := fE fw_dX7_buses_0_c 12 rfl
theorem dX7_buses_24 : Eq (decode cX7_buses 24) (Except.ok (Instr.istore_n 2, 1)) := fE fw_dX7_buses_0_c 13 rfl
theorem dX7_buses_25 : Eq (decode cX7_buses 25) (Except.ok (Instr.iload_n 1, 1)) := fE fw_dX7_buses_0_c 14 rfl
theorem dX7_buses_26 : Eq (decode cX7_buses 26) (Except.ok (Instr.iload_n 2, 1)) := fE fw_dX7_buses_0_c 15 rfl
theorem dX7_buses_27 : Eq (decode cX7_buses 27) (Except.ok (Instr.if_icmp .eq 26, 3)) := fE fw_dX7_buses_0_c 16 rfl
theorem dX7_buses_30 : Eq (decode cX7_buses 30) (Except.ok (Instr.aload_n 0, 1)) := fE fw_dX7_buses_0_c 17 rfl
theorem dX7_buses_31 : Eq (decode cX7_buses 31) (Except.ok (Instr.getfield 28, 3)) := fE fw_dX7_buses_0_c 18 rfl
theorem dX7_buses_34 : Eq (decode cX7_buses 34) (Except.ok (Instr.iload_n 1, 1)) := fE fw_dX7_buses_0_c 19 rfl
def fw_dX7_buses_35 : List (Nat × Instr × Nat) := [(35, .putfield 155, 3), (38, .aload_n 0, 1), (39, .getfield 28, 3), (42, .invokevirtual 158, 3), (45, .aload_n 0, 1), (46, .getfield 37, 3), (49, .iconst 0, 1), (50, .putfield 161, 3), (53, .iload_n 2, 1), (54, .ireturn, 1)]
theorem fw_dX7_buses_35_c : fchk 35 (cX7_buses.data.toList.drop 35) fw_dX7_buses_35 = true := by decide +kernel
theorem dX7_buses_35 : Eq (decode cX7_buses 35) (Except.ok (Instr.putfield 155, 3)) := fE fw_dX7_buses_35_c 0 rfl
theorem dX7_buses_38 : Eq (decode cX7_buses 38) (Except.ok (Instr.aload_n 0, 1)) := fE fw_dX7_buses_35_c 1 rfl
theorem dX7_buses_39 : Eq (decode cX7_buses 39) (Except.ok (Instr.getfield 28, 3)) := fE fw_dX7_buses_35_c 2 rfl
theorem dX7_buses_42 : Eq (decode cX7_buses 42) (Except.ok (Instr.invokevirtual 158, 3)) := fE fw_dX7_buses_35_c 3 rfl
theorem dX7_buses_45 : Eq (decode cX7_buses 45) (Except.ok (Instr.aload_n 0, 1)) := fE fw_dX7_buses_35_c 4 rfl
theorem dX7_buses_46 : Eq (decode cX7_buses 46) (Except.ok (Instr.getfield 37, 3)) := fE fw_dX7_buses_35_c 5 rfl
theorem dX7_buses_49 : Eq (decode cX7_buses 49) (Except.ok (Instr.iconst 0, 1)) := fE fw_dX7_buses_35_c 6 rfl
theorem dX7_buses_50 : Eq (decode cX7_buses 50) (Except.ok (Instr.putfield 161, 3)) := fE fw_dX7_buses_35_c 7 rfl
theorem dX7_buses_53 : Eq (decode cX7_buses 53) (Except.ok (Instr.iload_n 2, 1)) := fE fw_dX7_buses_35_c 8 rfl
theorem dX7_buses_54 : Eq (decode cX7_buses 54) (Except.ok (Instr.ireturn, 1)) := fE fw_dX7_buses_35_c 9 rfl
set_option maxRecDepth 20000 in
theorem gi_wsX7_needs_0 : GoodIn wsX7_needs wsX7_needs_r1 := goodIn_sub (fun w h => List.mem_cons_of_mem _ (List.mem_append_left _ (List.mem_append_left _ (List.mem_append_left _ h)))) (by decide +kernel)
set_option maxRecDepth 20000 in
theorem gi_wsX7_needs_1 : GoodIn wsX7_needs wsX7_needs_r2 := goodIn_sub (fun w h => List.mem_cons_of_mem _ (List.mem_append_left _ (List.mem_append_left _ (List.mem_append_right _ h)))) (by decide +kernel)
set_option maxRecDepth 20000 in
theorem gi_wsX7_needs_2 : GoodIn wsX7_needs wsX70 := goodIn_sub (fun w h => List.mem_cons_of_mem _ (List.mem_append_left _ (List.mem_append_right _ h))) (by decide +kernel)
set_option maxRecDepth 20000 in
theorem gi_wsX7_needs_3 : GoodIn wsX7_needs wsX50 := goodIn_sub (fun w h => List.mem_cons_of_mem _ (List.mem_append_right _ h)) (by decide +kernel)
def bs_wsX7_needs : List (List Cond) := [wsX7_needs_r1, wsX7_needs_r2, wsX70, wsX50]
theorem bs_wsX7_needs_in : ∀ b ∈ bs_wsX7_needs, GoodIn wsX7_needs b := List.forall_mem_cons.mpr ⟨gi_wsX7_needs_0, List.forall_mem_cons.mpr ⟨gi_wsX7_needs_1, List.forall_mem_cons.mpr ⟨gi_wsX7_needs_2, List.forall_mem_cons.mpr ⟨gi_wsX7_needs_3, (fun _ h => absurd h List.not_mem_nil)⟩⟩⟩⟩
set_option maxRecDepth 20000 in
theorem ggX7_needs_X7_hasAct : GoodIn wsX7_needs wsX7_hasAct := goodIn_k (gi_q bs_wsX7_needs_in _ [(0, 5)] rfl) (goodIn_app (goodIn_app (gi_q bs_wsX7_needs_in _ [(0, 0), (0, 6), (0, 7), (0, 8), (0, 4), (0, 9)] rfl) (gi_wsX7_needs_2)) (gi_wsX7_needs_3))
set_option maxRecDepth 20000 in
theorem gX7_needs_X7_hasAct : GoodIn wsX7_needs (wsV RX7 129 RX7 yX7_hasAct wsX7_hasAct) := goodIn_app (gi_q bs_wsX7_needs_in _ [(0, 1), (0, 2), (0, 3), (0, 4)] rfl) ggX7_needs_X7_hasAct
set_option maxRecDepth 20000 in
theorem ggX7_needs_X7_refuse : GoodIn wsX7_needs wsX7_refuse := goodIn_k (gi_q bs_wsX7_needs_in _ [(0, 13)] rfl) (goodIn_app (gi_q bs_wsX7_needs_in _ [(0, 14)] rfl) (gi_wsX7_needs_2))
set_option maxRecDepth 20000 in
theorem gX7_needs_X7_refuse : GoodIn wsX7_needs (wsV RX7 91 RX7 yX7_refuse wsX7_refuse) := goodIn_app (gi_q bs_wsX7_needs_in _ [(0, 10), (0, 11), (0, 12), (0, 4)] rfl) ggX7_needs_X7_refuse
set_option maxRecDepth 20000 in
theorem ggX7_needs_X7_slot : GoodIn wsX7_needs wsX7_slot := goodIn_k (gi_q bs_wsX7_needs_in _ [(0, 17)] rfl) (gi_q bs_wsX7_needs_in _ [] rfl)
set_option maxRecDepth 20000 in
theorem gX7_needs_X7_slot : GoodIn wsX7_needs (va_wsS RX7 133 yX7_slot wsX7_slot) := goodIn_app (gi_q bs_wsX7_needs_in _ [(0, 15), (0, 16), (0, 4)] rfl) ggX7_needs_X7_slot
set_option maxRecDepth 20000 in
theorem ggX7_needs_X5_need : GoodIn wsX7_needs wsX5_need := goodIn_k (gi_q bs_wsX7_needs_in _ [(0, 22)] rfl) (goodIn_app (gi_q bs_wsX7_needs_in _ [(0, 23), (1, 0), (1, 1), (1, 2), (1, 3), (1, 4), (0, 21), (1, 5)] rfl) (gi_wsX7_needs_3))
set_option maxRecDepth 20000 in
theorem gX7_needs_X5_need : GoodIn wsX7_needs (wsV RX7 165 RX5 yX5_need wsX5_need) := goodIn_app (gi_q bs_wsX7_needs_in _ [(0, 18), (0, 19), (0, 20), (0, 21)] rfl) ggX7_needs_X5_need
def fw_dX7_needs_0 : List (Nat × Instr × Nat) := [(0, .aload_n 0, 1), (1, .iload_n 1, 1), (2, .iload_n 2, 1), (3, .invokevirtual 129, 3), (6, .ifCond .eq 12, 3), (9, .aload_n 0, 1), (10, .iload_n 1, 1), (11, .iload_n 3, 1), (12, .invokevirtual 129, 3), (15, .ifCond .ne 10, 3), (18, .aload_n 0, 1), (19, .bipush (-3), 2), (21, .invokevirtual 91, 3), (24, .ireturn, 1), (25, .iload_n 2, 1), (26, .iload_n 3, 1), (27, .if_icmp .lt 10, 3), (30, .aload_n 0, 1), (31, .bipush (-6), 2), (33, .invokevirtual 91, 3)]
theorem fw_dX7_needs_0_c : fchk 0 (cX7_needs.data.toList.drop 0) fw_dX7_needs_0 = true := by decide +kernel
theorem dX7_needs_0 : Eq (decode cX7_needs 0) (Except.ok (Instr.aload_n 0, 1)) := fE fw_dX7_needs_0_c 0 rfl
theorem dX7_needs_1 : Eq (decode cX7_needs 1) (Except.ok (Instr.iload_n 1, 1)) := fE fw_dX7_needs_0_c 1 rfl
theorem dX7_needs_2 : Eq (decode cX7_needs 2) (Except.ok (Instr.iload_n 2, 1)) := fE fw_dX7_needs_0_c 2 rfl
theorem dX7_needs_3 : Eq (decode cX7_needs 3) (Except.ok (Instr.invokevirtual 129, 3)) := fE fw_dX7_needs_0_c 3 rfl
theorem dX7_needs_6 : Eq (decode cX7_needs 6) (Except.ok (Instr.ifCond .eq 12, 3)) := fE fw_dX7_needs_0_c 4 rfl
theorem dX7_needs_9 : Eq (decode cX7_needs 9) (Except.ok (Instr.aload_n 0, 1)) := fE fw_dX7_needs_0_c 5 rfl
theorem dX7_needs_10 : Eq (decode cX7_needs 10) (Except.ok (Instr.iload_n 1, 1)) := fE fw_dX7_needs_0_c 6 rfl
theorem dX7_needs_11 : Eq (decode cX7_needs 11) (Except.ok (Instr.iload_n 3, 1)) := fE fw_dX7_needs_0_c 7 rfl
theorem dX7_needs_12 : Eq (decode cX7_needs 12) (Except.ok (Instr.invokevirtual 129, 3)) := fE fw_dX7_needs_0_c 8 rfl
theorem dX7_needs_15 : Eq (decode cX7_needs 15) (Except.ok (Instr.ifCond .ne 10, 3)) := fE fw_dX7_needs_0_c 9 rfl
theorem dX7_needs_18 : Eq (decode cX7_needs 18) (Except.ok (Instr.aload_n 0, 1)) := fE fw_dX7_needs_0_c 10 rfl
theorem dX7_needs_19 : Eq (decode cX7_needs 19) (Except.ok (Instr.bipush (-3), 2)) := fE fw_dX7_needs_0_c 11 rfl
theorem dX7_needs_21 : Eq (decode cX7_needs 21) (Except.ok (Instr.invokevirtual 91, 3)) := fE fw_dX7_needs_0_c 12 rfl
theorem dX7_needs_24 : Eq (decode cX7_needs 24) (Except.ok (Instr.ireturn, 1)) := fE fw_dX7_needs_0_c 13 rfl
theorem dX7_needs_25 : Eq (decode cX7_needs 25) (Except.ok (Instr.iload_n 2, 1)) := fE fw_dX7_needs_0_c 14 rfl
theorem dX7_needs_26 : Eq (decode cX7_needs 26) (Except.ok (Instr.iload_n 3, 1)) := fE fw_dX7_needs_0_c 15 rfl
theorem dX7_needs_27 : Eq (decode cX7_needs 27) (Except.ok (Instr.if_icmp .lt 10, 3)) := fE fw_dX7_needs_0_c 16 rfl
theorem dX7_needs_30 : Eq (decode cX7_needs 30) (Except.ok (Instr.aload_n 0, 1)) := fE fw_dX7_needs_0_c 17 rfl
theorem dX7_needs_31 : Eq (decode cX7_needs 31) (Except.ok (Instr.bipush (-6), 2)) := fE fw_dX7_needs_0_c 18 rfl
theorem dX7_needs_33 : Eq (decode cX7_needs 33) (Except.ok (Instr.invokevirtual 91, 3)) := fE fw_dX7_needs_0_c 19 rfl
def fw_dX7_needs_36 : List (Nat × Instr × Nat) := [(36, .ireturn, 1), (37, .aload_n 0, 1), (38, .getfield 19, 3), (41, .iload_n 1, 1), (42, .iload_n 2, 1), (43, .invokestatic 133, 3), (46, .iload_n 1, 1), (47, .iload_n 3, 1), (48, .invokestatic 133, 3), (51, .invokevirtual 165, 3), (54, .ireturn, 1)]
theorem fw_dX7_needs_36_c : fchk 36 (cX7_needs.data.toList.drop 36) fw_dX7_needs_36 = true := by decide +kernel
theorem dX7_needs_36 : Eq (decode cX7_needs 36) (Except.ok (Instr.ireturn, 1)) := fE fw_dX7_needs_36_c 0 rfl
theorem dX7_needs_37 : Eq (decode cX7_needs 37) (Except.ok (Instr.aload_n 0, 1)) := fE fw_dX7_needs_36_c 1 rfl
theorem dX7_needs_38 : Eq (decode cX7_needs 38) (Except.ok (Instr.getfield 19, 3)) := fE fw_dX7_needs_36_c 2 rfl
theorem dX7_needs_41 : Eq (decode cX7_needs 41) (Except.ok (Instr.iload_n 1, 1)) := fE fw_dX7_needs_36_c 3 rfl
theorem dX7_needs_42 : Eq (decode cX7_needs 42) (Except.ok (Instr.iload_n 2, 1)) := fE fw_dX7_needs_36_c 4 rfl
theorem dX7_needs_43 : Eq (decode cX7_needs 43) (Except.ok (Instr.invokestatic 133, 3)) := fE fw_dX7_needs_36_c 5 rfl
theorem dX7_needs_46 : Eq (decode cX7_needs 46) (Except.ok (Instr.iload_n 1, 1)) := fE fw_dX7_needs_36_c 6 rfl
theorem dX7_needs_47 : Eq (decode cX7_needs 47) (Except.ok (Instr.iload_n 3, 1)) := fE fw_dX7_needs_36_c 7 rfl
theorem dX7_needs_48 : Eq (decode cX7_needs 48) (Except.ok (Instr.invokestatic 133, 3)) := fE fw_dX7_needs_36_c 8 rfl
theorem dX7_needs_51 : Eq (decode cX7_needs 51) (Except.ok (Instr.invokevirtual 165, 3)) := fE fw_dX7_needs_36_c 9 rfl
theorem dX7_needs_54 : Eq (decode cX7_needs 54) (Except.ok (Instr.ireturn, 1)) := fE fw_dX7_needs_36_c 10 rfl
set_option maxRecDepth 20000 in
theorem gi_wsX7_pack_0 : GoodIn wsX7_pack wsX7_pack_r1 := goodIn_sub (fun w h => List.mem_cons_of_mem _ (List.mem_append_left _ (List.mem_append_left _ (List.mem_append_left _ (List.mem_append_left _ (List.mem_append_left _ h)))))) (by decide +kernel)
set_option maxRecDepth 20000 in
theorem gi_wsX7_pack_1 : GoodIn wsX7_pack wsX7_pack_r2 := goodIn_sub (fun w h => List.mem_cons_of_mem _ (List.mem_append_left _ (List.mem_append_left _ (List.mem_append_left _ (List.mem_append_left _ (List.mem_append_right _ (List.mem_append_left _ h))))))) (by decide +kernel)
set_option maxRecDepth 20000 in
theorem gi_wsX7_pack_2 : GoodIn wsX7_pack wsX7_pack_r3 := goodIn_sub (fun w h => List.mem_cons_of_mem _ (List.mem_append_left _ (List.mem_append_left _ (List.mem_append_left _ (List.mem_append_left _ (List.mem_append_right _ (List.mem_append_right _ (List.mem_append_left _ h)))))))) (by decide +kernel)
set_option maxRecDepth 20000 in
theorem gi_wsX7_pack_3 : GoodIn wsX7_pack wsX7_pack_r4 := goodIn_sub (fun w h => List.mem_cons_of_mem _ (List.mem_append_left _ (List.mem_append_left _ (List.mem_append_left _ (List.mem_append_left _ (List.mem_append_right _ (List.mem_append_right _ (List.mem_append_right _ (List.mem_append_left _ h))))))))) (by decide +kernel)
set_option maxRecDepth 20000 in
theorem gi_wsX7_pack_4 : GoodIn wsX7_pack wsX7_pack_r5 := goodIn_sub (fun w h => List.mem_cons_of_mem _ (List.mem_append_left _ (List.mem_append_left _ (List.mem_append_left _ (List.mem_append_left _ (List.mem_append_right _ (List.mem_append_right _ (List.mem_append_right _ (List.mem_append_right _ h))))))))) (by decide +kernel)
set_option maxRecDepth 20000 in
theorem gi_wsX7_pack_5 : GoodIn wsX7_pack wsX70 := goodIn_sub (fun w h => List.mem_cons_of_mem _ (List.mem_append_left _ (List.mem_append_left _ (List.mem_append_left _ (List.mem_append_right _ h))))) (by decide +kernel)
set_option maxRecDepth 20000 in
theorem gi_wsX7_pack_6 : GoodIn wsX7_pack wsX30 := goodIn_sub (fun w h => List.mem_cons_of_mem _ (List.mem_append_left _ (List.mem_append_left _ (List.mem_append_right _ h)))) (by decide +kernel)
set_option maxRecDepth 20000 in
theorem gi_wsX7_pack_7 : GoodIn wsX7_pack wsX60 := goodIn_sub (fun w h => List.mem_cons_of_mem _ (List.mem_append_left _ (List.mem_append_right _ h))) (by decide +kernel)
set_option maxRecDepth 20000 in
theorem gi_wsX7_pack_8 : GoodIn wsX7_pack wsX50 := goodIn_sub (fun w h => List.mem_cons_of_mem _ (List.mem_append_right _ h)) (by decide +kernel)
def bs_wsX7_pack : List (List Cond) := [wsX7_pack_r1, wsX7_pack_r2, wsX7_pack_r3, wsX7_pack_r4, wsX7_pack_r5, wsX70, wsX30, wsX60, wsX50]
theorem bs_wsX7_pack_in : ∀ b ∈ bs_wsX7_pack, GoodIn wsX7_pack b := List.forall_mem_cons.mpr ⟨gi_wsX7_pack_0, List.forall_mem_cons.mpr ⟨gi_wsX7_pack_1, List.forall_mem_cons.mpr ⟨gi_wsX7_pack_2, List.forall_mem_cons.mpr ⟨gi_wsX7_pack_3, List.forall_mem_cons.mpr ⟨gi_wsX7_pack_4, List.forall_mem_cons.mpr ⟨gi_wsX7_pack_5, List.forall_mem_cons.mpr ⟨gi_wsX7_pack_6, List.forall_mem_cons.mpr ⟨gi_wsX7_pack_7, List.forall_mem_cons.mpr ⟨gi_wsX7_pack_8, (fun _ h => absurd h List.not_mem_nil)⟩⟩⟩⟩⟩⟩⟩⟩⟩
set_option maxRecDepth 20000 in
theorem ggX7_pack_X7_isInstruction : GoodIn wsX7_pack wsX7_isInstruction := goodIn_k (gi_q bs_wsX7_pack_in _ [(0, 5)] rfl) (gi_q bs_wsX7_pack_in _ [] rfl)
set_option maxRecDepth 20000 in
theorem gX7_pack_X7_isInstruction : GoodIn wsX7_pack (va_wsS RX7 111 yX7_isInstruction wsX7_isInstruction) := goodIn_app (gi_q bs_wsX7_pack_in _ [(0, 2), (0, 3), (0, 4)] rfl) ggX7_pack_X7_isInstruction
set_option maxRecDepth 20000 in
theorem ggX7_pack_X7_refuse : GoodIn wsX7_pack wsX7_refuse := goodIn_k (gi_q bs_wsX7_pack_in _ [(0, 9)] rfl) (goodIn_app (gi_q bs_wsX7_pack_in _ [(0, 10)] rfl) (gi_wsX7_pack_5))
set_option maxRecDepth 20000 in
theorem gX7_pack_X7_refuse : GoodIn wsX7_pack (wsV RX7 91 RX7 yX7_refuse wsX7_refuse) := goodIn_app (gi_q bs_wsX7_pack_in _ [(0, 6), (0, 7), (0, 8), (0, 4)] rfl) ggX7_pack_X7_refuse
set_option maxRecDepth 20000 in
theorem ggX7_pack_X3_make : GoodIn wsX7_pack wsX3_make := goodIn_k (gi_q bs_wsX7_pack_in _ [(0, 15)] rfl) (goodIn_app (goodIn_app (goodIn_app (goodIn_app (gi_q bs_wsX7_pack_in _ [(0, 16), (0, 17), (0, 18), (0, 19), (0, 20), (0, 21), (0, 22), (0, 23), (1, 0), (1, 1), (1, 2), (1, 3), (1, 4), (1, 5), (1, 6), (1, 7), (1, 8), (1, 9), (1, 10), (1, 11), (1, 12), (1, 13), (1, 14), (1, 15)] rfl) (goodIn_app (gi_q bs_wsX7_pack_in _ [(1, 16), (1, 17), (1, 18), (1, 19), (0, 4), (1, 20), (1, 21), (1, 22), (1, 23), (2, 0), (2, 1), (2, 2), (2, 3), (2, 4), (2, 5), (2, 6), (2, 7), (2, 8), (2, 9), (2, 10), (2, 11), (2, 12), (2, 13), (2, 14)] rfl) (goodIn_app (gi_q bs_wsX7_pack_in _ [(2, 15), (2, 16), (2, 17), (2, 18), (2, 19), (2, 20), (2, 21), (2, 22), (2, 23), (3, 0), (3, 1), (3, 2), (3, 3), (3, 4), (3, 5), (3, 6), (3, 7), (3, 8), (3, 9), (3, 10), (3, 11), (3, 12), (3, 13), (3, 14)] rfl) (gi_q bs_wsX7_pack_in _ [(3, 15), (3, 16), (3, 17), (3, 18), (3, 19), (3, 20), (3, 21), (3, 22), (3, 23), (4, 0), (4, 1), (4, 2), (4, 3), (4, 4)] rfl)))) (gi_wsX7_pack_6)) (gi_wsX7_pack_7)) (gi_wsX7_pack_8))
set_option maxRecDepth 20000 in
theorem gX7_pack_X3_make : GoodIn wsX7_pack (wsV RX7 168 RX3 yX3_make wsX3_make) := goodIn_app (gi_q bs_wsX7_pack_in _ [(0, 11), (0, 12), (0, 13), (0, 14)] rfl) ggX7_pack_X3_make
def fw_dX7_pack_0 : List (Nat × Instr × Nat) := [(0, .iload_n 1, 1), (1, .invokestatic 111, 3), (4, .ifCond .ne 10, 3), (7, .aload_n 0, 1), (8, .bipush (-3), 2), (10, .invokevirtual 91, 3), (13, .ireturn, 1), (14, .aload_n 0, 1), (15, .getfield 28, 3), (18, .iload_n 1, 1), (19, .invokevirtual 168, 3), (22, .aload_n 0, 1), (23, .getfield 28, 3), (26, .getfield 171, 3), (29, .iload_n 1, 1), (30, .iaload, 1), (31, .ireturn, 1)]
theorem fw_dX7_pack_0_c : fchk 0 (cX7_pack.data.toList.drop 0) fw_dX7_pack_0 = true := by decide +kernel
theorem dX7_pack_0 : Eq (decode cX7_pack 0) (Except.ok (Instr.iload_n 1, 1)) := fE fw_dX7_pack_0_c 0 rfl
theorem dX7_pack_1 : Eq (decode cX7_pack 1) (Except.ok (Instr.invokestatic 111, 3)) := fE fw_dX7_pack_0_c 1 rfl
theorem dX7_pack_4 : Eq (decode cX7_pack 4) (Except.ok (Instr.ifCond .ne 10, 3)) := fE fw_dX7_pack_0_c 2 rfl
theorem dX7_pack_7 : Eq (decode cX7_pack 7) (Except.ok (Instr.aload_n 0, 1)) := fE fw_dX7_pack_0_c 3 rfl
theorem dX7_pack_8 : Eq (decode cX7_pack 8) (Except.ok (Instr.bipush (-3), 2)) := fE fw_dX7_pack_0_c 4 rfl
theorem dX7_pack_10 : Eq (decode cX7_pack 10) (Except.ok (Instr.invokevirtual 91, 3)) := fE fw_dX7_pack_0_c 5 rfl
theorem dX7_pack_13 : Eq (decode cX7_pack 13) (Except.ok (Instr.ireturn, 1)) := fE fw_dX7_pack_0_c 6 rfl
theorem dX7_pack_14 : Eq (decode cX7_pack 14) (Except.ok (Instr.aload_n 0, 1)) := fE fw_dX7_pack_0_c 7 rfl
theorem dX7_pack_15 : Eq (decode cX7_pack 15) (Except.ok (Instr.getfield 28, 3)) := fE fw_dX7_pack_0_c 8 rfl
theorem dX7_pack_18 : Eq (decode cX7_pack 18) (Except.ok (Instr.iload_n 1, 1)) := fE fw_dX7_pack_0_c 9 rfl
theorem dX7_pack_19 : Eq (decode cX7_pack 19) (Except.ok (Instr.invokevirtual 168, 3)) := fE fw_dX7_pack_0_c 10 rfl
theorem dX7_pack_22 : Eq (decode cX7_pack 22) (Except.ok (Instr.aload_n 0, 1)) := fE fw_dX7_pack_0_c 11 rfl
theorem dX7_pack_23 : Eq (decode cX7_pack 23) (Except.ok (Instr.getfield 28, 3)) := fE fw_dX7_pack_0_c 12 rfl
theorem dX7_pack_26 : Eq (decode cX7_pack 26) (Except.ok (Instr.getfield 171, 3)) := fE fw_dX7_pack_0_c 13 rfl
theorem dX7_pack_29 : Eq (decode cX7_pack 29) (Except.ok (Instr.iload_n 1, 1)) := fE fw_dX7_pack_0_c 14 rfl
theorem dX7_pack_30 : Eq (decode cX7_pack 30) (Except.ok (Instr.iaload, 1)) := fE fw_dX7_pack_0_c 15 rfl
theorem dX7_pack_31 : Eq (decode cX7_pack 31) (Except.ok (Instr.ireturn, 1)) := fE fw_dX7_pack_0_c 16 rfl
set_option maxRecDepth 20000 in
theorem gi_wsX7_word_0 : GoodIn wsX7_word wsX7_word := goodIn_sub (fun _ h => h) (by decide +kernel)
set_option maxRecDepth 20000 in
theorem gi_wsX7_word_1 : GoodIn wsX7_word wsX70 := goodIn_sub (fun w h => List.mem_cons_of_mem _ (List.mem_append_left _ (List.mem_append_left _ (List.mem_append_right _ h)))) (by decide +kernel)
set_option maxRecDepth 20000 in
theorem gi_wsX7_word_2 : GoodIn wsX7_word wsX30 := goodIn_sub (fun w h => List.mem_cons_of_mem _ (List.mem_append_left _ (List.mem_append_right _ h))) (by decide +kernel)
set_option maxRecDepth 20000 in
theorem gi_wsX7_word_3 : GoodIn wsX7_word wsX50 := goodIn_sub (fun w h => List.mem_cons_of_mem _ (List.mem_append_right _ h)) (by decide +kernel)
def bs_wsX7_word : List (List Cond) := [wsX7_word, wsX70, wsX30, wsX50]
theorem bs_wsX7_word_in : ∀ b ∈ bs_wsX7_word, GoodIn wsX7_word b := List.forall_mem_cons.mpr ⟨gi_wsX7_word_0, List.forall_mem_cons.mpr ⟨gi_wsX7_word_1, List.forall_mem_cons.mpr ⟨gi_wsX7_word_2, List.forall_mem_cons.mpr ⟨gi_wsX7_word_3, (fun _ h => absurd h List.not_mem_nil)⟩⟩⟩⟩
set_option maxRecDepth 20000 in
theorem ggX7_word_X7_hasAct : GoodIn wsX7_word wsX7_hasAct := goodIn_k (gi_q bs_wsX7_word_in _ [(0, 8)] rfl) (goodIn_app (goodIn_app (gi_q bs_wsX7_word_in _ [(0, 9), (0, 10), (0, 11), (0, 12), (0, 7), (0, 13)] rfl) (gi_wsX7_word_1)) (gi_wsX7_word_3))
set_option maxRecDepth 20000 in
theorem gX7_word_X7_hasAct : GoodIn wsX7_word (wsV RX7 129 RX7 yX7_hasAct wsX7_hasAct) := goodIn_app (gi_q bs_wsX7_word_in _ [(0, 4), (0, 5), (0, 6), (0, 7)] rfl) ggX7_word_X7_hasAct
set_option maxRecDepth 20000 in
theorem ggX7_word_X7_refuse : GoodIn wsX7_word wsX7_refuse := goodIn_k (gi_q bs_wsX7_word_in _ [(0, 17)] rfl) (goodIn_app (gi_q bs_wsX7_word_in _ [(0, 18)] rfl) (gi_wsX7_word_1))
set_option maxRecDepth 20000 in
theorem gX7_word_X7_refuse : GoodIn wsX7_word (wsV RX7 91 RX7 yX7_refuse wsX7_refuse) := goodIn_app (gi_q bs_wsX7_word_in _ [(0, 14), (0, 15), (0, 16), (0, 7)] rfl) ggX7_word_X7_refuse
set_option maxRecDepth 20000 in
theorem ggX7_word_X7_slot : GoodIn wsX7_word wsX7_slot := goodIn_k (gi_q bs_wsX7_word_in _ [(0, 21)] rfl) (gi_q bs_wsX7_word_in _ [] rfl)
set_option maxRecDepth 20000 in
theorem gX7_word_X7_slot : GoodIn wsX7_word (va_wsS RX7 133 yX7_slot wsX7_slot) := goodIn_app (gi_q bs_wsX7_word_in _ [(0, 19), (0, 20), (0, 7)] rfl) ggX7_word_X7_slot
def fw_dX7_word_0 : List (Nat × Instr × Nat) := [(0, .aload_n 0, 1), (1, .iload_n 1, 1), (2, .iload_n 2, 1), (3, .invokevirtual 129, 3), (6, .ifCond .ne 10, 3), (9, .aload_n 0, 1), (10, .bipush (-3), 2), (12, .invokevirtual 91, 3), (15, .ireturn, 1), (16, .aload_n 0, 1), (17, .getfield 28, 3), (20, .getfield 172, 3), (23, .iload_n 1, 1), (24, .baload, 1), (25, .ifCond .ne 10, 3), (28, .aload_n 0, 1), (29, .bipush (-2), 2), (31, .invokevirtual 91, 3), (34, .ireturn, 1), (35, .aload_n 0, 1)]
theorem fw_dX7_word_0_c : fchk 0 (cX7_word.data.toList.drop 0) fw_dX7_word_0 = true := by decide +kernel
theorem dX7_word_0 : Eq (decode cX7_word 0) (Except.ok (Instr.aload_n 0, 1)) := fE fw_dX7_word_0_c 0 rfl
theorem dX7_word_1 : Eq (decode cX7_word 1) (Except.ok (Instr.iload_n 1, 1)) := fE fw_dX7_word_0_c 1 rfl
theorem dX7_word_2 : Eq (decode cX7_word 2) (Except.ok (Instr.iload_n 2, 1)) := fE fw_dX7_word_0_c 2 rfl
theorem dX7_word_3 : Eq (decode cX7_word 3) (Except.ok (Instr.invokevirtual 129, 3)) := fE fw_dX7_word_0_c 3 rfl
theorem dX7_word_6 : Eq (decode cX7_word 6) (Except.ok (Instr.ifCond .ne 10, 3)) := fE fw_dX7_word_0_c 4 rfl
theorem dX7_word_9 : Eq (decode cX7_word 9) (Except.ok (Instr.aload_n 0, 1)) := fE fw_dX7_word_0_c 5 rfl
theorem dX7_word_10 : Eq (decode cX7_word 10) (Except.ok (Instr.bipush (-3), 2)) := fE fw_dX7_word_0_c 6 rfl
theorem dX7_word_12 : Eq (decode cX7_word 12) (Except.ok (Instr.invokevirtual 91, 3)) := fE fw_dX7_word_0_c 7 rfl
theorem dX7_word_15 : Eq (decode cX7_word 15) (Except.ok (Instr.ireturn, 1)) := fE fw_dX7_word_0_c 8 rfl
theorem dX7_word_16 : Eq (decode cX7_word 16) (Except.ok (Instr.aload_n 0, 1)) := fE fw_dX7_word_0_c 9 rfl
theorem dX7_word_17 : Eq (decode cX7_word 17) (Except.ok (Instr.getfield 28, 3)) := fE fw_dX7_word_0_c 10 rfl
theorem dX7_word_20 : Eq (decode cX7_word 20) (Except.ok (Instr.getfield 172, 3)) := fE fw_dX7_word_0_c 11 rfl
theorem dX7_word_23 : Eq (decode cX7_word 23) (Except.ok (Instr.iload_n 1, 1)) := fE fw_dX7_word_0_c 12 rfl
theorem dX7_word_24 : Eq (decode cX7_word 24) (Except.ok (Instr.baload, 1)) := fE fw_dX7_word_0_c 13 rfl
theorem dX7_word_25 : Eq (decode cX7_word 25) (Except.ok (Instr.ifCond .ne 10, 3)) := fE fw_dX7_word_0_c 14 rfl
theorem dX7_word_28 : Eq (decode cX7_word 28) (Except.ok (Instr.aload_n 0, 1)) := fE fw_dX7_word_0_c 15 rfl
theorem dX7_word_29 : Eq (decode cX7_word 29) (Except.ok (Instr.bipush (-2), 2)) := fE fw_dX7_word_0_c 16 rfl
theorem dX7_word_31 : Eq (decode cX7_word 31) (Except.ok (Instr.invokevirtual 91, 3)) := fE fw_dX7_word_0_c 17 rfl
theorem dX7_word_34 : Eq (decode cX7_word 34) (Except.ok (Instr.ireturn, 1)) := fE fw_dX7_word_0_c 18 rfl
theorem dX7_word_35 : Eq (decode cX7_word 35) (Except.ok (Instr.aload_n 0, 1)) := fE fw_dX7_word_0_c 19 rfl
def fw_dX7_word_36 : List (Nat × Instr × Nat) := [(36, .getfield 28, 3), (39, .getfield 175, 3), (42, .iload_n 1, 1), (43, .iload_n 2, 1), (44, .invokestatic 133, 3), (47, .iaload, 1), (48, .ireturn, 1)]
theorem fw_dX7_word_36_c : fchk 36 (cX7_word.data.toList.drop 36) fw_dX7_word_36 = true := by decide +kernel
theorem dX7_word_36 : Eq (decode cX7_word 36) (Except.ok (Instr.getfield 28, 3)) := fE fw_dX7_word_36_c 0 rfl
theorem dX7_word_39 : Eq (decode cX7_word 39) (Except.ok (Instr.getfield 175, 3)) := fE fw_dX7_word_36_c 1 rfl
theorem dX7_word_42 : Eq (decode cX7_word 42) (Except.ok (Instr.iload_n 1, 1)) := fE fw_dX7_word_36_c 2 rfl
theorem dX7_word_43 : Eq (decode cX7_word 43) (Except.ok (Instr.iload_n 2, 1)) := fE fw_dX7_word_36_c 3 rfl
theorem dX7_word_44 : Eq (decode cX7_word 44) (Except.ok (Instr.invokestatic 133, 3)) := fE fw_dX7_word_36_c 4 rfl
theorem dX7_word_47 : Eq (decode cX7_word 47) (Except.ok (Instr.iaload, 1)) := fE fw_dX7_word_36_c 5 rfl
theorem dX7_word_48 : Eq (decode cX7_word 48) (Except.ok (Instr.ireturn, 1)) := fE fw_dX7_word_36_c 6 rfl
set_option maxRecDepth 20000 in
theorem gi_wsX7_why_0 : GoodIn wsX7_why wsX7_why_r1 := goodIn_sub (fun w h => List.mem_cons_of_mem _ (List.mem_append_left _ (List.mem_append_left _ (List.mem_append_left _ (List.mem_append_left _ h))))) (by decide +kernel)
set_option maxRecDepth 20000 in
theorem gi_wsX7_why_1 : GoodIn wsX7_why wsX7_why_r2 := goodIn_sub (fun w h => List.mem_cons_of_mem _ (List.mem_append_left _ (List.mem_append_left _ (List.mem_append_left _ (List.mem_append_right _ h))))) (by decide +kernel)
set_option maxRecDepth 20000 in
theorem gi_wsX7_why_2 : GoodIn wsX7_why wsX70 := goodIn_sub (fun w h => List.mem_cons_of_mem _ (List.mem_append_left _ (List.mem_append_left _ (List.mem_append_right _ h)))) (by decide +kernel)
set_option maxRecDepth 20000 in
theorem gi_wsX7_why_3 : GoodIn wsX7_why wsX30 := goodIn_sub (fun w h => List.mem_cons_of_mem _ (List.mem_append_left _ (List.mem_append_right _ h))) (by decide +kernel)
set_option maxRecDepth 20000 in
theorem gi_wsX7_why_4 : GoodIn wsX7_why wsX50 := goodIn_sub (fun w h => List.mem_cons_of_mem _ (List.mem_append_right _ h)) (by decide +kernel)
def bs_wsX7_why : List (List Cond) := [wsX7_why_r1, wsX7_why_r2, wsX70, wsX30, wsX50]
theorem bs_wsX7_why_in : ∀ b ∈ bs_wsX7_why, GoodIn wsX7_why b := List.forall_mem_cons.mpr ⟨gi_wsX7_why_0, List.forall_mem_cons.mpr ⟨gi_wsX7_why_1, List.forall_mem_cons.mpr ⟨gi_wsX7_why_2, List.forall_mem_cons.mpr ⟨gi_wsX7_why_3, List.forall_mem_cons.mpr ⟨gi_wsX7_why_4, (fun _ h => absurd h List.not_mem_nil)⟩⟩⟩⟩⟩
set_option maxRecDepth 20000 in
theorem ggX7_why_X7_hasAct : GoodIn wsX7_why wsX7_hasAct := goodIn_k (gi_q bs_wsX7_why_in _ [(0, 6)] rfl) (goodIn_app (goodIn_app (gi_q bs_wsX7_why_in _ [(0, 7), (0, 8), (0, 9), (0, 10), (0, 5), (0, 11)] rfl) (gi_wsX7_why_2)) (gi_wsX7_why_4))
set_option maxRecDepth 20000 in
theorem gX7_why_X7_hasAct : GoodIn wsX7_why (wsV RX7 129 RX7 yX7_hasAct wsX7_hasAct) := goodIn_app (gi_q bs_wsX7_why_in _ [(0, 2), (0, 3), (0, 4), (0, 5)] rfl) ggX7_why_X7_hasAct
set_option maxRecDepth 20000 in
theorem ggX7_why_X7_refuse : GoodIn wsX7_why wsX7_refuse := goodIn_k (gi_q bs_wsX7_why_in _ [(0, 15)] rfl) (goodIn_app (gi_q bs_wsX7_why_in _ [(0, 16)] rfl) (gi_wsX7_why_2))
set_option maxRecDepth 20000 in
theorem gX7_why_X7_refuse : GoodIn wsX7_why (wsV RX7 91 RX7 yX7_refuse wsX7_refuse) := goodIn_app (gi_q bs_wsX7_why_in _ [(0, 12), (0, 13), (0, 14), (0, 5)] rfl) ggX7_why_X7_refuse
set_option maxRecDepth 20000 in
theorem ggX7_why_X3_holderOf : GoodIn wsX7_why wsX3_holderOf := goodIn_k (gi_q bs_wsX7_why_in _ [(0, 21)] rfl) (goodIn_app (goodIn_app (gi_q bs_wsX7_why_in _ [(0, 22), (0, 23), (1, 0), (0, 5), (1, 1), (1, 2), (1, 3), (1, 4), (1, 5), (1, 6), (1, 7), (1, 8), (1, 9), (1, 10), (1, 11), (1, 12), (1, 13)] rfl) (gi_wsX7_why_3)) (gi_wsX7_why_4))
set_option maxRecDepth 20000 in
theorem gX7_why_X3_holderOf : GoodIn wsX7_why (wsV RX7 178 RX3 yX3_holderOf wsX3_holderOf) := goodIn_app (gi_q bs_wsX7_why_in _ [(0, 17), (0, 18), (0, 19), (0, 20)] rfl) ggX7_why_X3_holderOf
def fw_dX7_why_0 : List (Nat × Instr × Nat) := [(0, .aload_n 0, 1), (1, .iload_n 1, 1), (2, .iload_n 2, 1), (3, .invokevirtual 129, 3), (6, .ifCond .ne 10, 3), (9, .aload_n 0, 1), (10, .bipush (-3), 2), (12, .invokevirtual 91, 3), (15, .ireturn, 1), (16, .aload_n 0, 1), (17, .getfield 28, 3), (20, .getfield 172, 3), (23, .iload_n 1, 1), (24, .baload, 1), (25, .ifCond .ne 10, 3), (28, .aload_n 0, 1), (29, .bipush (-2), 2), (31, .invokevirtual 91, 3), (34, .ireturn, 1), (35, .aload_n 0, 1)]
theorem fw_dX7_why_0_c : fchk 0 (cX7_why.data.toList.drop 0) fw_dX7_why_0 = true := by decide +kernel
theorem dX7_why_0 : Eq (decode cX7_why 0) (Except.ok (Instr.aload_n 0, 1)) := fE fw_dX7_why_0_c 0 rfl
theorem dX7_why_1 : Eq (decode cX7_why 1) (Except.ok (Instr.iload_n 1, 1)) := fE fw_dX7_why_0_c 1 rfl
theorem dX7_why_2 : Eq (decode cX7_why 2) (Except.ok (Instr.iload_n 2, 1)) := fE fw_dX7_why_0_c 2 rfl
theorem dX7_why_3 : Eq (decode cX7_why 3) (Except.ok (Instr.invokevirtual 129, 3)) := fE fw_dX7_why_0_c 3 rfl
theorem dX7_why_6 : Eq (decode cX7_why 6) (Except.ok (Instr.ifCond .ne 10, 3)) := fE fw_dX7_why_0_c 4 rfl
theorem dX7_why_9 : Eq (decode cX7_why 9) (Except.ok (Instr.aload_n 0, 1)) := fE fw_dX7_why_0_c 5 rfl
theorem dX7_why_10 : Eq (decode cX7_why 10) (Except.ok (Instr.bipush (-3), 2)) := fE fw_dX7_why_0_c 6 rfl
theorem dX7_why_12 : Eq (decode cX7_why 12) (Except.ok (Instr.invokevirtual 91, 3)) := fE fw_dX7_why_0_c 7 rfl
theorem dX7_why_15 : Eq (decode cX7_why 15) (Except.ok (Instr.ireturn, 1)) := fE fw_dX7_why_0_c 8 rfl
theorem dX7_why_16 : Eq (decode cX7_why 16) (Except.ok (Instr.aload_n 0, 1)) := fE fw_dX7_why_0_c 9 rfl
theorem dX7_why_17 : Eq (decode cX7_why 17) (Except.ok (Instr.getfield 28, 3)) := fE fw_dX7_why_0_c 10 rfl
theorem dX7_why_20 : Eq (decode cX7_why 20) (Except.ok (Instr.getfield 172, 3)) := fE fw_dX7_why_0_c 11 rfl
theorem dX7_why_23 : Eq (decode cX7_why 23) (Except.ok (Instr.iload_n 1, 1)) := fE fw_dX7_why_0_c 12 rfl
theorem dX7_why_24 : Eq (decode cX7_why 24) (Except.ok (Instr.baload, 1)) := fE fw_dX7_why_0_c 13 rfl
theorem dX7_why_25 : Eq (decode cX7_why 25) (Except.ok (Instr.ifCond .ne 10, 3)) := fE fw_dX7_why_0_c 14 rfl
theorem dX7_why_28 : Eq (decode cX7_why 28) (Except.ok (Instr.aload_n 0, 1)) := fE fw_dX7_why_0_c 15 rfl
theorem dX7_why_29 : Eq (decode cX7_why 29) (Except.ok (Instr.bipush (-2), 2)) := fE fw_dX7_why_0_c 16 rfl
theorem dX7_why_31 : Eq (decode cX7_why 31) (Except.ok (Instr.invokevirtual 91, 3)) := fE fw_dX7_why_0_c 17 rfl
theorem dX7_why_34 : Eq (decode cX7_why 34) (Except.ok (Instr.ireturn, 1)) := fE fw_dX7_why_0_c 18 rfl
theorem dX7_why_35 : Eq (decode cX7_why 35) (Except.ok (Instr.aload_n 0, 1)) := fE fw_dX7_why_0_c 19 rfl
def fw_dX7_why_36 : List (Nat × Instr × Nat) := [(36, .getfield 28, 3), (39, .iload_n 1, 1), (40, .iload_n 2, 1), (41, .invokevirtual 178, 3), (44, .ireturn, 1)]
theorem fw_dX7_why_36_c : fchk 36 (cX7_why.data.toList.drop 36) fw_dX7_why_36 = true := by decide +kernel
theorem dX7_why_36 : Eq (decode cX7_why 36) (Except.ok (Instr.getfield 28, 3)) := fE fw_dX7_why_36_c 0 rfl
theorem dX7_why_39 : Eq (decode cX7_why 39) (Except.ok (Instr.iload_n 1, 1)) := fE fw_dX7_why_36_c 1 rfl
theorem dX7_why_40 : Eq (decode cX7_why 40) (Except.ok (Instr.iload_n 2, 1)) := fE fw_dX7_why_36_c 2 rfl
theorem dX7_why_41 : Eq (decode cX7_why 41) (Except.ok (Instr.invokevirtual 178, 3)) := fE fw_dX7_why_36_c 3 rfl
theorem dX7_why_44 : Eq (decode cX7_why 44) (Except.ok (Instr.ireturn, 1)) := fE fw_dX7_why_36_c 4 rfl
set_option maxRecDepth 20000 in
theorem gi_wsX7_store_0 : GoodIn wsX7_store wsX7_store_r1 := goodIn_sub (fun w h => List.mem_cons_of_mem _ (List.mem_append_left _ (List.mem_append_left _ (List.mem_append_left _ (List.mem_append_left _ (List.mem_append_left _ (List.mem_append_left _ (List.mem_append_left _ h)))))))) (by decide +kernel)
set_option maxRecDepth 20000 in
theorem gi_wsX7_store_1 : GoodIn wsX7_store wsX7_store_r2 := goodIn_sub (fun w h => List.mem_cons_of_mem _ (List.mem_append_left _ (List.mem_append_left _ (List.mem_append_left _ (List.mem_append_left _ (List.mem_append_left _ (List.mem_append_left _ (List.mem_append_right _ (List.mem_append_left _ h))))))))) (by decide +kernel)
set_option maxRecDepth 20000 in
theorem gi_wsX7_store_2 : GoodIn wsX7_store wsX7_store_r3 := goodIn_sub (fun w h => List.mem_cons_of_mem _ (List.mem_append_left _ (List.mem_append_left _ (List.mem_append_left _ (List.mem_append_left _ (List.mem_append_left _ (List.mem_append_left _ (List.mem_append_right _ (List.mem_append_right _ (List.mem_append_left _ h)))))))))) (by decide +kernel)
set_option maxRecDepth 20000 in
theorem gi_wsX7_store_3 : GoodIn wsX7_store wsX7_store_r4 := goodIn_sub (fun w h => List.mem_cons_of_mem _ (List.mem_append_left _ (List.mem_append_left _ (List.mem_append_left _ (List.mem_append_left _ (List.mem_append_left _ (List.mem_append_left _ (List.mem_append_right _ (List.mem_append_right _ (List.mem_append_right _ (List.mem_append_left _ h))))))))))) (by decide +kernel)
set_option maxRecDepth 20000 in
theorem gi_wsX7_store_4 : GoodIn wsX7_store wsX7_store_r5 := goodIn_sub (fun w h => List.mem_cons_of_mem _ (List.mem_append_left _ (List.mem_append_left _ (List.mem_append_left _ (List.mem_append_left _ (List.mem_append_left _ (List.mem_append_left _ (List.mem_append_right _ (List.mem_append_right _ (List.mem_append_right _ (List.mem_append_right _ (List.mem_append_left _ h)))))))))))) (by decide +kernel)
set_option maxRecDepth 20000 in
theorem gi_wsX7_store_5 : GoodIn wsX7_store wsX7_store_r6 := goodIn_sub (fun w h => List.mem_cons_of_mem _ (List.mem_append_left _ (List.mem_append_left _ (List.mem_append_left _ (List.mem_append_left _ (List.mem_append_left _ (List.mem_append_left _ (List.mem_append_right _ (List.mem_append_right _ (List.mem_append_right _ (List.mem_append_right _ (List.mem_append_right _ (List.mem_append_left _ h))))))))))))) (by decide +kernel)
set_option maxRecDepth 20000 in
theorem gi_wsX7_store_6 : GoodIn wsX7_store wsX7_store_r7 := goodIn_sub (fun w h => List.mem_cons_of_mem _ (List.mem_append_left _ (List.mem_append_left _ (List.mem_append_left _ (List.mem_append_left _ (List.mem_append_left _ (List.mem_append_left _ (List.mem_append_right _ (List.mem_append_right _ (List.mem_append_right _ (List.mem_append_right _ (List.mem_append_right _ (List.mem_append_right _ (List.mem_append_left _ h)))))))))))))) (by decide +kernel)
set_option maxRecDepth 20000 in
theorem gi_wsX7_store_7 : GoodIn wsX7_store wsX7_store_r8 := goodIn_sub (fun w h => List.mem_cons_of_mem _ (List.mem_append_left _ (List.mem_append_left _ (List.mem_append_left _ (List.mem_append_left _ (List.mem_append_left _ (List.mem_append_left _ (List.mem_append_right _ (List.mem_append_right _ (List.mem_append_right _ (List.mem_append_right _ (List.mem_append_right _ (List.mem_append_right _ (List.mem_append_right _ h)))))))))))))) (by decide +kernel)
set_option maxRecDepth 20000 in
theorem gi_wsX7_store_8 : GoodIn wsX7_store wsX70 := goodIn_sub (fun w h => List.mem_cons_of_mem _ (List.mem_append_left _ (List.mem_append_left _ (List.mem_append_left _ (List.mem_append_left _ (List.mem_append_left _ (List.mem_append_right _ h))))))) (by decide +kernel)
set_option maxRecDepth 20000 in
theorem gi_wsX7_store_9 : GoodIn wsX7_store wsX40 := goodIn_sub (fun w h => List.mem_cons_of_mem _ (List.mem_append_left _ (List.mem_append_left _ (List.mem_append_left _ (List.mem_append_left _ (List.mem_append_right _ h)))))) (by decide +kernel)
set_option maxRecDepth 20000 in
theorem gi_wsX7_store_10 : GoodIn wsX7_store wsX30 := goodIn_sub (fun w h => List.mem_cons_of_mem _ (List.mem_append_left _ (List.mem_append_left _ (List.mem_append_left _ (List.mem_append_right _ h))))) (by decide +kernel)
set_option maxRecDepth 20000 in
theorem gi_wsX7_store_11 : GoodIn wsX7_store wsX60 := goodIn_sub (fun w h => List.mem_cons_of_mem _ (List.mem_append_left _ (List.mem_append_left _ (List.mem_append_right _ h)))) (by decide +kernel)
set_option maxRecDepth 20000 in
theorem gi_wsX7_store_12 : GoodIn wsX7_store wsX50 := goodIn_sub (fun w h => List.mem_cons_of_mem _ (List.mem_append_left _ (List.mem_append_right _ h))) (by decide +kernel)
set_option maxRecDepth 20000 in
theorem gi_wsX7_store_13 : GoodIn wsX7_store wsX10 := goodIn_sub (fun w h => List.mem_cons_of_mem _ (List.mem_append_right _ h)) (by decide +kernel)
def bs_wsX7_store : List (List Cond) := [wsX7_store_r1, wsX7_store_r2, wsX7_store_r3, wsX7_store_r4, wsX7_store_r5, wsX7_store_r6, wsX7_store_r7, wsX7_store_r8, wsX70, wsX40, wsX30, wsX60, wsX50, wsX10]
theorem bs_wsX7_store_in : ∀ b ∈ bs_wsX7_store, GoodIn wsX7_store b := List.forall_mem_cons.mpr ⟨gi_wsX7_store_0, List.forall_mem_cons.mpr ⟨gi_wsX7_store_1, List.forall_mem_cons.mpr ⟨gi_wsX7_store_2, List.forall_mem_cons.mpr ⟨gi_wsX7_store_3, List.forall_mem_cons.mpr ⟨gi_wsX7_store_4, List.forall_mem_cons.mpr ⟨gi_wsX7_store_5, List.forall_mem_cons.mpr ⟨gi_wsX7_store_6, List.forall_mem_cons.mpr ⟨gi_wsX7_store_7, List.forall_mem_cons.mpr ⟨gi_wsX7_store_8, List.forall_mem_cons.mpr ⟨gi_wsX7_store_9, List.forall_mem_cons.mpr ⟨gi_wsX7_store_10, List.forall_mem_cons.mpr ⟨gi_wsX7_store_11, List.forall_mem_cons.mpr ⟨gi_wsX7_store_12, List.forall_mem_cons.mpr ⟨gi_wsX7_store_13, (fun _ h => absurd h List.not_mem_nil)⟩⟩⟩⟩⟩⟩⟩⟩⟩⟩⟩⟩⟩⟩
set_option maxRecDepth 20000 in
theorem ggX7_store_X3_make : GoodIn wsX7_store wsX3_make := goodIn_k (gi_q bs_wsX7_store_in _ [(0, 9)] rfl) (goodIn_app (goodIn_app (goodIn_app (goodIn_app (gi_q bs_wsX7_store_in _ [(0, 10), (0, 11), (0, 12), (0, 13), (0, 14), (0, 15), (0, 16), (0, 17), (0, 18), (0, 19), (0, 20), (0, 21), (0, 22), (0, 23), (1, 0), (1, 1), (1, 2), (1, 3), (1, 4), (1, 5), (1, 6), (1, 7), (1, 8), (1, 9)] rfl) (goodIn_app (gi_q bs_wsX7_store_in _ [(1, 10), (1, 11), (1, 12), (1, 13), (1, 14), (1, 15), (1, 16), (1, 17), (1, 18), (1, 19), (1, 20), (1, 21), (1, 22), (1, 23), (2, 0), (2, 1), (2, 2), (2, 3), (2, 4), (2, 5), (2, 6), (2, 7), (2, 8), (2, 9)] rfl) (goodIn_app (gi_q bs_wsX7_store_in _ [(2, 10), (2, 11), (2, 12), (2, 13), (2, 14), (2, 15), (2, 16), (2, 17), (2, 18), (2, 19), (2, 20), (2, 21), (2, 22), (2, 23), (3, 0), (3, 1), (3, 2), (3, 3), (3, 4), (3, 5), (3, 6), (3, 7), (3, 8), (3, 9)] rfl) (gi_q bs_wsX7_store_in _ [(3, 10), (3, 11), (3, 12), (3, 13), (3, 14), (3, 15), (3, 16), (3, 17), (3, 18), (3, 19), (3, 20), (3, 21), (3, 22), (3, 23)] rfl)))) (gi_wsX7_store_10)) (gi_wsX7_store_11)) (gi_wsX7_store_12))
set_option maxRecDepth 20000 in
theorem gX7_store_X3_make : GoodIn wsX7_store (wsV RX7 168 RX3 yX3_make wsX3_make) := goodIn_app (gi_q bs_wsX7_store_in _ [(0, 5), (0, 6), (0, 7), (0, 8)] rfl) ggX7_store_X3_make
set_option maxRecDepth 20000 in
theorem ggX7_store_X4_make : GoodIn wsX7_store wsX4_make := goodIn_k (gi_q bs_wsX7_store_in _ [(4, 4)] rfl) (goodIn_app (goodIn_app (goodIn_app (goodIn_app (gi_q bs_wsX7_store_in _ [(4, 5), (4, 6), (4, 7), (4, 8), (4, 9), (4, 10), (4, 11), (1, 13), (1, 14), (1, 15), (4, 12), (4, 13), (4, 14), (4, 3), (4, 15), (4, 16), (4, 17), (4, 18), (4, 19), (4, 20), (4, 21), (4, 22), (4, 23), (5, 0)] rfl) (gi_q bs_wsX7_store_in _ [(3, 4), (3, 5), (3, 6), (3, 7), (3, 8), (3, 9), (3, 10), (3, 11), (5, 1), (5, 2), (5, 3), (5, 4), (5, 5), (5, 6), (1, 19), (5, 7), (1, 21), (5, 8), (5, 9), (5, 10)] rfl)) (gi_wsX7_store_9)) (gi_wsX7_store_10)) (gi_wsX7_store_12))
set_option maxRecDepth 20000 in
theorem gX7_store_X4_make : GoodIn wsX7_store (wsV RX7 181 RX4 yX4_make wsX4_make) := goodIn_app (gi_q bs_wsX7_store_in _ [(4, 0), (4, 1), (4, 2), (4, 3)] rfl) ggX7_store_X4_make
set_option maxRecDepth 20000 in
theorem ggX7_store_X1_make : GoodIn wsX7_store wsX1_make := goodIn_k (gi_q bs_wsX7_store_in _ [(5, 15)] rfl) (goodIn_app (goodIn_app (goodIn_app (goodIn_app (gi_q bs_wsX7_store_in _ [(5, 16), (5, 17), (5, 18), (5, 19), (5, 20), (5, 21), (5, 22), (5, 23), (6, 0), (6, 1), (6, 2), (1, 10), (1, 11), (1, 12), (6, 3), (6, 4), (6, 5), (5, 14), (6, 6), (6, 7), (3, 10), (1, 14), (3, 11), (1, 13)] rfl) (goodIn_app (gi_q bs_wsX7_store_in _ [(1, 15), (6, 8), (1, 17), (1, 18), (1, 19), (1, 20), (1, 21), (6, 9), (6, 10), (6, 11), (6, 12), (6, 13), (6, 14), (6, 15), (5, 5), (5, 6), (5, 7), (5, 8), (5, 9), (5, 10), (6, 16), (6, 17), (6, 18), (6, 19)] rfl) (gi_q bs_wsX7_store_in _ [(6, 20), (6, 21), (6, 22), (6, 23), (7, 0), (7, 1), (7, 2), (2, 6), (2, 7), (2, 8), (7, 3), (7, 4), (7, 5), (7, 6), (7, 7), (7, 8), (7, 9)] rfl))) (gi_wsX7_store_13)) (gi_wsX7_store_9)) (gi_wsX7_store_12))
set_option maxRecDepth 20000 in
theorem gX7_store_X1_make : GoodIn wsX7_store (wsV RX7 183 RX1 yX1_make wsX1_make) := goodIn_app (gi_q bs_wsX7_store_in _ [(5, 11), (5, 12), (5, 13), (5, 14)] rfl) ggX7_store_X1_make
def fw_dX7_store_0 : List (Nat × Instr × Nat) := [(0, .aload_n 0, 1), (1, .getfield 37, 3), (4, .getfield 161, 3), (7, .ifCond .ne 39, 3), (10, .iconst 0, 1), (11, .istore_n 1, 1), (12, .iload_n 1, 1), (13, .bipush 12, 2), (15, .if_icmp .ge 17, 3), (18, .aload_n 0, 1), (19, .getfield 28, 3), (22, .iload_n 1, 1), (23, .invokevirtual 168, 3)]
theorem fw_dX7_store_0_c : fchk 0 (cX7_store.data.toList.drop 0) fw_dX7_store_0 = true := by decide +kernel
theorem dX7_store_0 : Eq (decode cX7_store 0) (Except.ok (Instr.aload_n 0, 1)) := fE fw_dX7_store_0_c 0 rfl
theorem dX7_store_1 : Eq (decode cX7_store 1) (Except.ok (Instr.getfield 37, 3)) := fE fw_dX7_store_0_c 1 rfl
theorem dX7_store_4 : Eq (decode cX7_store 4) (Except.ok (Instr.getfield 161, 3)) := fE fw_dX7_store_0_c 2 rfl
theorem dX7_store_7 : Eq (decode cX7_store 7) (Except.ok (Instr.ifCond .ne 39, 3)) := fE fw_dX7_store_0_c 3 rfl
theorem dX7_store_10 : Eq (decode cX7_store 10) (Except.ok (Instr.iconst 0, 1)) := fE fw_dX7_store_0_c 4 rfl
theorem dX7_store_11 : Eq (decode cX7_store 11) (Except.ok (Instr.istore_n 1, 1)) := fE fw_dX7_store_0_c 5 rfl
theorem dX7_store_12 : Eq (decode cX7_store 12) (Except.ok (Instr.iload_n 1, 1)) := fE fw_dX7_store_0_c 6 rfl
theorem dX7_store_13 : Eq (decode cX7_store 13) (Except.ok (Instr.bipush 12, 2)) := fE fw_dX7_store_0_c 7 rfl
theorem dX7_store_15 : Eq (decode cX7_store 15) (Except.ok (Instr.if_icmp .ge 17, 3)) := fE fw_dX7_store_0_c 8 rfl
theorem dX7_store_18 : Eq (decode cX7_store 18) (Except.ok (Instr.aload_n 0, 1)) := fE fw_dX7_store_0_c 9 rfl
theorem dX7_store_19 : Eq (decode cX7_store 19) (Except.ok (Instr.getfield 28, 3)) := fE fw_dX7_store_0_c 10 rfl
theorem dX7_store_22 : Eq (decode cX7_store 22) (Except.ok (Instr.iload_n 1, 1)) := fE fw_dX7_store_0_c 11 rfl
theorem dX7_store_23 : Eq (decode cX7_store 23) (Except.ok (Instr.invokevirtual 168, 3)) := fE fw_dX7_store_0_c 12 rfl
theorem dX7_store_26 : decode cX7_store 26 = .ok (.iinc 1 1, 3) := by decide +kernel
def fw_dX7_store_29 : List (Nat × Instr × Nat) := [(29, .goto (-17), 3), (32, .aload_n 0, 1), (33, .getfield 37, 3), (36, .invokevirtual 181, 3), (39, .aload_n 0, 1), (40, .getfield 46, 3), (43, .invokevirtual 183, 3), (46, .aload_n 0, 1), (47, .getfield 37, 3), (50, .getfield 184, 3), (53, .ireturn, 1)]
theorem fw_dX7_store_29_c : fchk 29 (cX7_store.data.toList.drop 29) fw_dX7_store_29 = true := by decide +kernel
theorem dX7_store_29 : Eq (decode cX7_store 29) (Except.ok (Instr.goto (-17), 3)) := fE fw_dX7_store_29_c 0 rfl
theorem dX7_store_32 : Eq (decode cX7_store 32) (Except.ok (Instr.aload_n 0, 1)) := fE fw_dX7_store_29_c 1 rfl
theorem dX7_store_33 : Eq (decode cX7_store 33) (Except.ok (Instr.getfield 37, 3)) := fE fw_dX7_store_29_c 2 rfl
theorem dX7_store_36 : Eq (decode cX7_store 36) (Except.ok (Instr.invokevirtual 181, 3)) := fE fw_dX7_store_29_c 3 rfl
theorem dX7_store_39 : Eq (decode cX7_store 39) (Except.ok (Instr.aload_n 0, 1)) := fE fw_dX7_store_29_c 4 rfl
theorem dX7_store_40 : Eq (decode cX7_store 40) (Except.ok (Instr.getfield 46, 3)) := fE fw_dX7_store_29_c 5 rfl
theorem dX7_store_43 : Eq (decode cX7_store 43) (Except.ok (Instr.invokevirtual 183, 3)) := fE fw_dX7_store_29_c 6 rfl
theorem dX7_store_46 : Eq (decode cX7_store 46) (Except.ok (Instr.aload_n 0, 1)) := fE fw_dX7_store_29_c 7 rfl
theorem dX7_store_47 : Eq (decode cX7_store 47) (Except.ok (Instr.getfield 37, 3)) := fE fw_dX7_store_29_c 8 rfl
theorem dX7_store_50 : Eq (decode cX7_store 50) (Except.ok (Instr.getfield 184, 3)) := fE fw_dX7_store_29_c 9 rfl
theorem dX7_store_53 : Eq (decode cX7_store 53) (Except.ok (Instr.ireturn, 1)) := fE fw_dX7_store_29_c 10 rfl
set_option maxRecDepth 20000 in
theorem gi_wsX7_place_0 : GoodIn wsX7_place wsX7_place := goodIn_sub (fun _ h => h) (by decide +kernel)
set_option maxRecDepth 20000 in
theorem gi_wsX7_place_1 : GoodIn wsX7_place wsX70 := goodIn_sub (fun w h => List.mem_cons_of_mem _ (List.mem_append_left _ (List.mem_append_left _ (List.mem_append_right _ h)))) (by decide +kernel)
set_option maxRecDepth 20000 in
theorem gi_wsX7_place_2 : GoodIn wsX7_place wsX40 := goodIn_sub (fun w h => List.mem_cons_of_mem _ (List.mem_append_left _ (List.mem_append_right _ h))) (by decide +kernel)
set_option maxRecDepth 20000 in
theorem gi_wsX7_place_3 : GoodIn wsX7_place wsX30 := goodIn_sub (fun w h => List.mem_cons_of_mem _ (List.mem_append_right _ h)) (by decide +kernel)
def bs_wsX7_place : List (List Cond) := [wsX7_place, wsX70, wsX40, wsX30]
theorem bs_wsX7_place_in : ∀ b ∈ bs_wsX7_place, GoodIn wsX7_place b := List.forall_mem_cons.mpr ⟨gi_wsX7_place_0, List.forall_mem_cons.mpr ⟨gi_wsX7_place_1, List.forall_mem_cons.mpr ⟨gi_wsX7_place_2, List.forall_mem_cons.mpr ⟨gi_wsX7_place_3, (fun _ h => absurd h List.not_mem_nil)⟩⟩⟩⟩
set_option maxRecDepth 20000 in
theorem ggX7_place_X7_isInstruction : GoodIn wsX7_place wsX7_isInstruction := goodIn_k (gi_q bs_wsX7_place_in _ [(0, 9)] rfl) (gi_q bs_wsX7_place_in _ [] rfl)
set_option maxRecDepth 20000 in
theorem gX7_place_X7_isInstruction : GoodIn wsX7_place (va_wsS RX7 111 yX7_isInstruction wsX7_isInstruction) := goodIn_app (gi_q bs_wsX7_place_in _ [(0, 6), (0, 7), (0, 8)] rfl) ggX7_place_X7_isInstruction
set_option maxRecDepth 20000 in
theorem ggX7_place_X7_refuse : GoodIn wsX7_place wsX7_refuse := goodIn_k (gi_q bs_wsX7_place_in _ [(0, 13)] rfl) (goodIn_app (gi_q bs_wsX7_place_in _ [(0, 14)] rfl) (gi_wsX7_place_1))
set_option maxRecDepth 20000 in
theorem gX7_place_X7_refuse : GoodIn wsX7_place (wsV RX7 91 RX7 yX7_refuse wsX7_refuse) := goodIn_app (gi_q bs_wsX7_place_in _ [(0, 10), (0, 11), (0, 12), (0, 8)] rfl) ggX7_place_X7_refuse
set_option maxRecDepth 20000 in
theorem ggX7_place_X7_slot : GoodIn wsX7_place wsX7_slot := goodIn_k (gi_q bs_wsX7_place_in _ [(0, 17)] rfl) (gi_q bs_wsX7_place_in _ [] rfl)
set_option maxRecDepth 20000 in
theorem gX7_place_X7_slot : GoodIn wsX7_place (va_wsS RX7 133 yX7_slot wsX7_slot) := goodIn_app (gi_q bs_wsX7_place_in _ [(0, 15), (0, 16), (0, 8)] rfl) ggX7_place_X7_slot
def fw_dX7_place_0 : List (Nat × Instr × Nat) := [(0, .iload_n 1, 1), (1, .invokestatic 111, 3), (4, .ifCond .ne 10, 3), (7, .aload_n 0, 1), (8, .bipush (-3), 2), (10, .invokevirtual 91, 3), (13, .ireturn, 1), (14, .aload_n 0, 1), (15, .getfield 37, 3), (18, .getfield 161, 3), (21, .ifCond .ne 10, 3), (24, .aload_n 0, 1), (25, .bipush (-2), 2), (27, .invokevirtual 91, 3), (30, .ireturn, 1), (31, .iload_n 2, 1), (32, .ifCond .lt 16, 3), (35, .iload_n 2, 1), (36, .aload_n 0, 1), (37, .getfield 28, 3)]
theorem fw_dX7_place_0_c : fchk 0 (cX7_place.data.toList.drop 0) fw_dX7_place_0 = true := by decide +kernel
theorem dX7_place_0 : Eq (decode cX7_place 0) (Except.ok (Instr.iload_n 1, 1)) := fE fw_dX7_place_0_c 0 rfl
theorem dX7_place_1 : Eq (decode cX7_place 1) (Except.ok (Instr.invokestatic 111, 3)) := fE fw_dX7_place_0_c 1 rfl
theorem dX7_place_4 : Eq (decode cX7_place 4) (Except.ok (Instr.ifCond .ne 10, 3)) := fE fw_dX7_place_0_c 2 rfl
theorem dX7_place_7 : Eq (decode cX7_place 7) (Except.ok (Instr.aload_n 0, 1)) := fE fw_dX7_place_0_c 3 rfl
theorem dX7_place_8 : Eq (decode cX7_place 8) (Except.ok (Instr.bipush (-3), 2)) := fE fw_dX7_place_0_c 4 rfl
theorem dX7_place_10 : Eq (decode cX7_place 10) (Except.ok (Instr.invokevirtual 91, 3)) := fE fw_dX7_place_0_c 5 rfl
theorem dX7_place_13 : Eq (decode cX7_place 13) (Except.ok (Instr.ireturn, 1)) := fE fw_dX7_place_0_c 6 rfl
theorem dX7_place_14 : Eq (decode cX7_place 14) (Except.ok (Instr.aload_n 0, 1)) := fE fw_dX7_place_0_c 7 rfl
theorem dX7_place_15 : Eq (decode cX7_place 15) (Except.ok (Instr.getfield 37, 3)) := fE fw_dX7_place_0_c 8 rfl
theorem dX7_place_18 : Eq (decode cX7_place 18) (Except.ok (Instr.getfield 161, 3)) := fE fw_dX7_place_0_c 9 rfl
theorem dX7_place_21 : Eq (decode cX7_place 21) (Except.ok (Instr.ifCond .ne 10, 3)) := fE fw_dX7_place_0_c 10 rfl
theorem dX7_place_24 : Eq (decode cX7_place 24) (Except.ok (Instr.aload_n 0, 1)) := fE fw_dX7_place_0_c 11 rfl
theorem dX7_place_25 : Eq (decode cX7_place 25) (Except.ok (Instr.bipush (-2), 2)) := fE fw_dX7_place_0_c 12 rfl
theorem dX7_place_27 : Eq (decode cX7_place 27) (Except.ok (Instr.invokevirtual 91, 3)) := fE fw_dX7_place_0_c 13 rfl
theorem dX7_place_30 : Eq (decode cX7_place 30) (Except.ok (Instr.ireturn, 1)) := fE fw_dX7_place_0_c 14 rfl
theorem dX7_place_31 : Eq (decode cX7_place 31) (Except.ok (Instr.iload_n 2, 1)) := fE fw_dX7_place_0_c 15 rfl
theorem dX7_place_32 : Eq (decode cX7_place 32) (Except.ok (Instr.ifCond .lt 16, 3)) := fE fw_dX7_place_0_c 16 rfl
theorem dX7_place_35 : Eq (decode cX7_place 35) (Except.ok (Instr.iload_n 2, 1)) := fE fw_dX7_place_0_c 17 rfl
theorem dX7_place_36 : Eq (decode cX7_place 36) (Except.ok (Instr.aload_n 0, 1)) := fE fw_dX7_place_0_c 18 rfl
theorem dX7_place_37 : Eq (decode cX7_place 37) (Except.ok (Instr.getfield 28, 3)) := fE fw_dX7_place_0_c 19 rfl
def fw_dX7_place_40 : List (Nat × Instr × Nat) := [(40, .getfield 171, 3), (43, .iload_n 1, 1), (44, .iaload, 1), (45, .if_icmp .lt 10, 3), (48, .aload_n 0, 1), (49, .bipush (-3), 2), (51, .invokevirtual 91, 3), (54, .ireturn, 1), (55, .aload_n 0, 1), (56, .getfield 37, 3), (59, .getfield 187, 3), (62, .iload_n 1, 1), (63, .iload_n 2, 1), (64, .invokestatic 133, 3), (67, .iaload, 1), (68, .ireturn, 1)]
theorem fw_dX7_place_40_c : fchk 40 (cX7_place.data.toList.drop 40) fw_dX7_place_40 = true := by decide +kernel
theorem dX7_place_40 : Eq (decode cX7_place 40) (Except.ok (Instr.getfield 171, 3)) := fE fw_dX7_place_40_c 0 rfl
theorem dX7_place_43 : Eq (decode cX7_place 43) (Except.ok (Instr.iload_n 1, 1)) := fE fw_dX7_place_40_c 1 rfl
theorem dX7_place_44 : Eq (decode cX7_place 44) (Except.ok (Instr.iaload, 1)) := fE fw_dX7_place_40_c 2 rfl
theorem dX7_place_45 : Eq (decode cX7_place 45) (Except.ok (Instr.if_icmp .lt 10, 3)) := fE fw_dX7_place_40_c 3 rfl
theorem dX7_place_48 : Eq (decode cX7_place 48) (Except.ok (Instr.aload_n 0, 1)) := fE fw_dX7_place_40_c 4 rfl
theorem dX7_place_49 : Eq (decode cX7_place 49) (Except.ok (Instr.bipush (-3), 2)) := fE fw_dX7_place_40_c 5 rfl
theorem dX7_place_51 : Eq (decode cX7_place 51) (Except.ok (Instr.invokevirtual 91, 3)) := fE fw_dX7_place_40_c 6 rfl
theorem dX7_place_54 : Eq (decode cX7_place 54) (Except.ok (Instr.ireturn, 1)) := fE fw_dX7_place_40_c 7 rfl
theorem dX7_place_55 : Eq (decode cX7_place 55) (Except.ok (Instr.aload_n 0, 1)) := fE fw_dX7_place_40_c 8 rfl
theorem dX7_place_56 : Eq (decode cX7_place 56) (Except.ok (Instr.getfield 37, 3)) := fE fw_dX7_place_40_c 9 rfl
theorem dX7_place_59 : Eq (decode cX7_place 59) (Except.ok (Instr.getfield 187, 3)) := fE fw_dX7_place_40_c 10 rfl
theorem dX7_place_62 : Eq (decode cX7_place 62) (Except.ok (Instr.iload_n 1, 1)) := fE fw_dX7_place_40_c 11 rfl
theorem dX7_place_63 : Eq (decode cX7_place 63) (Except.ok (Instr.iload_n 2, 1)) := fE fw_dX7_place_40_c 12 rfl
theorem dX7_place_64 : Eq (decode cX7_place 64) (Except.ok (Instr.invokestatic 133, 3)) := fE fw_dX7_place_40_c 13 rfl
theorem dX7_place_67 : Eq (decode cX7_place 67) (Except.ok (Instr.iaload, 1)) := fE fw_dX7_place_40_c 14 rfl
theorem dX7_place_68 : Eq (decode cX7_place 68) (Except.ok (Instr.ireturn, 1)) := fE fw_dX7_place_40_c 15 rfl
set_option maxRecDepth 20000 in
theorem gi_wsX7_at_0 : GoodIn wsX7_at wsX7_at := goodIn_sub (fun _ h => h) (by decide +kernel)
set_option maxRecDepth 20000 in
theorem gi_wsX7_at_1 : GoodIn wsX7_at wsX70 := goodIn_sub (fun w h => List.mem_cons_of_mem _ (List.mem_append_left _ (List.mem_append_right _ h))) (by decide +kernel)
set_option maxRecDepth 20000 in
theorem gi_wsX7_at_2 : GoodIn wsX7_at wsX40 := goodIn_sub (fun w h => List.mem_cons_of_mem _ (List.mem_append_right _ h)) (by decide +kernel)
def bs_wsX7_at : List (List Cond) := [wsX7_at, wsX70, wsX40]
theorem bs_wsX7_at_in : ∀ b ∈ bs_wsX7_at, GoodIn wsX7_at b := List.forall_mem_cons.mpr ⟨gi_wsX7_at_0, List.forall_mem_cons.mpr ⟨gi_wsX7_at_1, List.forall_mem_cons.mpr ⟨gi_wsX7_at_2, (fun _ h => absurd h List.not_mem_nil)⟩⟩⟩
set_option maxRecDepth 20000 in
theorem ggX7_at_X7_refuse : GoodIn wsX7_at wsX7_refuse := goodIn_k (gi_q bs_wsX7_at_in _ [(0, 11)] rfl) (goodIn_app (gi_q bs_wsX7_at_in _ [(0, 12)] rfl) (gi_wsX7_at_1))
set_option maxRecDepth 20000 in
theorem gX7_at_X7_refuse : GoodIn wsX7_at (wsV RX7 91 RX7 yX7_refuse wsX7_refuse) := goodIn_app (gi_q bs_wsX7_at_in _ [(0, 7), (0, 8), (0, 9), (0, 10)] rfl) ggX7_at_X7_refuse
set_option maxRecDepth 20000 in
theorem ggX7_at_J6_bitCount_0f7a4 : GoodIn wsX7_at wsJ6_bitCount_0f7a4 := goodIn_k (gi_q bs_wsX7_at_in _ [(0, 16)] rfl) (gi_q bs_wsX7_at_in _ [(0, 17), (0, 18), (0, 19)] rfl)
set_option maxRecDepth 20000 in
theorem gX7_at_J6_bitCount_0f7a4 : GoodIn wsX7_at (va_wsS RX7 193 yJ6_bitCount_0f7a4 wsJ6_bitCount_0f7a4) := goodIn_app (gi_q bs_wsX7_at_in _ [(0, 13), (0, 14), (0, 15)] rfl) ggX7_at_J6_bitCount_0f7a4
def fw_dX7_at_0 : List (Nat × Instr × Nat) := [(0, .aload_n 0, 1), (1, .getfield 37, 3), (4, .getfield 161, 3), (7, .ifCond .ne 10, 3), (10, .aload_n 0, 1), (11, .bipush (-2), 2), (13, .invokevirtual 91, 3), (16, .ireturn, 1), (17, .iload_n 1, 1), (18, .ifCond .lt 14, 3), (21, .iload_n 1, 1), (22, .aload_n 0, 1), (23, .getfield 37, 3), (26, .getfield 184, 3), (29, .if_icmp .lt 10, 3), (32, .aload_n 0, 1), (33, .bipush (-3), 2), (35, .invokevirtual 91, 3), (38, .ireturn, 1), (39, .iload_n 2, 1)]
theorem fw_dX7_at_0_c : fchk 0 (cX7_at.data.toList.drop 0) fw_dX7_at_0 = true := by decide +kernel
theorem dX7_at_0 : Eq (decode cX7_at 0) (Except.ok (Instr.aload_n 0, 1)) := fE fw_dX7_at_0_c 0 rfl
theorem dX7_at_1 : Eq (decode cX7_at 1) (Except.ok (Instr.getfield 37, 3)) := fE fw_dX7_at_0_c 1 rfl
theorem dX7_at_4 : Eq (decode cX7_at 4) (Except.ok (Instr.getfield 161, 3)) := fE fw_dX7_at_0_c 2 rfl
theorem dX7_at_7 : Eq (decode cX7_at 7) (Except.ok (Instr.ifCond .ne 10, 3)) := fE fw_dX7_at_0_c 3 rfl
theorem dX7_at_10 : Eq (decode cX7_at 10) (Except.ok (Instr.aload_n 0, 1)) := fE fw_dX7_at_0_c 4 rfl
theorem dX7_at_11 : Eq (decode cX7_at 11) (Except.ok (Instr.bipush (-2), 2)) := fE fw_dX7_at_0_c 5 rfl
theorem dX7_at_13 : Eq (decode cX7_at 13) (Except.ok (Instr.invokevirtual 91, 3)) := fE fw_dX7_at_0_c 6 rfl
theorem dX7_at_16 : Eq (decode cX7_at 16) (Except.ok (Instr.ireturn, 1)) := fE fw_dX7_at_0_c 7 rfl
theorem dX7_at_17 : Eq (decode cX7_at 17) (Except.ok (Instr.iload_n 1, 1)) := fE fw_dX7_at_0_c 8 rfl
theorem dX7_at_18 : Eq (decode cX7_at 18) (Except.ok (Instr.ifCond .lt 14, 3)) := fE fw_dX7_at_0_c 9 rfl
theorem dX7_at_21 : Eq (decode cX7_at 21) (Except.ok (Instr.iload_n 1, 1)) := fE fw_dX7_at_0_c 10 rfl
theorem dX7_at_22 : Eq (decode cX7_at 22) (Except.ok (Instr.aload_n 0, 1)) := fE fw_dX7_at_0_c 11 rfl
theorem dX7_at_23 : Eq (decode cX7_at 23) (Except.ok (Instr.getfield 37, 3)) := fE fw_dX7_at_0_c 12 rfl
theorem dX7_at_26 : Eq (decode cX7_at 26) (Except.ok (Instr.getfield 184, 3)) := fE fw_dX7_at_0_c 13 rfl
theorem dX7_at_29 : Eq (decode cX7_at 29) (Except.ok (Instr.if_icmp .lt 10, 3)) := fE fw_dX7_at_0_c 14 rfl
theorem dX7_at_32 : Eq (decode cX7_at 32) (Except.ok (Instr.aload_n 0, 1)) := fE fw_dX7_at_0_c 15 rfl
theorem dX7_at_33 : Eq (decode cX7_at 33) (Except.ok (Instr.bipush (-3), 2)) := fE fw_dX7_at_0_c 16 rfl
theorem dX7_at_35 : Eq (decode cX7_at 35) (Except.ok (Instr.invokevirtual 91, 3)) := fE fw_dX7_at_0_c 17 rfl
theorem dX7_at_38 : Eq (decode cX7_at 38) (Except.ok (Instr.ireturn, 1)) := fE fw_dX7_at_0_c 18 rfl
theorem dX7_at_39 : Eq (decode cX7_at 39) (Except.ok (Instr.iload_n 2, 1)) := fE fw_dX7_at_0_c 19 rfl
theorem dX7_at_40 : decode cX7_at 40 = .ok (.tableswitch 61 0 2 #[28, 41, 51], 28) := by decide +kernel
def fw_dX7_at_68 : List (Nat × Instr × Nat) := [(68, .aload_n 0, 1), (69, .getfield 37, 3), (72, .getfield 190, 3), (75, .iload_n 1, 1), (76, .iaload, 1), (77, .invokestatic 193, 3), (80, .ireturn, 1), (81, .aload_n 0, 1), (82, .getfield 37, 3), (85, .getfield 198, 3), (88, .iload_n 1, 1), (89, .iaload, 1), (90, .ireturn, 1), (91, .aload_n 0, 1), (92, .getfield 37, 3), (95, .getfield 201, 3), (98, .iload_n 1, 1), (99, .iaload, 1), (100, .ireturn, 1), (101, .aload_n 0, 1)]
theorem fw_dX7_at_68_c : fchk 68 (cX7_at.data.toList.drop 68) fw_dX7_at_68 = true := by decide +kernel
theorem dX7_at_68 : Eq (decode cX7_at 68) (Except.ok (Instr.aload_n 0, 1)) := fE fw_dX7_at_68_c 0 rfl
theorem dX7_at_69 : Eq (decode cX7_at 69) (Except.ok (Instr.getfield 37, 3)) := fE fw_dX7_at_68_c 1 rfl
theorem dX7_at_72 : Eq (decode cX7_at 72) (Except.ok (Instr.getfield 190, 3)) := fE fw_dX7_at_68_c 2 rfl
theorem dX7_at_75 : Eq (decode cX7_at 75) (Except.ok (Instr.iload_n 1, 1)) := fE fw_dX7_at_68_c 3 rfl
theorem dX7_at_76 : Eq (decode cX7_at 76) (Except.ok (Instr.iaload, 1)) := fE fw_dX7_at_68_c 4 rfl
theorem dX7_at_77 : Eq (decode cX7_at 77) (Except.ok (Instr.invokestatic 193, 3)) := fE fw_dX7_at_68_c 5 rfl
theorem dX7_at_80 : Eq (decode cX7_at 80) (Except.ok (Instr.ireturn, 1)) := fE fw_dX7_at_68_c 6 rfl
theorem dX7_at_81 : Eq (decode cX7_at 81) (Except.ok (Instr.aload_n 0, 1)) := fE fw_dX7_at_68_c 7 rfl
theorem dX7_at_82 : Eq (decode cX7_at 82) (Except.ok (Instr.getfield 37, 3)) := fE fw_dX7_at_68_c 8 rfl
theorem dX7_at_85 : Eq (decode cX7_at 85) (Except.ok (Instr.getfield 198, 3)) := fE fw_dX7_at_68_c 9 rfl
theorem dX7_at_88 : Eq (decode cX7_at 88) (Except.ok (Instr.iload_n 1, 1)) := fE fw_dX7_at_68_c 10 rfl
theorem dX7_at_89 : Eq (decode cX7_at 89) (Except.ok (Instr.iaload, 1)) := fE fw_dX7_at_68_c 11 rfl
theorem dX7_at_90 : Eq (decode cX7_at 90) (Except.ok (Instr.ireturn, 1)) := fE fw_dX7_at_68_c 12 rfl
theorem dX7_at_91 : Eq (decode cX7_at 91) (Except.ok (Instr.aload_n 0, 1)) := fE fw_dX7_at_68_c 13 rfl
theorem dX7_at_92 : Eq (decode cX7_at 92) (Except.ok (Instr.getfield 37, 3)) := fE fw_dX7_at_68_c 14 rfl
theorem dX7_at_95 : Eq (decode cX7_at 95) (Except.ok (Instr.getfield 201, 3)) := fE fw_dX7_at_68_c 15 rfl
theorem dX7_at_98 : Eq (decode cX7_at 98) (Except.ok (Instr.iload_n 1, 1)) := fE fw_dX7_at_68_c 16 rfl
theorem dX7_at_99 : Eq (decode cX7_at 99) (Except.ok (Instr.iaload, 1)) := fE fw_dX7_at_68_c 17 rfl
theorem dX7_at_100 : Eq (decode cX7_at 100) (Except.ok (Instr.ireturn, 1)) := fE fw_dX7_at_68_c 18 rfl
theorem dX7_at_101 : Eq (decode cX7_at 101) (Except.ok (Instr.aload_n 0, 1)) := fE fw_dX7_at_68_c 19 rfl
def fw_dX7_at_102 : List (Nat × Instr × Nat) := [(102, .bipush (-6), 2), (104, .invokevirtual 91, 3), (107, .ireturn, 1)]
theorem fw_dX7_at_102_c : fchk 102 (cX7_at.data.toList.drop 102) fw_dX7_at_102 = true := by decide +kernel
theorem dX7_at_102 : Eq (decode cX7_at 102) (Except.ok (Instr.bipush (-6), 2)) := fE fw_dX7_at_102_c 0 rfl
theorem dX7_at_104 : Eq (decode cX7_at 104) (Except.ok (Instr.invokevirtual 91, 3)) := fE fw_dX7_at_102_c 1 rfl
theorem dX7_at_107 : Eq (decode cX7_at 107) (Except.ok (Instr.ireturn, 1)) := fE fw_dX7_at_102_c 2 rfl
set_option maxRecDepth 20000 in
theorem gi_wsX7_group_0 : GoodIn wsX7_group wsX7_group := goodIn_sub (fun _ h => h) (by decide +kernel)
set_option maxRecDepth 20000 in
theorem gi_wsX7_group_1 : GoodIn wsX7_group wsX70 := goodIn_sub (fun w h => List.mem_cons_of_mem _ (List.mem_append_left _ (List.mem_append_left _ (List.mem_append_right _ h)))) (by decide +kernel)
set_option maxRecDepth 20000 in
theorem gi_wsX7_group_2 : GoodIn wsX7_group wsX40 := goodIn_sub (fun w h => List.mem_cons_of_mem _ (List.mem_append_left _ (List.mem_append_right _ h))) (by decide +kernel)
set_option maxRecDepth 20000 in
theorem gi_wsX7_group_3 : GoodIn wsX7_group wsX10 := goodIn_sub (fun w h => List.mem_cons_of_mem _ (List.mem_append_right _ h)) (by decide +kernel)
def bs_wsX7_group : List (List Cond) := [wsX7_group, wsX70, wsX40, wsX10]
theorem bs_wsX7_group_in : ∀ b ∈ bs_wsX7_group, GoodIn wsX7_group b := List.forall_mem_cons.mpr ⟨gi_wsX7_group_0, List.forall_mem_cons.mpr ⟨gi_wsX7_group_1, List.forall_mem_cons.mpr ⟨gi_wsX7_group_2, List.forall_mem_cons.mpr ⟨gi_wsX7_group_3, (fun _ h => absurd h List.not_mem_nil)⟩⟩⟩⟩
set_option maxRecDepth 20000 in
theorem ggX7_group_X7_refuse : GoodIn wsX7_group wsX7_refuse := goodIn_k (gi_q bs_wsX7_group_in _ [(0, 9)] rfl) (goodIn_app (gi_q bs_wsX7_group_in _ [(0, 10)] rfl) (gi_wsX7_group_1))
set_option maxRecDepth 20000 in
theorem gX7_group_X7_refuse : GoodIn wsX7_group (wsV RX7 91 RX7 yX7_refuse wsX7_refuse) := goodIn_app (gi_q bs_wsX7_group_in _ [(0, 5), (0, 6), (0, 7), (0, 8)] rfl) ggX7_group_X7_refuse
def fw_dX7_group_0 : List (Nat × Instr × Nat) := [(0, .iload_n 1, 1), (1, .ifCond .lt 9, 3), (4, .iload_n 1, 1), (5, .bipush 7, 2), (7, .if_icmp .lt 10, 3), (10, .aload_n 0, 1), (11, .bipush (-3), 2), (13, .invokevirtual 91, 3), (16, .ireturn, 1), (17, .aload_n 0, 1), (18, .getfield 37, 3), (21, .getfield 161, 3), (24, .ifCond .ne 10, 3), (27, .aload_n 0, 1), (28, .bipush (-2), 2), (30, .invokevirtual 91, 3), (33, .ireturn, 1), (34, .aload_n 0, 1), (35, .getfield 46, 3), (38, .getfield 204, 3)]
theorem fw_dX7_group_0_c : fchk 0 (cX7_group.data.toList.drop 0) fw_dX7_group_0 = true := by decide +kernel
theorem dX7_group_0 : Eq (decode cX7_group 0) (Except.ok (Instr.iload_n 1, 1)) := fE fw_dX7_group_0_c 0 rfl
theorem dX7_group_1 : Eq (decode cX7_group 1) (Except.ok (Instr.ifCond .lt 9, 3)) := fE fw_dX7_group_0_c 1 rfl
theorem dX7_group_4 : Eq (decode cX7_group 4) (Except.ok (Instr.iload_n 1, 1)) := fE fw_dX7_group_0_c 2 rfl
theorem dX7_group_5 : Eq (decode cX7_group 5) (Except.ok (Instr.bipush 7, 2)) := fE fw_dX7_group_0_c 3 rfl
theorem dX7_group_7 : Eq (decode cX7_group 7) (Except.ok (Instr.if_icmp .lt 10, 3)) := fE fw_dX7_group_0_c 4 rfl
theorem dX7_group_10 : Eq (decode cX7_group 10) (Except.ok (Instr.aload_n 0, 1)) := fE fw_dX7_group_0_c 5 rfl
theorem dX7_group_11 : Eq (decode cX7_group 11) (Except.ok (Instr.bipush (-3), 2)) := fE fw_dX7_group_0_c 6 rfl
theorem dX7_group_13 : Eq (decode cX7_group 13) (Except.ok (Instr.invokevirtual 91, 3)) := fE fw_dX7_group_0_c 7 rfl
theorem dX7_group_16 : Eq (decode cX7_group 16) (Except.ok (Instr.ireturn, 1)) := fE fw_dX7_group_0_c 8 rfl
theorem dX7_group_17 : Eq (decode cX7_group 17) (Except.ok (Instr.aload_n 0, 1)) := fE fw_dX7_group_0_c 9 rfl
theorem dX7_group_18 : Eq (decode cX7_group 18) (Except.ok (Instr.getfield 37, 3)) := fE fw_dX7_group_0_c 10 rfl
theorem dX7_group_21 : Eq (decode cX7_group 21) (Except.ok (Instr.getfield 161, 3)) := fE fw_dX7_group_0_c 11 rfl
theorem dX7_group_24 : Eq (decode cX7_group 24) (Except.ok (Instr.ifCond .ne 10, 3)) := fE fw_dX7_group_0_c 12 rfl
theorem dX7_group_27 : Eq (decode cX7_group 27) (Except.ok (Instr.aload_n 0, 1)) := fE fw_dX7_group_0_c 13 rfl
theorem dX7_group_28 : Eq (decode cX7_group 28) (Except.ok (Instr.bipush (-2), 2)) := fE fw_dX7_group_0_c 14 rfl
theorem dX7_group_30 : Eq (decode cX7_group 30) (Except.ok (Instr.invokevirtual 91, 3)) := fE fw_dX7_group_0_c 15 rfl
theorem dX7_group_33 : Eq (decode cX7_group 33) (Except.ok (Instr.ireturn, 1)) := fE fw_dX7_group_0_c 16 rfl
theorem dX7_group_34 : Eq (decode cX7_group 34) (Except.ok (Instr.aload_n 0, 1)) := fE fw_dX7_group_0_c 17 rfl
theorem dX7_group_35 : Eq (decode cX7_group 35) (Except.ok (Instr.getfield 46, 3)) := fE fw_dX7_group_0_c 18 rfl
theorem dX7_group_38 : Eq (decode cX7_group 38) (Except.ok (Instr.getfield 204, 3)) := fE fw_dX7_group_0_c 19 rfl
def fw_dX7_group_41 : List (Nat × Instr × Nat) := [(41, .iload_n 1, 1), (42, .iaload, 1), (43, .ireturn, 1)]
theorem fw_dX7_group_41_c : fchk 41 (cX7_group.data.toList.drop 41) fw_dX7_group_41 = true := by decide +kernel
theorem dX7_group_41 : Eq (decode cX7_group 41) (Except.ok (Instr.iload_n 1, 1)) := fE fw_dX7_group_41_c 0 rfl
theorem dX7_group_42 : Eq (decode cX7_group 42) (Except.ok (Instr.iaload, 1)) := fE fw_dX7_group_41_c 1 rfl
theorem dX7_group_43 : Eq (decode cX7_group 43) (Except.ok (Instr.ireturn, 1)) := fE fw_dX7_group_41_c 2 rfl
set_option maxRecDepth 20000 in
theorem gi_wsX7_narrow_0 : GoodIn wsX7_narrow wsX7_narrow := goodIn_sub (fun _ h => h) (by decide +kernel)
set_option maxRecDepth 20000 in
theorem gi_wsX7_narrow_1 : GoodIn wsX7_narrow wsX70 := goodIn_sub (fun w h => List.mem_cons_of_mem _ (List.mem_append_left _ (List.mem_append_left _ (List.mem_append_right _ h)))) (by decide +kernel)
set_option maxRecDepth 20000 in
theorem gi_wsX7_narrow_2 : GoodIn wsX7_narrow wsX40 := goodIn_sub (fun w h => List.mem_cons_of_mem _ (List.mem_append_left _ (List.mem_append_right _ h))) (by decide +kernel)
set_option maxRecDepth 20000 in
theorem gi_wsX7_narrow_3 : GoodIn wsX7_narrow wsX10 := goodIn_sub (fun w h => List.mem_cons_of_mem _ (List.mem_append_right _ h)) (by decide +kernel)
def bs_wsX7_narrow : List (List Cond) := [wsX7_narrow, wsX70, wsX40, wsX10]
theorem bs_wsX7_narrow_in : ∀ b ∈ bs_wsX7_narrow, GoodIn wsX7_narrow b := List.forall_mem_cons.mpr ⟨gi_wsX7_narrow_0, List.forall_mem_cons.mpr ⟨gi_wsX7_narrow_1, List.forall_mem_cons.mpr ⟨gi_wsX7_narrow_2, List.forall_mem_cons.mpr ⟨gi_wsX7_narrow_3, (fun _ h => absurd h List.not_mem_nil)⟩⟩⟩⟩
set_option maxRecDepth 20000 in
theorem ggX7_narrow_X7_refuse : GoodIn wsX7_narrow wsX7_refuse := goodIn_k (gi_q bs_wsX7_narrow_in _ [(0, 12)] rfl) (goodIn_app (gi_q bs_wsX7_narrow_in _ [(0, 13)] rfl) (gi_wsX7_narrow_1))
set_option maxRecDepth 20000 in
theorem gX7_narrow_X7_refuse : GoodIn wsX7_narrow (wsV RX7 91 RX7 yX7_refuse wsX7_refuse) := goodIn_app (gi_q bs_wsX7_narrow_in _ [(0, 8), (0, 9), (0, 10), (0, 11)] rfl) ggX7_narrow_X7_refuse
def fw_dX7_narrow_0 : List (Nat × Instr × Nat) := [(0, .aload_n 0, 1), (1, .getfield 37, 3), (4, .getfield 161, 3), (7, .ifCond .ne 10, 3), (10, .aload_n 0, 1), (11, .bipush (-2), 2), (13, .invokevirtual 91, 3), (16, .ireturn, 1), (17, .iload_n 1, 1)]
theorem fw_dX7_narrow_0_c : fchk 0 (cX7_narrow.data.toList.drop 0) fw_dX7_narrow_0 = true := by decide +kernel
theorem dX7_narrow_0 : Eq (decode cX7_narrow 0) (Except.ok (Instr.aload_n 0, 1)) := fE fw_dX7_narrow_0_c 0 rfl
theorem dX7_narrow_1 : Eq (decode cX7_narrow 1) (Except.ok (Instr.getfield 37, 3)) := fE fw_dX7_narrow_0_c 1 rfl
theorem dX7_narrow_4 : Eq (decode cX7_narrow 4) (Except.ok (Instr.getfield 161, 3)) := fE fw_dX7_narrow_0_c 2 rfl
theorem dX7_narrow_7 : Eq (decode cX7_narrow 7) (Except.ok (Instr.ifCond .ne 10, 3)) := fE fw_dX7_narrow_0_c 3 rfl
theorem dX7_narrow_10 : Eq (decode cX7_narrow 10) (Except.ok (Instr.aload_n 0, 1)) := fE fw_dX7_narrow_0_c 4 rfl
theorem dX7_narrow_11 : Eq (decode cX7_narrow 11) (Except.ok (Instr.bipush (-2), 2)) := fE fw_dX7_narrow_0_c 5 rfl
theorem dX7_narrow_13 : Eq (decode cX7_narrow 13) (Except.ok (Instr.invokevirtual 91, 3)) := fE fw_dX7_narrow_0_c 6 rfl
theorem dX7_narrow_16 : Eq (decode cX7_narrow 16) (Except.ok (Instr.ireturn, 1)) := fE fw_dX7_narrow_0_c 7 rfl
theorem dX7_narrow_17 : Eq (decode cX7_narrow 17) (Except.ok (Instr.iload_n 1, 1)) := fE fw_dX7_narrow_0_c 8 rfl
theorem dX7_narrow_18 : decode cX7_narrow 18 = .ok (.tableswitch 70 0 3 #[30, 38, 54, 62], 30) := by decide +kernel
def fw_dX7_narrow_48 : List (Nat × Instr × Nat) := [(48, .aload_n 0, 1), (49, .getfield 46, 3), (52, .getfield 207, 3), (55, .ireturn, 1), (56, .aload_n 0, 1), (57, .getfield 46, 3), (60, .getfield 207, 3), (63, .aload_n 0, 1), (64, .getfield 37, 3), (67, .getfield 184, 3), (70, .imul, 1), (71, .ireturn, 1), (72, .aload_n 0, 1), (73, .getfield 46, 3), (76, .getfield 210, 3), (79, .ireturn, 1), (80, .aload_n 0, 1), (81, .getfield 46, 3), (84, .getfield 213, 3), (87, .ireturn, 1)]
theorem fw_dX7_narrow_48_c : fchk 48 (cX7_narrow.data.toList.drop 48) fw_dX7_narrow_48 = true := by decide +kernel
theorem dX7_narrow_48 : Eq (decode cX7_narrow 48) (Except.ok (Instr.aload_n 0, 1)) := fE fw_dX7_narrow_48_c 0 rfl
theorem dX7_narrow_49 : Eq (decode cX7_narrow 49) (Except.ok (Instr.getfield 46, 3)) := fE fw_dX7_narrow_48_c 1 rfl
theorem dX7_narrow_52 : Eq (decode cX7_narrow 52) (Except.ok (Instr.getfield 207, 3)) := fE fw_dX7_narrow_48_c 2 rfl
theorem dX7_narrow_55 : Eq (decode cX7_narrow 55) (Except.ok (Instr.ireturn, 1)) := fE fw_dX7_narrow_48_c 3 rfl
theorem dX7_narrow_56 : Eq (decode cX7_narrow 56) (Except.ok (Instr.aload_n 0, 1)) := fE fw_dX7_narrow_48_c 4 rfl
theorem dX7_narrow_57 : Eq (decode cX7_narrow 57) (Except.ok (Instr.getfield 46, 3)) := fE fw_dX7_narrow_48_c 5 rfl
theorem dX7_narrow_60 : Eq (decode cX7_narrow 60) (Except.ok (Instr.getfield 207, 3)) := fE fw_dX7_narrow_48_c 6 rfl
theorem dX7_narrow_63 : Eq (decode cX7_narrow 63) (Except.ok (Instr.aload_n 0, 1)) := fE fw_dX7_narrow_48_c 7 rfl
theorem dX7_narrow_64 : Eq (decode cX7_narrow 64) (Except.ok (Instr.getfield 37, 3)) := fE fw_dX7_narrow_48_c 8 rfl
theorem dX7_narrow_67 : Eq (decode cX7_narrow 67) (Except.ok (Instr.getfield 184, 3)) := fE fw_dX7_narrow_48_c 9 rfl
theorem dX7_narrow_70 : Eq (decode cX7_narrow 70) (Except.ok (Instr.imul, 1)) := fE fw_dX7_narrow_48_c 10 rfl
theorem dX7_narrow_71 : Eq (decode cX7_narrow 71) (Except.ok (Instr.ireturn, 1)) := fE fw_dX7_narrow_48_c 11 rfl
theorem dX7_narrow_72 : Eq (decode cX7_narrow 72) (Except.ok (Instr.aload_n 0, 1)) := fE fw_dX7_narrow_48_c 12 rfl
theorem dX7_narrow_73 : Eq (decode cX7_narrow 73) (Except.ok (Instr.getfield 46, 3)) := fE fw_dX7_narrow_48_c 13 rfl
theorem dX7_narrow_76 : Eq (decode cX7_narrow 76) (Except.ok (Instr.getfield 210, 3)) := fE fw_dX7_narrow_48_c 14 rfl
theorem dX7_narrow_79 : Eq (decode cX7_narrow 79) (Except.ok (Instr.ireturn, 1)) := fE fw_dX7_narrow_48_c 15 rfl
theorem dX7_narrow_80 : Eq (decode cX7_narrow 80) (Except.ok (Instr.aload_n 0, 1)) := fE fw_dX7_narrow_48_c 16 rfl
theorem dX7_narrow_81 : Eq (decode cX7_narrow 81) (Except.ok (Instr.getfield 46, 3)) := fE fw_dX7_narrow_48_c 17 rfl
theorem dX7_narrow_84 : Eq (decode cX7_narrow 84) (Except.ok (Instr.getfield 213, 3)) := fE fw_dX7_narrow_48_c 18 rfl
theorem dX7_narrow_87 : Eq (decode cX7_narrow 87) (Except.ok (Instr.ireturn, 1)) := fE fw_dX7_narrow_48_c 19 rfl
def fw_dX7_narrow_88 : List (Nat × Instr × Nat) := [(88, .aload_n 0, 1), (89, .bipush (-6), 2), (91, .invokevirtual 91, 3), (94, .ireturn, 1)]
theorem fw_dX7_narrow_88_c : fchk 88 (cX7_narrow.data.toList.drop 88) fw_dX7_narrow_88 = true := by decide +kernel
theorem dX7_narrow_88 : Eq (decode cX7_narrow 88) (Except.ok (Instr.aload_n 0, 1)) := fE fw_dX7_narrow_88_c 0 rfl
theorem dX7_narrow_89 : Eq (decode cX7_narrow 89) (Except.ok (Instr.bipush (-6), 2)) := fE fw_dX7_narrow_88_c 1 rfl
theorem dX7_narrow_91 : Eq (decode cX7_narrow 91) (Except.ok (Instr.invokevirtual 91, 3)) := fE fw_dX7_narrow_88_c 2 rfl
theorem dX7_narrow_94 : Eq (decode cX7_narrow 94) (Except.ok (Instr.ireturn, 1)) := fE fw_dX7_narrow_88_c 3 rfl
set_option maxRecDepth 20000 in
theorem gi_wsX7_run_0 : GoodIn wsX7_run wsX7_run_r1 := goodIn_sub (fun w h => List.mem_cons_of_mem _ (List.mem_append_left _ (List.mem_append_left _ (List.mem_append_left _ (List.mem_append_left _ (List.mem_append_left _ (List.mem_append_left _ (List.mem_append_left _ h)))))))) (by decide +kernel)
set_option maxRecDepth 20000 in
theorem gi_wsX7_run_1 : GoodIn wsX7_run wsX7_run_r2 := goodIn_sub (fun w h => List.mem_cons_of_mem _ (List.mem_append_left _ (List.mem_append_left _ (List.mem_append_left _ (List.mem_append_left _ (List.mem_append_left _ (List.mem_append_left _ (List.mem_append_right _ (List.mem_append_left _ h))))))))) (by decide +kernel)
set_option maxRecDepth 20000 in
theorem gi_wsX7_run_2 : GoodIn wsX7_run wsX7_run_r3 := goodIn_sub (fun w h => List.mem_cons_of_mem _ (List.mem_append_left _ (List.mem_append_left _ (List.mem_append_left _ (List.mem_append_left _ (List.mem_append_left _ (List.mem_append_left _ (List.mem_append_right _ (List.mem_append_right _ (List.mem_append_left _ h)))))))))) (by decide +kernel)
set_option maxRecDepth 20000 in
theorem gi_wsX7_run_3 : GoodIn wsX7_run wsX7_run_r4 := goodIn_sub (fun w h => List.mem_cons_of_mem _ (List.mem_append_left _ (List.mem_append_left _ (List.mem_append_left _ (List.mem_append_left _ (List.mem_append_left _ (List.mem_append_left _ (List.mem_append_right _ (List.mem_append_right _ (List.mem_append_right _ (List.mem_append_left _ h))))))))))) (by decide +kernel)
set_option maxRecDepth 20000 in
theorem gi_wsX7_run_4 : GoodIn wsX7_run wsX7_run_r5 := goodIn_sub (fun w h => List.mem_cons_of_mem _ (List.mem_append_left _ (List.mem_append_left _ (List.mem_append_left _ (List.mem_append_left _ (List.mem_append_left _ (List.mem_append_left _ (List.mem_append_right _ (List.mem_append_right _ (List.mem_append_right _ (List.mem_append_right _ (List.mem_append_left _ h)))))))))))) (by decide +kernel)
set_option maxRecDepth 20000 in
theorem gi_wsX7_run_5 : GoodIn wsX7_run wsX7_run_r6 := goodIn_sub (fun w h => List.mem_cons_of_mem _ (List.mem_append_left _ (List.mem_append_left _ (List.mem_append_left _ (List.mem_append_left _ (List.mem_append_left _ (List.mem_append_left _ (List.mem_append_right _ (List.mem_append_right _ (List.mem_append_right _ (List.mem_append_right _ (List.mem_append_right _ (List.mem_append_left _ h))))))))))))) (by decide +kernel)
set_option maxRecDepth 20000 in
theorem gi_wsX7_run_6 : GoodIn wsX7_run wsX7_run_r7 := goodIn_sub (fun w h => List.mem_cons_of_mem _ (List.mem_append_left _ (List.mem_append_left _ (List.mem_append_left _ (List.mem_append_left _ (List.mem_append_left _ (List.mem_append_left _ (List.mem_append_right _ (List.mem_append_right _ (List.mem_append_right _ (List.mem_append_right _ (List.mem_append_right _ (List.mem_append_right _ (List.mem_append_left _ h)))))))))))))) (by decide +kernel)
set_option maxRecDepth 20000 in
theorem gi_wsX7_run_7 : GoodIn wsX7_run wsX7_run_r8 := goodIn_sub (fun w h => List.mem_cons_of_mem _ (List.mem_append_left _ (List.mem_append_left _ (List.mem_append_left _ (List.mem_append_left _ (List.mem_append_left _ (List.mem_append_left _ (List.mem_append_right _ (List.mem_append_right _ (List.mem_append_right _ (List.mem_append_right _ (List.mem_append_right _ (List.mem_append_right _ (List.mem_append_right _ h)))))))))))))) (by decide +kernel)
set_option maxRecDepth 20000 in
theorem gi_wsX7_run_8 : GoodIn wsX7_run wsX70 := goodIn_sub (fun w h => List.mem_cons_of_mem _ (List.mem_append_left _ (List.mem_append_left _ (List.mem_append_left _ (List.mem_append_left _ (List.mem_append_left _ (List.mem_append_right _ h))))))) (by decide +kernel)
set_option maxRecDepth 20000 in
theorem gi_wsX7_run_9 : GoodIn wsX7_run wsX30 := goodIn_sub (fun w h => List.mem_cons_of_mem _ (List.mem_append_left _ (List.mem_append_left _ (List.mem_append_left _ (List.mem_append_left _ (List.mem_append_right _ h)))))) (by decide +kernel)
set_option maxRecDepth 20000 in
theorem gi_wsX7_run_10 : GoodIn wsX7_run wsX60 := goodIn_sub (fun w h => List.mem_cons_of_mem _ (List.mem_append_left _ (List.mem_append_left _ (List.mem_append_left _ (List.mem_append_right _ h))))) (by decide +kernel)
set_option maxRecDepth 20000 in
theorem gi_wsX7_run_11 : GoodIn wsX7_run wsX50 := goodIn_sub (fun w h => List.mem_cons_of_mem _ (List.mem_append_left _ (List.mem_append_left _ (List.mem_append_right _ h)))) (by decide +kernel)
set_option maxRecDepth 20000 in
theorem gi_wsX7_run_12 : GoodIn wsX7_run wsX00 := goodIn_sub (fun w h => List.mem_cons_of_mem _ (List.mem_append_left _ (List.mem_append_right _ h))) (by decide +kernel)
set_option maxRecDepth 20000 in
theorem gi_wsX7_run_13 : GoodIn wsX7_run wsX20 := goodIn_sub (fun w h => List.mem_cons_of_mem _ (List.mem_append_right _ h)) (by decide +kernel)
def bs_wsX7_run : List (List Cond) := [wsX7_run_r1, wsX7_run_r2, wsX7_run_r3, wsX7_run_r4, wsX7_run_r5, wsX7_run_r6, wsX7_run_r7, wsX7_run_r8, wsX70, wsX30, wsX60, wsX50, wsX00, wsX20]
theorem bs_wsX7_run_in : ∀ b ∈ bs_wsX7_run, GoodIn wsX7_run b := List.forall_mem_cons.mpr ⟨gi_wsX7_run_0, List.forall_mem_cons.mpr ⟨gi_wsX7_run_1, List.forall_mem_cons.mpr ⟨gi_wsX7_run_2, List.forall_mem_cons.mpr ⟨gi_wsX7_run_3, List.forall_mem_cons.mpr ⟨gi_wsX7_run_4, List.forall_mem_cons.mpr ⟨gi_wsX7_run_5, List.forall_mem_cons.mpr ⟨gi_wsX7_run_6, List.forall_mem_cons.mpr ⟨gi_wsX7_run_7, List.forall_mem_cons.mpr ⟨gi_wsX7_run_8, List.forall_mem_cons.mpr ⟨gi_wsX7_run_9, List.forall_mem_cons.mpr ⟨gi_wsX7_run_10, List.forall_mem_cons.mpr ⟨gi_wsX7_run_11, List.forall_mem_cons.mpr ⟨gi_wsX7_run_12, List.forall_mem_cons.mpr ⟨gi_wsX7_run_13, (fun _ h => absurd h List.not_mem_nil)⟩⟩⟩⟩⟩⟩⟩⟩⟩⟩⟩⟩⟩⟩
set_option maxRecDepth 20000 in
theorem ggX7_run_X7_isInstruction : GoodIn wsX7_run wsX7_isInstruction := goodIn_k (gi_q bs_wsX7_run_in _ [(0, 5)] rfl) (gi_q bs_wsX7_run_in _ [] rfl)
set_option maxRecDepth 20000 in
theorem gX7_run_X7_isInstruction : GoodIn wsX7_run (va_wsS RX7 111 yX7_isInstruction wsX7_isInstruction) := goodIn_app (gi_q bs_wsX7_run_in _ [(0, 2), (0, 3), (0, 4)] rfl) ggX7_run_X7_isInstruction
set_option maxRecDepth 20000 in
theorem ggX7_run_X7_refuse : GoodIn wsX7_run wsX7_refuse := goodIn_k (gi_q bs_wsX7_run_in _ [(0, 9)] rfl) (goodIn_app (gi_q bs_wsX7_run_in _ [(0, 10)] rfl) (gi_wsX7_run_8))
set_option maxRecDepth 20000 in
theorem gX7_run_X7_refuse : GoodIn wsX7_run (wsV RX7 91 RX7 yX7_refuse wsX7_refuse) := goodIn_app (gi_q bs_wsX7_run_in _ [(0, 6), (0, 7), (0, 8), (0, 4)] rfl) ggX7_run_X7_refuse
set_option maxRecDepth 20000 in
theorem ggX7_run_X3_make : GoodIn wsX7_run wsX3_make := goodIn_k (gi_q bs_wsX7_run_in _ [(0, 15)] rfl) (goodIn_app (goodIn_app (goodIn_app (goodIn_app (gi_q bs_wsX7_run_in _ [(0, 16), (0, 17), (0, 18), (0, 19), (0, 20), (0, 21), (0, 22), (0, 23), (1, 0), (1, 1), (1, 2), (1, 3), (1, 4), (1, 5), (1, 6), (1, 7), (1, 8), (1, 9), (1, 10), (1, 11), (1, 12), (1, 13), (1, 14), (1, 15)] rfl) (goodIn_app (gi_q bs_wsX7_run_in _ [(1, 16), (1, 17), (1, 18), (1, 19), (0, 4), (1, 20), (1, 21), (1, 22), (1, 23), (2, 0), (2, 1), (2, 2), (2, 3), (2, 4), (2, 5), (2, 6), (2, 7), (2, 8), (2, 9), (2, 10), (2, 11), (2, 12), (2, 13), (2, 14)] rfl) (goodIn_app (gi_q bs_wsX7_run_in _ [(2, 15), (2, 16), (2, 17), (2, 18), (2, 19), (2, 20), (2, 21), (2, 22), (2, 23), (3, 0), (3, 1), (3, 2), (3, 3), (3, 4), (3, 5), (3, 6), (3, 7), (3, 8), (3, 9), (3, 10), (3, 11), (3, 12), (3, 13), (3, 14)] rfl) (gi_q bs_wsX7_run_in _ [(3, 15), (3, 16), (3, 17), (3, 18), (3, 19), (3, 20), (3, 21), (3, 22), (3, 23), (4, 0), (4, 1), (4, 2), (4, 3), (4, 4)] rfl)))) (gi_wsX7_run_9)) (gi_wsX7_run_10)) (gi_wsX7_run_11))
set_option maxRecDepth 20000 in
theorem gX7_run_X3_make : GoodIn wsX7_run (wsV RX7 168 RX3 yX3_make wsX3_make) := goodIn_app (gi_q bs_wsX7_run_in _ [(0, 11), (0, 12), (0, 13), (0, 14)] rfl) ggX7_run_X3_make
set_option maxRecDepth 20000 in
theorem ggX7_run_X0_perform : GoodIn wsX7_run wsX0_perform := goodIn_k (gi_q bs_wsX7_run_in _ [(4, 9)] rfl) (goodIn_app (goodIn_app (goodIn_app (goodIn_app (goodIn_app (gi_q bs_wsX7_run_in _ [(4, 10), (4, 11), (4, 12), (4, 13), (4, 14), (4, 15), (4, 16), (4, 17), (4, 18), (4, 19), (4, 20), (4, 21), (4, 22), (4, 23), (5, 0), (1, 19), (0, 4), (1, 20), (5, 1), (5, 2), (5, 3), (4, 8), (5, 4), (5, 5)] rfl) (goodIn_app (gi_q bs_wsX7_run_in _ [(5, 6), (5, 7), (3, 15), (3, 16), (5, 8), (5, 9), (5, 10), (5, 11), (5, 12), (5, 13), (5, 14), (5, 15), (5, 16), (5, 17), (5, 18), (5, 19), (5, 20), (5, 21), (5, 22), (5, 23), (6, 0), (6, 1), (6, 2), (6, 3)] rfl) (goodIn_app (gi_q bs_wsX7_run_in _ [(6, 4), (6, 5), (6, 6), (6, 7), (6, 8), (6, 9), (6, 10), (6, 11), (6, 12), (6, 13), (6, 14), (6, 15), (6, 16), (6, 17), (6, 18), (6, 19), (6, 20), (6, 21), (6, 22), (6, 23), (7, 0), (7, 1), (7, 2), (7, 3)] rfl) (gi_q bs_wsX7_run_in _ [(7, 4), (7, 5), (7, 6), (7, 7), (7, 8), (7, 9), (3, 9), (3, 10), (3, 11), (3, 12), (3, 13), (3, 14)] rfl)))) (gi_wsX7_run_12)) (gi_wsX7_run_9)) (gi_wsX7_run_11)) (gi_wsX7_run_13))
set_option maxRecDepth 20000 in
theorem gX7_run_X0_perform : GoodIn wsX7_run (wsV RX7 216 RX0 yX0_perform wsX0_perform) := goodIn_app (gi_q bs_wsX7_run_in _ [(4, 5), (4, 6), (4, 7), (4, 8)] rfl) ggX7_run_X0_perform
set_option maxRecDepth 20000 in
theorem ggX7_run_X7_keepTold : GoodIn wsX7_run wsX7_keepTold := goodIn_k (gi_q bs_wsX7_run_in _ [(7, 13)] rfl) (goodIn_app (goodIn_app (gi_q bs_wsX7_run_in _ [(7, 14), (0, 1), (7, 15), (7, 16), (7, 17)] rfl) (gi_wsX7_run_8)) (gi_wsX7_run_12))
set_option maxRecDepth 20000 in
theorem gX7_run_X7_keepTold : GoodIn wsX7_run (wsV RX7 220 RX7 yX7_keepTold wsX7_keepTold) := goodIn_app (gi_q bs_wsX7_run_in _ [(7, 10), (7, 11), (7, 12), (0, 4)] rfl) ggX7_run_X7_keepTold
def fw_dX7_run_0 : List (Nat × Instr × Nat) := [(0, .iload_n 1, 1), (1, .invokestatic 111, 3), (4, .ifCond .ne 10, 3), (7, .aload_n 0, 1), (8, .bipush (-3), 2), (10, .invokevirtual 91, 3), (13, .ireturn, 1), (14, .iload_n 2, 1), (15, .ifCond .eq 11, 3), (18, .aload_n 0, 1), (19, .getfield 28, 3), (22, .iload_n 1, 1), (23, .invokevirtual 168, 3), (26, .aload_n 0, 1), (27, .getfield 55, 3), (30, .iload_n 1, 1), (31, .iload_n 2, 1), (32, .invokevirtual 216, 3), (35, .istore_n 3, 1), (36, .aload_n 0, 1)]
theorem fw_dX7_run_0_c : fchk 0 (cX7_run.data.toList.drop 0) fw_dX7_run_0 = true := by decide +kernel
theorem dX7_run_0 : Eq (decode cX7_run 0) (Except.ok (Instr.iload_n 1, 1)) := fE fw_dX7_run_0_c 0 rfl
theorem dX7_run_1 : Eq (decode cX7_run 1) (Except.ok (Instr.invokestatic 111, 3)) := fE fw_dX7_run_0_c 1 rfl
theorem dX7_run_4 : Eq (decode cX7_run 4) (Except.ok (Instr.ifCond .ne 10, 3)) := fE fw_dX7_run_0_c 2 rfl
theorem dX7_run_7 : Eq (decode cX7_run 7) (Except.ok (Instr.aload_n 0, 1)) := fE fw_dX7_run_0_c 3 rfl
theorem dX7_run_8 : Eq (decode cX7_run 8) (Except.ok (Instr.bipush (-3), 2)) := fE fw_dX7_run_0_c 4 rfl
theorem dX7_run_10 : Eq (decode cX7_run 10) (Except.ok (Instr.invokevirtual 91, 3)) := fE fw_dX7_run_0_c 5 rfl
theorem dX7_run_13 : Eq (decode cX7_run 13) (Except.ok (Instr.ireturn, 1)) := fE fw_dX7_run_0_c 6 rfl
theorem dX7_run_14 : Eq (decode cX7_run 14) (Except.ok (Instr.iload_n 2, 1)) := fE fw_dX7_run_0_c 7 rfl
theorem dX7_run_15 : Eq (decode cX7_run 15) (Except.ok (Instr.ifCond .eq 11, 3)) := fE fw_dX7_run_0_c 8 rfl
theorem dX7_run_18 : Eq (decode cX7_run 18) (Except.ok (Instr.aload_n 0, 1)) := fE fw_dX7_run_0_c 9 rfl
theorem dX7_run_19 : Eq (decode cX7_run 19) (Except.ok (Instr.getfield 28, 3)) := fE fw_dX7_run_0_c 10 rfl
theorem dX7_run_22 : Eq (decode cX7_run 22) (Except.ok (Instr.iload_n 1, 1)) := fE fw_dX7_run_0_c 11 rfl
theorem dX7_run_23 : Eq (decode cX7_run 23) (Except.ok (Instr.invokevirtual 168, 3)) := fE fw_dX7_run_0_c 12 rfl
theorem dX7_run_26 : Eq (decode cX7_run 26) (Except.ok (Instr.aload_n 0, 1)) := fE fw_dX7_run_0_c 13 rfl
theorem dX7_run_27 : Eq (decode cX7_run 27) (Except.ok (Instr.getfield 55, 3)) := fE fw_dX7_run_0_c 14 rfl
theorem dX7_run_30 : Eq (decode cX7_run 30) (Except.ok (Instr.iload_n 1, 1)) := fE fw_dX7_run_0_c 15 rfl
theorem dX7_run_31 : Eq (decode cX7_run 31) (Except.ok (Instr.iload_n 2, 1)) := fE fw_dX7_run_0_c 16 rfl
theorem dX7_run_32 : Eq (decode cX7_run 32) (Except.ok (Instr.invokevirtual 216, 3)) := fE fw_dX7_run_0_c 17 rfl
theorem dX7_run_35 : Eq (decode cX7_run 35) (Except.ok (Instr.istore_n 3, 1)) := fE fw_dX7_run_0_c 18 rfl
theorem dX7_run_36 : Eq (decode cX7_run 36) (Except.ok (Instr.aload_n 0, 1)) := fE fw_dX7_run_0_c 19 rfl
def fw_dX7_run_37 : List (Nat × Instr × Nat) := [(37, .invokevirtual 220, 3), (40, .iload_n 3, 1), (41, .ireturn, 1)]
theorem fw_dX7_run_37_c : fchk 37 (cX7_run.data.toList.drop 37) fw_dX7_run_37 = true := by decide +kernel
theorem dX7_run_37 : Eq (decode cX7_run 37) (Except.ok (Instr.invokevirtual 220, 3)) := fE fw_dX7_run_37_c 0 rfl
theorem dX7_run_40 : Eq (decode cX7_run 40) (Except.ok (Instr.iload_n 3, 1)) := fE fw_dX7_run_37_c 1 rfl
theorem dX7_run_41 : Eq (decode cX7_run 41) (Except.ok (Instr.ireturn, 1)) := fE fw_dX7_run_37_c 2 rfl
set_option maxRecDepth 20000 in
theorem gi_wsX7_told_0 : GoodIn wsX7_told wsX7_told := goodIn_sub (fun _ h => h) (by decide +kernel)
set_option maxRecDepth 20000 in
theorem gi_wsX7_told_1 : GoodIn wsX7_told wsX70 := goodIn_sub (fun w h => List.mem_cons_of_mem _ (List.mem_append_right _ h)) (by decide +kernel)
def bs_wsX7_told : List (List Cond) := [wsX7_told, wsX70]
theorem bs_wsX7_told_in : ∀ b ∈ bs_wsX7_told, GoodIn wsX7_told b := List.forall_mem_cons.mpr ⟨gi_wsX7_told_0, List.forall_mem_cons.mpr ⟨gi_wsX7_told_1, (fun _ h => absurd h List.not_mem_nil)⟩⟩
set_option maxRecDepth 20000 in
theorem ggX7_told_X7_refuse : GoodIn wsX7_told wsX7_refuse := goodIn_k (gi_q bs_wsX7_told_in _ [(0, 6)] rfl) (goodIn_app (gi_q bs_wsX7_told_in _ [(0, 7)] rfl) (gi_wsX7_told_1))
set_option maxRecDepth 20000 in
theorem gX7_told_X7_refuse : GoodIn wsX7_told (wsV RX7 91 RX7 yX7_refuse wsX7_refuse) := goodIn_app (gi_q bs_wsX7_told_in _ [(0, 2), (0, 3), (0, 4), (0, 5)] rfl) ggX7_told_X7_refuse
def fw_dX7_told_0 : List (Nat × Instr × Nat) := [(0, .iload_n 1, 1), (1, .ifCond .lt 12, 3), (4, .iload_n 1, 1), (5, .aload_n 0, 1), (6, .getfield 59, 3), (9, .arraylength, 1), (10, .if_icmp .lt 10, 3), (13, .aload_n 0, 1), (14, .bipush (-6), 2), (16, .invokevirtual 91, 3), (19, .ireturn, 1), (20, .aload_n 0, 1), (21, .getfield 59, 3), (24, .iload_n 1, 1), (25, .iaload, 1), (26, .ireturn, 1)]
theorem fw_dX7_told_0_c : fchk 0 (cX7_told.data.toList.drop 0) fw_dX7_told_0 = true := by decide +kernel
theorem dX7_told_0 : Eq (decode cX7_told 0) (Except.ok (Instr.iload_n 1, 1)) := fE fw_dX7_told_0_c 0 rfl
theorem dX7_told_1 : Eq (decode cX7_told 1) (Except.ok (Instr.ifCond .lt 12, 3)) := fE fw_dX7_told_0_c 1 rfl
theorem dX7_told_4 : Eq (decode cX7_told 4) (Except.ok (Instr.iload_n 1, 1)) := fE fw_dX7_told_0_c 2 rfl
theorem dX7_told_5 : Eq (decode cX7_told 5) (Except.ok (Instr.aload_n 0, 1)) := fE fw_dX7_told_0_c 3 rfl
theorem dX7_told_6 : Eq (decode cX7_told 6) (Except.ok (Instr.getfield 59, 3)) := fE fw_dX7_told_0_c 4 rfl
theorem dX7_told_9 : Eq (decode cX7_told 9) (Except.ok (Instr.arraylength, 1)) := fE fw_dX7_told_0_c 5 rfl
theorem dX7_told_10 : Eq (decode cX7_told 10) (Except.ok (Instr.if_icmp .lt 10, 3)) := fE fw_dX7_told_0_c 6 rfl
theorem dX7_told_13 : Eq (decode cX7_told 13) (Except.ok (Instr.aload_n 0, 1)) := fE fw_dX7_told_0_c 7 rfl
theorem dX7_told_14 : Eq (decode cX7_told 14) (Except.ok (Instr.bipush (-6), 2)) := fE fw_dX7_told_0_c 8 rfl
theorem dX7_told_16 : Eq (decode cX7_told 16) (Except.ok (Instr.invokevirtual 91, 3)) := fE fw_dX7_told_0_c 9 rfl
theorem dX7_told_19 : Eq (decode cX7_told 19) (Except.ok (Instr.ireturn, 1)) := fE fw_dX7_told_0_c 10 rfl
theorem dX7_told_20 : Eq (decode cX7_told 20) (Except.ok (Instr.aload_n 0, 1)) := fE fw_dX7_told_0_c 11 rfl
theorem dX7_told_21 : Eq (decode cX7_told 21) (Except.ok (Instr.getfield 59, 3)) := fE fw_dX7_told_0_c 12 rfl
theorem dX7_told_24 : Eq (decode cX7_told 24) (Except.ok (Instr.iload_n 1, 1)) := fE fw_dX7_told_0_c 13 rfl
theorem dX7_told_25 : Eq (decode cX7_told 25) (Except.ok (Instr.iaload, 1)) := fE fw_dX7_told_0_c 14 rfl
theorem dX7_told_26 : Eq (decode cX7_told 26) (Except.ok (Instr.ireturn, 1)) := fE fw_dX7_told_0_c 15 rfl
set_option maxRecDepth 20000 in
theorem gi_wsX7_beside_0 : GoodIn wsX7_beside wsX7_beside_r1 := goodIn_sub (fun w h => List.mem_cons_of_mem _ (List.mem_append_left _ (List.mem_append_left _ (List.mem_append_left _ (List.mem_append_left _ (List.mem_append_left _ (List.mem_append_left _ (List.mem_append_left _ h)))))))) (by decide +kernel)
set_option maxRecDepth 20000 in
theorem gi_wsX7_beside_1 : GoodIn wsX7_beside wsX7_beside_r2 := goodIn_sub (fun w h => List.mem_cons_of_mem _ (List.mem_append_left _ (List.mem_append_left _ (List.mem_append_left _ (List.mem_append_left _ (List.mem_append_left _ (List.mem_append_left _ (List.mem_append_right _ (List.mem_append_left _ h))))))))) (by decide +kernel)
set_option maxRecDepth 20000 in
theorem gi_wsX7_beside_2 : GoodIn wsX7_beside wsX7_beside_r3 := goodIn_sub (fun w h => List.mem_cons_of_mem _ (List.mem_append_left _ (List.mem_append_left _ (List.mem_append_left _ (List.mem_append_left _ (List.mem_append_left _ (List.mem_append_left _ (List.mem_append_right _ (List.mem_append_right _ (List.mem_append_left _ h)))))))))) (by decide +kernel)
set_option maxRecDepth 20000 in
theorem gi_wsX7_beside_3 : GoodIn wsX7_beside wsX7_beside_r4 := goodIn_sub (fun w h => List.mem_cons_of_mem _ (List.mem_append_left _ (List.mem_append_left _ (List.mem_append_left _ (List.mem_append_left _ (List.mem_append_left _ (List.mem_append_left _ (List.mem_append_right _ (List.mem_append_right _ (List.mem_append_right _ (List.mem_append_left _ h))))))))))) (by decide +kernel)
set_option maxRecDepth 20000 in
theorem gi_wsX7_beside_4 : GoodIn wsX7_beside wsX7_beside_r5 := goodIn_sub (fun w h => List.mem_cons_of_mem _ (List.mem_append_left _ (List.mem_append_left _ (List.mem_append_left _ (List.mem_append_left _ (List.mem_append_left _ (List.mem_append_left _ (List.mem_append_right _ (List.mem_append_right _ (List.mem_append_right _ (List.mem_append_right _ (List.mem_append_left _ h)))))))))))) (by decide +kernel)
set_option maxRecDepth 20000 in
theorem gi_wsX7_beside_5 : GoodIn wsX7_beside wsX7_beside_r6 := goodIn_sub (fun w h => List.mem_cons_of_mem _ (List.mem_append_left _ (List.mem_append_left _ (List.mem_append_left _ (List.mem_append_left _ (List.mem_append_left _ (List.mem_append_left _ (List.mem_append_right _ (List.mem_append_right _ (List.mem_append_right _ (List.mem_append_right _ (List.mem_append_right _ (List.mem_append_left _ h))))))))))))) (by decide +kernel)
set_option maxRecDepth 20000 in
theorem gi_wsX7_beside_6 : GoodIn wsX7_beside wsX7_beside_r7 := goodIn_sub (fun w h => List.mem_cons_of_mem _ (List.mem_append_left _ (List.mem_append_left _ (List.mem_append_left _ (List.mem_append_left _ (List.mem_append_left _ (List.mem_append_left _ (List.mem_append_right _ (List.mem_append_right _ (List.mem_append_right _ (List.mem_append_right _ (List.mem_append_right _ (List.mem_append_right _ (List.mem_append_left _ h)))))))))))))) (by decide +kernel)
set_option maxRecDepth 20000 in
theorem gi_wsX7_beside_7 : GoodIn wsX7_beside wsX7_beside_r8 := goodIn_sub (fun w h => List.mem_cons_of_mem _ (List.mem_append_left _ (List.mem_append_left _ (List.mem_append_left _ (List.mem_append_left _ (List.mem_append_left _ (List.mem_append_left _ (List.mem_append_right _ (List.mem_append_right _ (List.mem_append_right _ (List.mem_append_right _ (List.mem_append_right _ (List.mem_append_right _ (List.mem_append_right _ h)))))))))))))) (by decide +kernel)
set_option maxRecDepth 20000 in
theorem gi_wsX7_beside_8 : GoodIn wsX7_beside wsX70 := goodIn_sub (fun w h => List.mem_cons_of_mem _ (List.mem_append_left _ (List.mem_append_left _ (List.mem_append_left _ (List.mem_append_left _ (List.mem_append_left _ (List.mem_append_right _ h))))))) (by decide +kernel)
set_option maxRecDepth 20000 in
theorem gi_wsX7_beside_9 : GoodIn wsX7_beside wsX30 := goodIn_sub (fun w h => List.mem_cons_of_mem _ (List.mem_append_left _ (List.mem_append_left _ (List.mem_append_left _ (List.mem_append_left _ (List.mem_append_right _ h)))))) (by decide +kernel)
set_option maxRecDepth 20000 in
theorem gi_wsX7_beside_10 : GoodIn wsX7_beside wsX60 := goodIn_sub (fun w h => List.mem_cons_of_mem _ (List.mem_append_left _ (List.mem_append_left _ (List.mem_append_left _ (List.mem_append_right _ h))))) (by decide +kernel)
set_option maxRecDepth 20000 in
theorem gi_wsX7_beside_11 : GoodIn wsX7_beside wsX50 := goodIn_sub (fun w h => List.mem_cons_of_mem _ (List.mem_append_left _ (List.mem_append_left _ (List.mem_append_right _ h)))) (by decide +kernel)
set_option maxRecDepth 20000 in
theorem gi_wsX7_beside_12 : GoodIn wsX7_beside wsX00 := goodIn_sub (fun w h => List.mem_cons_of_mem _ (List.mem_append_left _ (List.mem_append_right _ h))) (by decide +kernel)
set_option maxRecDepth 20000 in
theorem gi_wsX7_beside_13 : GoodIn wsX7_beside wsX20 := goodIn_sub (fun w h => List.mem_cons_of_mem _ (List.mem_append_right _ h)) (by decide +kernel)
def bs_wsX7_beside : List (List Cond) := [wsX7_beside_r1, wsX7_beside_r2, wsX7_beside_r3, wsX7_beside_r4, wsX7_beside_r5, wsX7_beside_r6, wsX7_beside_r7, wsX7_beside_r8, wsX70, wsX30, wsX60, wsX50, wsX00, wsX20]
theorem bs_wsX7_beside_in : ∀ b ∈ bs_wsX7_beside, GoodIn wsX7_beside b := List.forall_mem_cons.mpr ⟨gi_wsX7_beside_0, List.forall_mem_cons.mpr ⟨gi_wsX7_beside_1, List.forall_mem_cons.mpr ⟨gi_wsX7_beside_2, List.forall_mem_cons.mpr ⟨gi_wsX7_beside_3, List.forall_mem_cons.mpr ⟨gi_wsX7_beside_4, List.forall_mem_cons.mpr ⟨gi_wsX7_beside_5, List.forall_mem_cons.mpr ⟨gi_wsX7_beside_6, List.forall_mem_cons.mpr ⟨gi_wsX7_beside_7, List.forall_mem_cons.mpr ⟨gi_wsX7_beside_8, List.forall_mem_cons.mpr ⟨gi_wsX7_beside_9, List.forall_mem_cons.mpr ⟨gi_wsX7_beside_10, List.forall_mem_cons.mpr ⟨gi_wsX7_beside_11, List.forall_mem_cons.mpr ⟨gi_wsX7_beside_12, List.forall_mem_cons.mpr ⟨gi_wsX7_beside_13, (fun _ h => absurd h List.not_mem_nil)⟩⟩⟩⟩⟩⟩⟩⟩⟩⟩⟩⟩⟩⟩
set_option maxRecDepth 20000 in
theorem ggX7_beside_X7_isInstruction : GoodIn wsX7_beside wsX7_isInstruction := goodIn_k (gi_q bs_wsX7_beside_in _ [(0, 6)] rfl) (gi_q bs_wsX7_beside_in _ [] rfl)
set_option maxRecDepth 20000 in
theorem gX7_beside_X7_isInstruction : GoodIn wsX7_beside (va_wsS RX7 111 yX7_isInstruction wsX7_isInstruction) := goodIn_app (gi_q bs_wsX7_beside_in _ [(0, 3), (0, 4), (0, 5)] rfl) ggX7_beside_X7_isInstruction
set_option maxRecDepth 20000 in
theorem ggX7_beside_X7_refuse : GoodIn wsX7_beside wsX7_refuse := goodIn_k (gi_q bs_wsX7_beside_in _ [(0, 10)] rfl) (goodIn_app (gi_q bs_wsX7_beside_in _ [(0, 11)] rfl) (gi_wsX7_beside_8))
set_option maxRecDepth 20000 in
theorem gX7_beside_X7_refuse : GoodIn wsX7_beside (wsV RX7 91 RX7 yX7_refuse wsX7_refuse) := goodIn_app (gi_q bs_wsX7_beside_in _ [(0, 7), (0, 8), (0, 9), (0, 5)] rfl) ggX7_beside_X7_refuse
set_option maxRecDepth 20000 in
theorem ggX7_beside_X3_make : GoodIn wsX7_beside wsX3_make := goodIn_k (gi_q bs_wsX7_beside_in _ [(0, 16)] rfl) (goodIn_app (goodIn_app (goodIn_app (goodIn_app (gi_q bs_wsX7_beside_in _ [(0, 17), (0, 18), (0, 19), (0, 20), (0, 21), (0, 22), (0, 23), (1, 0), (1, 1), (1, 2), (1, 3), (1, 4), (1, 5), (1, 6), (1, 7), (1, 8), (1, 9), (1, 10), (1, 11), (1, 12), (1, 13), (1, 14), (1, 15), (1, 16)] rfl) (goodIn_app (gi_q bs_wsX7_beside_in _ [(1, 17), (1, 18), (1, 19), (1, 20), (0, 5), (1, 21), (1, 22), (1, 23), (2, 0), (2, 1), (2, 2), (2, 3), (2, 4), (2, 5), (2, 6), (2, 7), (2, 8), (2, 9), (2, 10), (2, 11), (2, 12), (2, 13), (2, 14), (2, 15)] rfl) (goodIn_app (gi_q bs_wsX7_beside_in _ [(2, 16), (2, 17), (2, 18), (2, 19), (2, 20), (2, 21), (2, 22), (2, 23), (3, 0), (3, 1), (3, 2), (3, 3), (3, 4), (3, 5), (3, 6), (3, 7), (3, 8), (3, 9), (3, 10), (3, 11), (3, 12), (3, 13), (3, 14), (3, 15)] rfl) (gi_q bs_wsX7_beside_in _ [(3, 16), (3, 17), (3, 18), (3, 19), (3, 20), (3, 21), (3, 22), (3, 23), (4, 0), (4, 1), (4, 2), (4, 3), (4, 4), (4, 5)] rfl)))) (gi_wsX7_beside_9)) (gi_wsX7_beside_10)) (gi_wsX7_beside_11))
set_option maxRecDepth 20000 in
theorem gX7_beside_X3_make : GoodIn wsX7_beside (wsV RX7 168 RX3 yX3_make wsX3_make) := goodIn_app (gi_q bs_wsX7_beside_in _ [(0, 12), (0, 13), (0, 14), (0, 15)] rfl) ggX7_beside_X3_make
set_option maxRecDepth 20000 in
theorem ggX7_beside_X0_endsAlike : GoodIn wsX7_beside wsX0_endsAlike := goodIn_k (gi_q bs_wsX7_beside_in _ [(4, 10)] rfl) (goodIn_app (goodIn_app (goodIn_app (goodIn_app (goodIn_app (gi_q bs_wsX7_beside_in _ [(4, 11), (4, 12), (4, 13), (4, 14), (4, 15), (4, 16), (4, 17), (4, 18), (4, 19), (4, 20), (4, 9), (4, 21), (4, 22), (4, 23), (5, 0), (5, 1), (5, 2), (5, 3), (5, 4), (5, 5), (5, 6), (5, 7), (5, 8), (5, 9)] rfl) (goodIn_app (gi_q bs_wsX7_beside_in _ [(5, 10), (5, 11), (1, 20), (0, 5), (1, 21), (5, 12), (5, 13), (5, 14), (5, 15), (5, 16), (5, 17), (5, 18), (3, 16), (3, 17), (5, 19), (5, 20), (5, 21), (5, 22), (5, 23), (6, 0), (6, 1), (6, 2), (6, 3), (6, 4)] rfl) (goodIn_app (gi_q bs_wsX7_beside_in _ [(6, 5), (6, 6), (6, 7), (6, 8), (6, 9), (6, 10), (6, 11), (6, 12), (6, 13), (6, 14), (6, 15), (6, 16), (6, 17), (6, 18), (6, 19), (6, 20), (6, 21), (6, 22), (6, 23), (7, 0), (7, 1), (7, 2), (7, 3), (7, 4)] rfl) (goodIn_app (gi_q bs_wsX7_beside_in _ [(7, 5), (7, 6), (7, 7), (7, 8), (7, 9), (7, 10), (7, 11), (7, 12), (7, 13), (7, 14), (7, 15), (7, 16), (7, 17), (7, 18), (7, 19), (3, 10), (3, 11), (3, 12), (3, 13), (3, 14), (3, 15), (7, 20), (7, 21), (7, 22)] rfl) (gi_q bs_wsX7_beside_in _ [(7, 23)] rfl))))) (gi_wsX7_beside_12)) (gi_wsX7_beside_13)) (gi_wsX7_beside_9)) (gi_wsX7_beside_11))
set_option maxRecDepth 20000 in
theorem gX7_beside_X0_endsAlike : GoodIn wsX7_beside (wsV RX7 223 RX0 yX0_endsAlike wsX0_endsAlike) := goodIn_app (gi_q bs_wsX7_beside_in _ [(4, 6), (4, 7), (4, 8), (4, 9)] rfl) ggX7_beside_X0_endsAlike
def fw_dX7_beside_0 : List (Nat × Instr × Nat) := [(0, .iload_n 1, 1), (1, .invokestatic 111, 3), (4, .ifCond .ne 10, 3), (7, .aload_n 0, 1), (8, .bipush (-3), 2), (10, .invokevirtual 91, 3), (13, .ireturn, 1), (14, .aload_n 0, 1), (15, .getfield 28, 3), (18, .getfield 172, 3), (21, .iload_n 1, 1), (22, .baload, 1), (23, .istore_n 2, 1), (24, .aload_n 0, 1), (25, .getfield 28, 3), (28, .iload_n 1, 1), (29, .invokevirtual 168, 3), (32, .aload_n 0, 1), (33, .getfield 55, 3), (36, .iload_n 1, 1)]
theorem fw_dX7_beside_0_c : fchk 0 (cX7_beside.data.toList.drop 0) fw_dX7_beside_0 = true := by decide +kernel
theorem dX7_beside_0 : Eq (decode cX7_beside 0) (Except.ok (Instr.iload_n 1, 1)) := fE fw_dX7_beside_0_c 0 rfl
theorem dX7_beside_1 : Eq (decode cX7_beside 1) (Except.ok (Instr.invokestatic 111, 3)) := fE fw_dX7_beside_0_c 1 rfl
theorem dX7_beside_4 : Eq (decode cX7_beside 4) (Except.ok (Instr.ifCond .ne 10, 3)) := fE fw_dX7_beside_0_c 2 rfl
theorem dX7_beside_7 : Eq (decode cX7_beside 7) (Except.ok (Instr.aload_n 0, 1)) := fE fw_dX7_beside_0_c 3 rfl
theorem dX7_beside_8 : Eq (decode cX7_beside 8) (Except.ok (Instr.bipush (-3), 2)) := fE fw_dX7_beside_0_c 4 rfl
theorem dX7_beside_10 : Eq (decode cX7_beside 10) (Except.ok (Instr.invokevirtual 91, 3)) := fE fw_dX7_beside_0_c 5 rfl
theorem dX7_beside_13 : Eq (decode cX7_beside 13) (Except.ok (Instr.ireturn, 1)) := fE fw_dX7_beside_0_c 6 rfl
theorem dX7_beside_14 : Eq (decode cX7_beside 14) (Except.ok (Instr.aload_n 0, 1)) := fE fw_dX7_beside_0_c 7 rfl
theorem dX7_beside_15 : Eq (decode cX7_beside 15) (Except.ok (Instr.getfield 28, 3)) := fE fw_dX7_beside_0_c 8 rfl
theorem dX7_beside_18 : Eq (decode cX7_beside 18) (Except.ok (Instr.getfield 172, 3)) := fE fw_dX7_beside_0_c 9 rfl
theorem dX7_beside_21 : Eq (decode cX7_beside 21) (Except.ok (Instr.iload_n 1, 1)) := fE fw_dX7_beside_0_c 10 rfl
theorem dX7_beside_22 : Eq (decode cX7_beside 22) (Except.ok (Instr.baload, 1)) := fE fw_dX7_beside_0_c 11 rfl
theorem dX7_beside_23 : Eq (decode cX7_beside 23) (Except.ok (Instr.istore_n 2, 1)) := fE fw_dX7_beside_0_c 12 rfl
theorem dX7_beside_24 : Eq (decode cX7_beside 24) (Except.ok (Instr.aload_n 0, 1)) := fE fw_dX7_beside_0_c 13 rfl
theorem dX7_beside_25 : Eq (decode cX7_beside 25) (Except.ok (Instr.getfield 28, 3)) := fE fw_dX7_beside_0_c 14 rfl
theorem dX7_beside_28 : Eq (decode cX7_beside 28) (Except.ok (Instr.iload_n 1, 1)) := fE fw_dX7_beside_0_c 15 rfl
theorem dX7_beside_29 : Eq (decode cX7_beside 29) (Except.ok (Instr.invokevirtual 168, 3)) := fE fw_dX7_beside_0_c 16 rfl
theorem dX7_beside_32 : Eq (decode cX7_beside 32) (Except.ok (Instr.aload_n 0, 1)) := fE fw_dX7_beside_0_c 17 rfl
theorem dX7_beside_33 : Eq (decode cX7_beside 33) (Except.ok (Instr.getfield 55, 3)) := fE fw_dX7_beside_0_c 18 rfl
theorem dX7_beside_36 : Eq (decode cX7_beside 36) (Except.ok (Instr.iload_n 1, 1)) := fE fw_dX7_beside_0_c 19 rfl
def fw_dX7_beside_37 : List (Nat × Instr × Nat) := [(37, .invokevirtual 223, 3), (40, .istore_n 3, 1), (41, .aload_n 0, 1), (42, .getfield 28, 3), (45, .getfield 172, 3), (48, .iload_n 1, 1), (49, .iload_n 2, 1), (50, .bastore, 1), (51, .iload_n 3, 1), (52, .ifCond .eq 7, 3), (55, .iconst 0, 1), (56, .goto 4, 3), (59, .iconst 1, 1), (60, .ireturn, 1)]
theorem fw_dX7_beside_37_c : fchk 37 (cX7_beside.data.toList.drop 37) fw_dX7_beside_37 = true := by decide +kernel
theorem dX7_beside_37 : Eq (decode cX7_beside 37) (Except.ok (Instr.invokevirtual 223, 3)) := fE fw_dX7_beside_37_c 0 rfl
theorem dX7_beside_40 : Eq (decode cX7_beside 40) (Except.ok (Instr.istore_n 3, 1)) := fE fw_dX7_beside_37_c 1 rfl
theorem dX7_beside_41 : Eq (decode cX7_beside 41) (Except.ok (Instr.aload_n 0, 1)) := fE fw_dX7_beside_37_c 2 rfl
theorem dX7_beside_42 : Eq (decode cX7_beside 42) (Except.ok (Instr.getfield 28, 3)) := fE fw_dX7_beside_37_c 3 rfl
theorem dX7_beside_45 : Eq (decode cX7_beside 45) (Except.ok (Instr.getfield 172, 3)) := fE fw_dX7_beside_37_c 4 rfl
theorem dX7_beside_48 : Eq (decode cX7_beside 48) (Except.ok (Instr.iload_n 1, 1)) := fE fw_dX7_beside_37_c 5 rfl
theorem dX7_beside_49 : Eq (decode cX7_beside 49) (Except.ok (Instr.iload_n 2, 1)) := fE fw_dX7_beside_37_c 6 rfl
theorem dX7_beside_50 : Eq (decode cX7_beside 50) (Except.ok (Instr.bastore, 1)) := fE fw_dX7_beside_37_c 7 rfl
theorem dX7_beside_51 : Eq (decode cX7_beside 51) (Except.ok (Instr.iload_n 3, 1)) := fE fw_dX7_beside_37_c 8 rfl
theorem dX7_beside_52 : Eq (decode cX7_beside 52) (Except.ok (Instr.ifCond .eq 7, 3)) := fE fw_dX7_beside_37_c 9 rfl
theorem dX7_beside_55 : Eq (decode cX7_beside 55) (Except.ok (Instr.iconst 0, 1)) := fE fw_dX7_beside_37_c 10 rfl
theorem dX7_beside_56 : Eq (decode cX7_beside 56) (Except.ok (Instr.goto 4, 3)) := fE fw_dX7_beside_37_c 11 rfl
theorem dX7_beside_59 : Eq (decode cX7_beside 59) (Except.ok (Instr.iconst 1, 1)) := fE fw_dX7_beside_37_c 12 rfl
theorem dX7_beside_60 : Eq (decode cX7_beside 60) (Except.ok (Instr.ireturn, 1)) := fE fw_dX7_beside_37_c 13 rfl
set_option maxRecDepth 20000 in
theorem gi_wsX7_code_0 : GoodIn wsX7_code wsX7_code := goodIn_sub (fun _ h => h) (by decide +kernel)
set_option maxRecDepth 20000 in
theorem gi_wsX7_code_1 : GoodIn wsX7_code wsX70 := goodIn_sub (fun w h => List.mem_cons_of_mem _ (List.mem_append_right _ h)) (by decide +kernel)
def bs_wsX7_code : List (List Cond) := [wsX7_code, wsX70]
theorem bs_wsX7_code_in : ∀ b ∈ bs_wsX7_code, GoodIn wsX7_code b := List.forall_mem_cons.mpr ⟨gi_wsX7_code_0, List.forall_mem_cons.mpr ⟨gi_wsX7_code_1, (fun _ h => absurd h List.not_mem_nil)⟩⟩
set_option maxRecDepth 20000 in
theorem ggX7_code_X7_refuse : GoodIn wsX7_code wsX7_refuse := goodIn_k (gi_q bs_wsX7_code_in _ [(0, 6)] rfl) (goodIn_app (gi_q bs_wsX7_code_in _ [(0, 7)] rfl) (gi_wsX7_code_1))
set_option maxRecDepth 20000 in
theorem gX7_code_X7_refuse : GoodIn wsX7_code (wsV RX7 91 RX7 yX7_refuse wsX7_refuse) := goodIn_app (gi_q bs_wsX7_code_in _ [(0, 2), (0, 3), (0, 4), (0, 5)] rfl) ggX7_code_X7_refuse
set_option maxRecDepth 20000 in
theorem ggX7_code_X7_isInstruction : GoodIn wsX7_code wsX7_isInstruction := goodIn_k (gi_q bs_wsX7_code_in _ [(0, 10)] rfl) (gi_q bs_wsX7_code_in _ [] rfl)
set_option maxRecDepth 20000 in
theorem gX7_code_X7_isInstruction : GoodIn wsX7_code (va_wsS RX7 111 yX7_isInstruction wsX7_isInstruction) := goodIn_app (gi_q bs_wsX7_code_in _ [(0, 8), (0, 9), (0, 5)] rfl) ggX7_code_X7_isInstruction
def fw_dX7_code_0 : List (Nat × Instr × Nat) := [(0, .iload_n 1, 1), (1, .ifCond .lt 9, 3), (4, .iload_n 1, 1), (5, .bipush 16, 2), (7, .if_icmp .lt 10, 3), (10, .aload_n 0, 1), (11, .bipush (-3), 2), (13, .invokevirtual 91, 3), (16, .ireturn, 1), (17, .iload_n 2, 1), (18, .iconst (-1), 1), (19, .if_icmp .eq 17, 3), (22, .iload_n 2, 1), (23, .invokestatic 111, 3), (26, .ifCond .ne 10, 3), (29, .aload_n 0, 1), (30, .bipush (-3), 2), (32, .invokevirtual 91, 3), (35, .ireturn, 1), (36, .aload_n 0, 1)]
theorem fw_dX7_code_0_c : fchk 0 (cX7_code.data.toList.drop 0) fw_dX7_code_0 = true := by decide +kernel
theorem dX7_code_0 : Eq (decode cX7_code 0) (Except.ok (Instr.iload_n 1, 1)) := fE fw_dX7_code_0_c 0 rfl
theorem dX7_code_1 : Eq (decode cX7_code 1) (Except.ok (Instr.ifCond .lt 9, 3)) := fE fw_dX7_code_0_c 1 rfl
theorem dX7_code_4 : Eq (decode cX7_code 4) (Except.ok (Instr.iload_n 1, 1)) := fE fw_dX7_code_0_c 2 rfl
theorem dX7_code_5 : Eq (decode cX7_code 5) (Except.ok (Instr.bipush 16, 2)) := fE fw_dX7_code_0_c 3 rfl
theorem dX7_code_7 : Eq (decode cX7_code 7) (Except.ok (Instr.if_icmp .lt 10, 3)) := fE fw_dX7_code_0_c 4 rfl
theorem dX7_code_10 : Eq (decode cX7_code 10) (Except.ok (Instr.aload_n 0, 1)) := fE fw_dX7_code_0_c 5 rfl
theorem dX7_code_11 : Eq (decode cX7_code 11) (Except.ok (Instr.bipush (-3), 2)) := fE fw_dX7_code_0_c 6 rfl
theorem dX7_code_13 : Eq (decode cX7_code 13) (Except.ok (Instr.invokevirtual 91, 3)) := fE fw_dX7_code_0_c 7 rfl
theorem dX7_code_16 : Eq (decode cX7_code 16) (Except.ok (Instr.ireturn, 1)) := fE fw_dX7_code_0_c 8 rfl
theorem dX7_code_17 : Eq (decode cX7_code 17) (Except.ok (Instr.iload_n 2, 1)) := fE fw_dX7_code_0_c 9 rfl
theorem dX7_code_18 : Eq (decode cX7_code 18) (Except.ok (Instr.iconst (-1), 1)) := fE fw_dX7_code_0_c 10 rfl
theorem dX7_code_19 : Eq (decode cX7_code 19) (Except.ok (Instr.if_icmp .eq 17, 3)) := fE fw_dX7_code_0_c 11 rfl
theorem dX7_code_22 : Eq (decode cX7_code 22) (Except.ok (Instr.iload_n 2, 1)) := fE fw_dX7_code_0_c 12 rfl
theorem dX7_code_23 : Eq (decode cX7_code 23) (Except.ok (Instr.invokestatic 111, 3)) := fE fw_dX7_code_0_c 13 rfl
theorem dX7_code_26 : Eq (decode cX7_code 26) (Except.ok (Instr.ifCond .ne 10, 3)) := fE fw_dX7_code_0_c 14 rfl
theorem dX7_code_29 : Eq (decode cX7_code 29) (Except.ok (Instr.aload_n 0, 1)) := fE fw_dX7_code_0_c 15 rfl
theorem dX7_code_30 : Eq (decode cX7_code 30) (Except.ok (Instr.bipush (-3), 2)) := fE fw_dX7_code_0_c 16 rfl
theorem dX7_code_32 : Eq (decode cX7_code 32) (Except.ok (Instr.invokevirtual 91, 3)) := fE fw_dX7_code_0_c 17 rfl
theorem dX7_code_35 : Eq (decode cX7_code 35) (Except.ok (Instr.ireturn, 1)) := fE fw_dX7_code_0_c 18 rfl
theorem dX7_code_36 : Eq (decode cX7_code 36) (Except.ok (Instr.aload_n 0, 1)) := fE fw_dX7_code_0_c 19 rfl
def fw_dX7_code_37 : List (Nat × Instr × Nat) := [(37, .getfield 63, 3), (40, .iload_n 1, 1), (41, .iaload, 1), (42, .istore_n 3, 1), (43, .aload_n 0, 1), (44, .getfield 63, 3), (47, .iload_n 1, 1), (48, .iload_n 2, 1), (49, .iastore, 1), (50, .iload_n 3, 1), (51, .ireturn, 1)]
theorem fw_dX7_code_37_c : fchk 37 (cX7_code.data.toList.drop 37) fw_dX7_code_37 = true := by decide +kernel
theorem dX7_code_37 : Eq (decode cX7_code 37) (Except.ok (Instr.getfield 63, 3)) := fE fw_dX7_code_37_c 0 rfl
theorem dX7_code_40 : Eq (decode cX7_code 40) (Except.ok (Instr.iload_n 1, 1)) := fE fw_dX7_code_37_c 1 rfl
theorem dX7_code_41 : Eq (decode cX7_code 41) (Except.ok (Instr.iaload, 1)) := fE fw_dX7_code_37_c 2 rfl
theorem dX7_code_42 : Eq (decode cX7_code 42) (Except.ok (Instr.istore_n 3, 1)) := fE fw_dX7_code_37_c 3 rfl
theorem dX7_code_43 : Eq (decode cX7_code 43) (Except.ok (Instr.aload_n 0, 1)) := fE fw_dX7_code_37_c 4 rfl
theorem dX7_code_44 : Eq (decode cX7_code 44) (Except.ok (Instr.getfield 63, 3)) := fE fw_dX7_code_37_c 5 rfl
theorem dX7_code_47 : Eq (decode cX7_code 47) (Except.ok (Instr.iload_n 1, 1)) := fE fw_dX7_code_37_c 6 rfl
theorem dX7_code_48 : Eq (decode cX7_code 48) (Except.ok (Instr.iload_n 2, 1)) := fE fw_dX7_code_37_c 7 rfl
theorem dX7_code_49 : Eq (decode cX7_code 49) (Except.ok (Instr.iastore, 1)) := fE fw_dX7_code_37_c 8 rfl
theorem dX7_code_50 : Eq (decode cX7_code 50) (Except.ok (Instr.iload_n 3, 1)) := fE fw_dX7_code_37_c 9 rfl
theorem dX7_code_51 : Eq (decode cX7_code 51) (Except.ok (Instr.ireturn, 1)) := fE fw_dX7_code_37_c 10 rfl
set_option maxRecDepth 20000 in
theorem gi_wsX7_step_0 : GoodIn wsX7_step wsX7_step_r1 := goodIn_sub (fun w h => List.mem_cons_of_mem _ (List.mem_append_left _ (List.mem_append_left _ (List.mem_append_left _ (List.mem_append_left _ (List.mem_append_left _ (List.mem_append_left _ (List.mem_append_left _ h)))))))) (by decide +kernel)
set_option maxRecDepth 20000 in
theorem gi_wsX7_step_1 : GoodIn wsX7_step wsX7_step_r2 := goodIn_sub (fun w h => List.mem_cons_of_mem _ (List.mem_append_left _ (List.mem_append_left _ (List.mem_append_left _ (List.mem_append_left _ (List.mem_append_left _ (List.mem_append_left _ (List.mem_append_right _ (List.mem_append_left _ h))))))))) (by decide +kernel)
set_option maxRecDepth 20000 in
theorem gi_wsX7_step_2 : GoodIn wsX7_step wsX7_step_r3 := goodIn_sub (fun w h => List.mem_cons_of_mem _ (List.mem_append_left _ (List.mem_append_left _ (List.mem_append_left _ (List.mem_append_left _ (List.mem_append_left _ (List.mem_append_left _ (List.mem_append_right _ (List.mem_append_right _ (List.mem_append_left _ h)))))))))) (by decide +kernel)
set_option maxRecDepth 20000 in
theorem gi_wsX7_step_3 : GoodIn wsX7_step wsX7_step_r4 := goodIn_sub (fun w h => List.mem_cons_of_mem _ (List.mem_append_left _ (List.mem_append_left _ (List.mem_append_left _ (List.mem_append_left _ (List.mem_append_left _ (List.mem_append_left _ (List.mem_append_right _ (List.mem_append_right _ (List.mem_append_right _ (List.mem_append_left _ h))))))))))) (by decide +kernel)
set_option maxRecDepth 20000 in
theorem gi_wsX7_step_4 : GoodIn wsX7_step wsX7_step_r5 := goodIn_sub (fun w h => List.mem_cons_of_mem _ (List.mem_append_left _ (List.mem_append_left _ (List.mem_append_left _ (List.mem_append_left _ (List.mem_append_left _ (List.mem_append_left _ (List.mem_append_right _ (List.mem_append_right _ (List.mem_append_right _ (List.mem_append_right _ (List.mem_append_left _ h)))))))))))) (by decide +kernel)
set_option maxRecDepth 20000 in
theorem gi_wsX7_step_5 : GoodIn wsX7_step wsX7_step_r6 := goodIn_sub (fun w h => List.mem_cons_of_mem _ (List.mem_append_left _ (List.mem_append_left _ (List.mem_append_left _ (List.mem_append_left _ (List.mem_append_left _ (List.mem_append_left _ (List.mem_append_right _ (List.mem_append_right _ (List.mem_append_right _ (List.mem_append_right _ (List.mem_append_right _ (List.mem_append_left _ h))))))))))))) (by decide +kernel)
set_option maxRecDepth 20000 in
theorem gi_wsX7_step_6 : GoodIn wsX7_step wsX7_step_r7 := goodIn_sub (fun w h => List.mem_cons_of_mem _ (List.mem_append_left _ (List.mem_append_left _ (List.mem_append_left _ (List.mem_append_left _ (List.mem_append_left _ (List.mem_append_left _ (List.mem_append_right _ (List.mem_append_right _ (List.mem_append_right _ (List.mem_append_right _ (List.mem_append_right _ (List.mem_append_right _ (List.mem_append_left _ h)))))))))))))) (by decide +kernel)
set_option maxRecDepth 20000 in
theorem gi_wsX7_step_7 : GoodIn wsX7_step wsX7_step_r8 := goodIn_sub (fun w h => List.mem_cons_of_mem _ (List.mem_append_left _ (List.mem_append_left _ (List.mem_append_left _ (List.mem_append_left _ (List.mem_append_left _ (List.mem_append_left _ (List.mem_append_right _ (List.mem_append_right _ (List.mem_append_right _ (List.mem_append_right _ (List.mem_append_right _ (List.mem_append_right _ (List.mem_append_right _ (List.mem_append_left _ h))))))))))))))) (by decide +kernel)
set_option maxRecDepth 20000 in
theorem gi_wsX7_step_8 : GoodIn wsX7_step wsX7_step_r9 := goodIn_sub (fun w h => List.mem_cons_of_mem _ (List.mem_append_left _ (List.mem_append_left _ (List.mem_append_left _ (List.mem_append_left _ (List.mem_append_left _ (List.mem_append_left _ (List.mem_append_right _ (List.mem_append_right _ (List.mem_append_right _ (List.mem_append_right _ (List.mem_append_right _ (List.mem_append_right _ (List.mem_append_right _ (List.mem_append_right _ h))))))))))))))) (by decide +kernel)
set_option maxRecDepth 20000 in
theorem gi_wsX7_step_9 : GoodIn wsX7_step wsX70 := goodIn_sub (fun w h => List.mem_cons_of_mem _ (List.mem_append_left _ (List.mem_append_left _ (List.mem_append_left _ (List.mem_append_left _ (List.mem_append_left _ (List.mem_append_right _ h))))))) (by decide +kernel)
set_option maxRecDepth 20000 in
theorem gi_wsX7_step_10 : GoodIn wsX7_step wsX20 := goodIn_sub (fun w h => List.mem_cons_of_mem _ (List.mem_append_left _ (List.mem_append_left _ (List.mem_append_left _ (List.mem_append_left _ (List.mem_append_right _ h)))))) (by decide +kernel)
set_option maxRecDepth 20000 in
theorem gi_wsX7_step_11 : GoodIn wsX7_step wsX30 := goodIn_sub (fun w h => List.mem_cons_of_mem _ (List.mem_append_left _ (List.mem_append_left _ (List.mem_append_left _ (List.mem_append_right _ h))))) (by decide +kernel)
set_option maxRecDepth 20000 in
theorem gi_wsX7_step_12 : GoodIn wsX7_step wsX60 := goodIn_sub (fun w h => List.mem_cons_of_mem _ (List.mem_append_left _ (List.mem_append_left _ (List.mem_append_right _ h)))) (by decide +kernel)
set_option maxRecDepth 20000 in
theorem gi_wsX7_step_13 : GoodIn wsX7_step wsX50 := goodIn_sub (fun w h => List.mem_cons_of_mem _ (List.mem_append_left _ (List.mem_append_right _ h))) (by decide +kernel)
set_option maxRecDepth 20000 in
theorem gi_wsX7_step_14 : GoodIn wsX7_step wsX00 := goodIn_sub (fun w h => List.mem_cons_of_mem _ (List.mem_append_right _ h)) (by decide +kernel)
def bs_wsX7_step : List (List Cond) := [wsX7_step_r1, wsX7_step_r2, wsX7_step_r3, wsX7_step_r4, wsX7_step_r5, wsX7_step_r6, wsX7_step_r7, wsX7_step_r8, wsX7_step_r9, wsX70, wsX20, wsX30, wsX60, wsX50, wsX00]
theorem bs_wsX7_step_in : ∀ b ∈ bs_wsX7_step, GoodIn wsX7_step b := List.forall_mem_cons.mpr ⟨gi_wsX7_step_0, List.forall_mem_cons.mpr ⟨gi_wsX7_step_1, List.forall_mem_cons.mpr ⟨gi_wsX7_step_2, List.forall_mem_cons.mpr ⟨gi_wsX7_step_3, List.forall_mem_cons.mpr ⟨gi_wsX7_step_4, List.forall_mem_cons.mpr ⟨gi_wsX7_step_5, List.forall_mem_cons.mpr ⟨gi_wsX7_step_6, List.forall_mem_cons.mpr ⟨gi_wsX7_step_7, List.forall_mem_cons.mpr ⟨gi_wsX7_step_8, List.forall_mem_cons.mpr ⟨gi_wsX7_step_9, List.forall_mem_cons.mpr ⟨gi_wsX7_step_10, List.forall_mem_cons.mpr ⟨gi_wsX7_step_11, List.forall_mem_cons.mpr ⟨gi_wsX7_step_12, List.forall_mem_cons.mpr ⟨gi_wsX7_step_13, List.forall_mem_cons.mpr ⟨gi_wsX7_step_14, (fun _ h => absurd h List.not_mem_nil)⟩⟩⟩⟩⟩⟩⟩⟩⟩⟩⟩⟩⟩⟩⟩
set_option maxRecDepth 20000 in
theorem ggX7_step_X7_refuse : GoodIn wsX7_step wsX7_refuse := goodIn_k (gi_q bs_wsX7_step_in _ [(0, 6)] rfl) (goodIn_app (gi_q bs_wsX7_step_in _ [(0, 7)] rfl) (gi_wsX7_step_9))
set_option maxRecDepth 20000 in
theorem gX7_step_X7_refuse : GoodIn wsX7_step (wsV RX7 91 RX7 yX7_refuse wsX7_refuse) := goodIn_app (gi_q bs_wsX7_step_in _ [(0, 2), (0, 3), (0, 4), (0, 5)] rfl) ggX7_step_X7_refuse
set_option maxRecDepth 20000 in
theorem ggX7_step_X7_doStep : GoodIn wsX7_step wsX7_doStep := goodIn_k (gi_q bs_wsX7_step_in _ [(0, 11)] rfl) (goodIn_app (goodIn_app (goodIn_app (goodIn_app (goodIn_app (goodIn_app (goodIn_app (gi_q bs_wsX7_step_in _ [(0, 12), (0, 13), (0, 14), (0, 15), (0, 16), (0, 17), (0, 18), (0, 19), (0, 20), (0, 21), (0, 22), (0, 23), (1, 0), (1, 1), (1, 2), (1, 3), (1, 4), (1, 5), (1, 6), (1, 7), (1, 8), (1, 9), (1, 10), (1, 11)] rfl) (goodIn_app (gi_q bs_wsX7_step_in _ [(1, 12), (1, 13), (1, 14), (1, 15), (1, 16), (1, 17), (1, 18), (1, 19), (1, 20), (1, 21), (1, 22), (1, 23), (2, 0), (2, 1), (2, 2), (2, 3), (2, 4), (0, 5), (2, 5), (2, 6), (2, 7), (2, 8), (2, 9), (2, 10)] rfl) (goodIn_app (gi_q bs_wsX7_step_in _ [(2, 11), (2, 12), (2, 13), (2, 14), (2, 15), (2, 16), (2, 17), (2, 18), (2, 19), (2, 20), (2, 21), (2, 22), (2, 23), (3, 0), (3, 1), (3, 2), (3, 3), (3, 4), (3, 5), (3, 6), (3, 7), (3, 8), (3, 9), (3, 10)] rfl) (goodIn_app (gi_q bs_wsX7_step_in _ [(3, 11), (3, 12), (3, 13), (3, 14), (3, 15), (3, 16), (3, 17), (3, 18), (3, 19), (3, 20), (3, 21), (3, 22), (3, 23), (4, 0), (4, 1), (4, 2), (4, 3), (4, 4), (4, 5), (4, 6), (4, 7), (4, 8), (4, 9), (4, 10)] rfl) (goodIn_app (gi_q bs_wsX7_step_in _ [(4, 11), (4, 12), (4, 13), (4, 14), (4, 15), (4, 16), (4, 17), (4, 18), (4, 19), (4, 20), (4, 21), (4, 22), (4, 23), (5, 0), (5, 1), (5, 2), (5, 3), (5, 4), (5, 5), (5, 6), (5, 7), (5, 8), (5, 9), (5, 10)] rfl) (goodIn_app (gi_q bs_wsX7_step_in _ [(5, 11), (5, 12), (5, 13), (5, 14), (5, 15), (5, 16), (5, 17), (5, 18), (5, 19), (5, 20), (5, 21), (5, 22), (5, 23), (6, 0), (6, 1), (6, 2), (6, 3), (6, 4), (6, 5), (6, 6), (6, 7), (6, 8), (6, 9), (6, 10)] rfl) (goodIn_app (gi_q bs_wsX7_step_in _ [(6, 11), (6, 12), (6, 13), (6, 14), (6, 15), (6, 16), (6, 17), (6, 18), (6, 19), (6, 20), (6, 21), (6, 22), (6, 23), (7, 0), (7, 1), (7, 2), (7, 3), (7, 4), (7, 5), (7, 6), (7, 7), (7, 8), (7, 9), (7, 10)] rfl) (gi_q bs_wsX7_step_in _ [(7, 11), (7, 12), (7, 13), (7, 14), (7, 15), (7, 16), (7, 17), (7, 18), (7, 19), (7, 20), (7, 21), (7, 22), (7, 23), (8, 0), (8, 1), (8, 2)] rfl)))))))) (gi_wsX7_step_9)) (gi_wsX7_step_10)) (gi_wsX7_step_11)) (gi_wsX7_step_12)) (gi_wsX7_step_13)) (gi_wsX7_step_14))
set_option maxRecDepth 20000 in
theorem gX7_step_X7_doStep : GoodIn wsX7_step (wsV RX7 229 RX7 yX7_doStep wsX7_doStep) := goodIn_app (gi_q bs_wsX7_step_in _ [(0, 8), (0, 9), (0, 10), (0, 5)] rfl) ggX7_step_X7_doStep
def fw_dX7_step_0 : List (Nat × Instr × Nat) := [(0, .iload_n 1, 1), (1, .ifCond .ge 10, 3), (4, .aload_n 0, 1), (5, .bipush (-4), 2), (7, .invokevirtual 91, 3), (10, .ireturn, 1), (11, .iload_n 1, 1), (12, .ifCond .eq 10, 3), (15, .iload_n 1, 1), (16, .sipush 1000, 3), (19, .if_icmp .le 10, 3), (22, .aload_n 0, 1), (23, .bipush (-6), 2), (25, .invokevirtual 91, 3), (28, .ireturn, 1), (29, .iconst 0, 1), (30, .istore_n 2, 1), (31, .aload_n 0, 1), (32, .iconst 0, 1), (33, .putfield 226, 3)]
theorem fw_dX7_step_0_c : fchk 0 (cX7_step.data.toList.drop 0) fw_dX7_step_0 = true := by decide +kernel
theorem dX7_step_0 : Eq (decode cX7_step 0) (Except.ok (Instr.iload_n 1, 1)) := fE fw_dX7_step_0_c 0 rfl
theorem dX7_step_1 : Eq (decode cX7_step 1) (Except.ok (Instr.ifCond .ge 10, 3)) := fE fw_dX7_step_0_c 1 rfl
theorem dX7_step_4 : Eq (decode cX7_step 4) (Except.ok (Instr.aload_n 0, 1)) := fE fw_dX7_step_0_c 2 rfl
theorem dX7_step_5 : Eq (decode cX7_step 5) (Except.ok (Instr.bipush (-4), 2)) := fE fw_dX7_step_0_c 3 rfl
theorem dX7_step_7 : Eq (decode cX7_step 7) (Except.ok (Instr.invokevirtual 91, 3)) := fE fw_dX7_step_0_c 4 rfl
theorem dX7_step_10 : Eq (decode cX7_step 10) (Except.ok (Instr.ireturn, 1)) := fE fw_dX7_step_0_c 5 rfl
theorem dX7_step_11 : Eq (decode cX7_step 11) (Except.ok (Instr.iload_n 1, 1)) := fE fw_dX7_step_0_c 6 rfl
theorem dX7_step_12 : Eq (decode cX7_step 12) (Except.ok (Instr.ifCond .eq 10, 3)) := fE fw_dX7_step_0_c 7 rfl
theorem dX7_step_15 : Eq (decode cX7_step 15) (Except.ok (Instr.iload_n 1, 1)) := fE fw_dX7_step_0_c 8 rfl
theorem dX7_step_16 : Eq (decode cX7_step 16) (Except.ok (Instr.sipush 1000, 3)) := fE fw_dX7_step_0_c 9 rfl
theorem dX7_step_19 : Eq (decode cX7_step 19) (Except.ok (Instr.if_icmp .le 10, 3)) := fE fw_dX7_step_0_c 10 rfl
theorem dX7_step_22 : Eq (decode cX7_step 22) (Except.ok (Instr.aload_n 0, 1)) := fE fw_dX7_step_0_c 11 rfl
theorem dX7_step_23 : Eq (decode cX7_step 23) (Except.ok (Instr.bipush (-6), 2)) := fE fw_dX7_step_0_c 12 rfl
theorem dX7_step_25 : Eq (decode cX7_step 25) (Except.ok (Instr.invokevirtual 91, 3)) := fE fw_dX7_step_0_c 13 rfl
theorem dX7_step_28 : Eq (decode cX7_step 28) (Except.ok (Instr.ireturn, 1)) := fE fw_dX7_step_0_c 14 rfl
theorem dX7_step_29 : Eq (decode cX7_step 29) (Except.ok (Instr.iconst 0, 1)) := fE fw_dX7_step_0_c 15 rfl
theorem dX7_step_30 : Eq (decode cX7_step 30) (Except.ok (Instr.istore_n 2, 1)) := fE fw_dX7_step_0_c 16 rfl
theorem dX7_step_31 : Eq (decode cX7_step 31) (Except.ok (Instr.aload_n 0, 1)) := fE fw_dX7_step_0_c 17 rfl
theorem dX7_step_32 : Eq (decode cX7_step 32) (Except.ok (Instr.iconst 0, 1)) := fE fw_dX7_step_0_c 18 rfl
theorem dX7_step_33 : Eq (decode cX7_step 33) (Except.ok (Instr.putfield 226, 3)) := fE fw_dX7_step_0_c 19 rfl
def fw_dX7_step_36 : List (Nat × Instr × Nat) := [(36, .iconst 0, 1), (37, .istore_n 3, 1), (38, .iload_n 3, 1), (39, .iload_n 1, 1), (40, .if_icmp .ge 34, 3), (43, .aload_n 0, 1), (44, .getfield 226, 3), (47, .ifCond .ne 27, 3), (50, .aload_n 0, 1), (51, .aload_n 0, 1), (52, .invokevirtual 229, 3), (55, .putfield 226, 3), (58, .aload_n 0, 1), (59, .getfield 226, 3), (62, .ifCond .ne 6, 3)]
theorem fw_dX7_step_36_c : fchk 36 (cX7_step.data.toList.drop 36) fw_dX7_step_36 = true := by decide +kernel
theorem dX7_step_36 : Eq (decode cX7_step 36) (Except.ok (Instr.iconst 0, 1)) := fE fw_dX7_step_36_c 0 rfl
theorem dX7_step_37 : Eq (decode cX7_step 37) (Except.ok (Instr.istore_n 3, 1)) := fE fw_dX7_step_36_c 1 rfl
theorem dX7_step_38 : Eq (decode cX7_step 38) (Except.ok (Instr.iload_n 3, 1)) := fE fw_dX7_step_36_c 2 rfl
theorem dX7_step_39 : Eq (decode cX7_step 39) (Except.ok (Instr.iload_n 1, 1)) := fE fw_dX7_step_36_c 3 rfl
theorem dX7_step_40 : Eq (decode cX7_step 40) (Except.ok (Instr.if_icmp .ge 34, 3)) := fE fw_dX7_step_36_c 4 rfl
theorem dX7_step_43 : Eq (decode cX7_step 43) (Except.ok (Instr.aload_n 0, 1)) := fE fw_dX7_step_36_c 5 rfl
theorem dX7_step_44 : Eq (decode cX7_step 44) (Except.ok (Instr.getfield 226, 3)) := fE fw_dX7_step_36_c 6 rfl
theorem dX7_step_47 : Eq (decode cX7_step 47) (Except.ok (Instr.ifCond .ne 27, 3)) := fE fw_dX7_step_36_c 7 rfl
theorem dX7_step_50 : Eq (decode cX7_step 50) (Except.ok (Instr.aload_n 0, 1)) := fE fw_dX7_step_36_c 8 rfl
theorem dX7_step_51 : Eq (decode cX7_step 51) (Except.ok (Instr.aload_n 0, 1)) := fE fw_dX7_step_36_c 9 rfl
theorem dX7_step_52 : Eq (decode cX7_step 52) (Except.ok (Instr.invokevirtual 229, 3)) := fE fw_dX7_step_36_c 10 rfl
theorem dX7_step_55 : Eq (decode cX7_step 55) (Except.ok (Instr.putfield 226, 3)) := fE fw_dX7_step_36_c 11 rfl
theorem dX7_step_58 : Eq (decode cX7_step 58) (Except.ok (Instr.aload_n 0, 1)) := fE fw_dX7_step_36_c 12 rfl
theorem dX7_step_59 : Eq (decode cX7_step 59) (Except.ok (Instr.getfield 226, 3)) := fE fw_dX7_step_36_c 13 rfl
theorem dX7_step_62 : Eq (decode cX7_step 62) (Except.ok (Instr.ifCond .ne 6, 3)) := fE fw_dX7_step_36_c 14 rfl
theorem dX7_step_65 : decode cX7_step 65 = .ok (.iinc 2 1, 3) := by decide +kernel
theorem dX7_step_68 : decode cX7_step 68 = .ok (.iinc 3 1, 3) := by decide +kernel
def fw_dX7_step_71 : List (Nat × Instr × Nat) := [(71, .goto (-33), 3), (74, .aload_n 0, 1), (75, .dup, 1), (76, .getfield 233, 3), (79, .iload_n 2, 1), (80, .iadd, 1), (81, .putfield 233, 3), (84, .iload_n 2, 1), (85, .ireturn, 1)]
theorem fw_dX7_step_71_c : fchk 71 (cX7_step.data.toList.drop 71) fw_dX7_step_71 = true := by decide +kernel
theorem dX7_step_71 : Eq (decode cX7_step 71) (Except.ok (Instr.goto (-33), 3)) := fE fw_dX7_step_71_c 0 rfl
theorem dX7_step_74 : Eq (decode cX7_step 74) (Except.ok (Instr.aload_n 0, 1)) := fE fw_dX7_step_71_c 1 rfl
theorem dX7_step_75 : Eq (decode cX7_step 75) (Except.ok (Instr.dup, 1)) := fE fw_dX7_step_71_c 2 rfl
theorem dX7_step_76 : Eq (decode cX7_step 76) (Except.ok (Instr.getfield 233, 3)) := fE fw_dX7_step_71_c 3 rfl
theorem dX7_step_79 : Eq (decode cX7_step 79) (Except.ok (Instr.iload_n 2, 1)) := fE fw_dX7_step_71_c 4 rfl
theorem dX7_step_80 : Eq (decode cX7_step 80) (Except.ok (Instr.iadd, 1)) := fE fw_dX7_step_71_c 5 rfl
theorem dX7_step_81 : Eq (decode cX7_step 81) (Except.ok (Instr.putfield 233, 3)) := fE fw_dX7_step_71_c 6 rfl
theorem dX7_step_84 : Eq (decode cX7_step 84) (Except.ok (Instr.iload_n 2, 1)) := fE fw_dX7_step_71_c 7 rfl
theorem dX7_step_85 : Eq (decode cX7_step 85) (Except.ok (Instr.ireturn, 1)) := fE fw_dX7_step_71_c 8 rfl
set_option maxRecDepth 20000 in
theorem gi_wsX7_count_0 : GoodIn wsX7_count wsX7_count := goodIn_sub (fun _ h => h) (by decide +kernel)
set_option maxRecDepth 20000 in
theorem gi_wsX7_count_1 : GoodIn wsX7_count wsX70 := goodIn_sub (fun w h => List.mem_cons_of_mem _ (List.mem_append_right _ h)) (by decide +kernel)
def bs_wsX7_count : List (List Cond) := [wsX7_count, wsX70]
theorem bs_wsX7_count_in : ∀ b ∈ bs_wsX7_count, GoodIn wsX7_count b := List.forall_mem_cons.mpr ⟨gi_wsX7_count_0, List.forall_mem_cons.mpr ⟨gi_wsX7_count_1, (fun _ h => absurd h List.not_mem_nil)⟩⟩
set_option maxRecDepth 20000 in
theorem ggX7_count_X7_refuse : GoodIn wsX7_count wsX7_refuse := goodIn_k (gi_q bs_wsX7_count_in _ [(0, 8)] rfl) (goodIn_app (gi_q bs_wsX7_count_in _ [(0, 9)] rfl) (gi_wsX7_count_1))
set_option maxRecDepth 20000 in
theorem gX7_count_X7_refuse : GoodIn wsX7_count (wsV RX7 91 RX7 yX7_refuse wsX7_refuse) := goodIn_app (gi_q bs_wsX7_count_in _ [(0, 4), (0, 5), (0, 6), (0, 7)] rfl) ggX7_count_X7_refuse
def fw_dX7_count_0 : List (Nat × Instr × Nat) := [(0, .iload_n 1, 1)]
theorem fw_dX7_count_0_c : fchk 0 (cX7_count.data.toList.drop 0) fw_dX7_count_0 = true := by decide +kernel
theorem dX7_count_0 : Eq (decode cX7_count 0) (Except.ok (Instr.iload_n 1, 1)) := fE fw_dX7_count_0_c 0 rfl
theorem dX7_count_1 : decode cX7_count 1 = .ok (.tableswitch 42 0 2 #[27, 32, 37], 27) := by decide +kernel
def fw_dX7_count_28 : List (Nat × Instr × Nat) := [(28, .aload_n 0, 1), (29, .getfield 233, 3), (32, .ireturn, 1), (33, .aload_n 0, 1), (34, .getfield 236, 3), (37, .ireturn, 1), (38, .aload_n 0, 1), (39, .getfield 226, 3), (42, .ireturn, 1), (43, .aload_n 0, 1), (44, .bipush (-6), 2), (46, .invokevirtual 91, 3), (49, .ireturn, 1)]
theorem fw_dX7_count_28_c : fchk 28 (cX7_count.data.toList.drop 28) fw_dX7_count_28 = true := by decide +kernel
theorem dX7_count_28 : Eq (decode cX7_count 28) (Except.ok (Instr.aload_n 0, 1)) := fE fw_dX7_count_28_c 0 rfl
theorem dX7_count_29 : Eq (decode cX7_count 29) (Except.ok (Instr.getfield 233, 3)) := fE fw_dX7_count_28_c 1 rfl
theorem dX7_count_32 : Eq (decode cX7_count 32) (Except.ok (Instr.ireturn, 1)) := fE fw_dX7_count_28_c 2 rfl
theorem dX7_count_33 : Eq (decode cX7_count 33) (Except.ok (Instr.aload_n 0, 1)) := fE fw_dX7_count_28_c 3 rfl
theorem dX7_count_34 : Eq (decode cX7_count 34) (Except.ok (Instr.getfield 236, 3)) := fE fw_dX7_count_28_c 4 rfl
theorem dX7_count_37 : Eq (decode cX7_count 37) (Except.ok (Instr.ireturn, 1)) := fE fw_dX7_count_28_c 5 rfl
theorem dX7_count_38 : Eq (decode cX7_count 38) (Except.ok (Instr.aload_n 0, 1)) := fE fw_dX7_count_28_c 6 rfl
theorem dX7_count_39 : Eq (decode cX7_count 39) (Except.ok (Instr.getfield 226, 3)) := fE fw_dX7_count_28_c 7 rfl
theorem dX7_count_42 : Eq (decode cX7_count 42) (Except.ok (Instr.ireturn, 1)) := fE fw_dX7_count_28_c 8 rfl
theorem dX7_count_43 : Eq (decode cX7_count 43) (Except.ok (Instr.aload_n 0, 1)) := fE fw_dX7_count_28_c 9 rfl
theorem dX7_count_44 : Eq (decode cX7_count 44) (Except.ok (Instr.bipush (-6), 2)) := fE fw_dX7_count_28_c 10 rfl
theorem dX7_count_46 : Eq (decode cX7_count 46) (Except.ok (Instr.invokevirtual 91, 3)) := fE fw_dX7_count_28_c 11 rfl
theorem dX7_count_49 : Eq (decode cX7_count 49) (Except.ok (Instr.ireturn, 1)) := fE fw_dX7_count_28_c 12 rfl
def fw_dX7_image_0 : List (Nat × Instr × Nat) := [(0, .iconst 0, 1), (1, .istore_n 1, 1), (2, .iconst 0, 1), (3, .istore_n 2, 1), (4, .iload_n 2, 1), (5, .bipush 74, 2), (7, .if_icmp .ge 38, 3), (10, .aload_n 0, 1), (11, .getfield 66, 3), (14, .iload_n 2, 1), (15, .aload_n 0, 1), (16, .getfield 12, 3), (19, .getfield 98, 3), (22, .iload_n 2, 1), (23, .laload, 1), (24, .lastore, 1), (25, .aload_n 0, 1), (26, .getfield 66, 3), (29, .iload_n 2, 1), (30, .laload, 1)]
theorem fw_dX7_image_0_c : fchk 0 (cX7_image.data.toList.drop 0) fw_dX7_image_0 = true := by decide +kernel
theorem dX7_image_0 : Eq (decode cX7_image 0) (Except.ok (Instr.iconst 0, 1)) := fE fw_dX7_image_0_c 0 rfl
theorem dX7_image_1 : Eq (decode cX7_image 1) (Except.ok (Instr.istore_n 1, 1)) := fE fw_dX7_image_0_c 1 rfl
theorem dX7_image_2 : Eq (decode cX7_image 2) (Except.ok (Instr.iconst 0, 1)) := fE fw_dX7_image_0_c 2 rfl
theorem dX7_image_3 : Eq (decode cX7_image 3) (Except.ok (Instr.istore_n 2, 1)) := fE fw_dX7_image_0_c 3 rfl
theorem dX7_image_4 : Eq (decode cX7_image 4) (Except.ok (Instr.iload_n 2, 1)) := fE fw_dX7_image_0_c 4 rfl
theorem dX7_image_5 : Eq (decode cX7_image 5) (Except.ok (Instr.bipush 74, 2)) := fE fw_dX7_image_0_c 5 rfl
theorem dX7_image_7 : Eq (decode cX7_image 7) (Except.ok (Instr.if_icmp .ge 38, 3)) := fE fw_dX7_image_0_c 6 rfl
theorem dX7_image_10 : Eq (decode cX7_image 10) (Except.ok (Instr.aload_n 0, 1)) := fE fw_dX7_image_0_c 7 rfl
theorem dX7_image_11 : Eq (decode cX7_image 11) (Except.ok (Instr.getfield 66, 3)) := fE fw_dX7_image_0_c 8 rfl
theorem dX7_image_14 : Eq (decode cX7_image 14) (Except.ok (Instr.iload_n 2, 1)) := fE fw_dX7_image_0_c 9 rfl
theorem dX7_image_15 : Eq (decode cX7_image 15) (Except.ok (Instr.aload_n 0, 1)) := fE fw_dX7_image_0_c 10 rfl
theorem dX7_image_16 : Eq (decode cX7_image 16) (Except.ok (Instr.getfield 12, 3)) := fE fw_dX7_image_0_c 11 rfl
theorem dX7_image_19 : Eq (decode cX7_image 19) (Except.ok (Instr.getfield 98, 3)) := fE fw_dX7_image_0_c 12 rfl
theorem dX7_image_22 : Eq (decode cX7_image 22) (Except.ok (Instr.iload_n 2, 1)) := fE fw_dX7_image_0_c 13 rfl
theorem dX7_image_23 : Eq (decode cX7_image 23) (Except.ok (Instr.laload, 1)) := fE fw_dX7_image_0_c 14 rfl
theorem dX7_image_24 : Eq (decode cX7_image 24) (Except.ok (Instr.lastore, 1)) := fE fw_dX7_image_0_c 15 rfl
theorem dX7_image_25 : Eq (decode cX7_image 25) (Except.ok (Instr.aload_n 0, 1)) := fE fw_dX7_image_0_c 16 rfl
theorem dX7_image_26 : Eq (decode cX7_image 26) (Except.ok (Instr.getfield 66, 3)) := fE fw_dX7_image_0_c 17 rfl
theorem dX7_image_29 : Eq (decode cX7_image 29) (Except.ok (Instr.iload_n 2, 1)) := fE fw_dX7_image_0_c 18 rfl
theorem dX7_image_30 : Eq (decode cX7_image 30) (Except.ok (Instr.laload, 1)) := fE fw_dX7_image_0_c 19 rfl
def fw_dX7_image_31 : List (Nat × Instr × Nat) := [(31, .lconst 0, 1), (32, .lcmp, 1), (33, .ifCond .eq 6, 3)]
theorem fw_dX7_image_31_c : fchk 31 (cX7_image.data.toList.drop 31) fw_dX7_image_31 = true := by decide +kernel
theorem dX7_image_31 : Eq (decode cX7_image 31) (Except.ok (Instr.lconst 0, 1)) := fE fw_dX7_image_31_c 0 rfl
theorem dX7_image_32 : Eq (decode cX7_image 32) (Except.ok (Instr.lcmp, 1)) := fE fw_dX7_image_31_c 1 rfl
theorem dX7_image_33 : Eq (decode cX7_image 33) (Except.ok (Instr.ifCond .eq 6, 3)) := fE fw_dX7_image_31_c 2 rfl
theorem dX7_image_36 : decode cX7_image 36 = .ok (.iinc 1 1, 3) := by decide +kernel
theorem dX7_image_39 : decode cX7_image 39 = .ok (.iinc 2 1, 3) := by decide +kernel
def fw_dX7_image_42 : List (Nat × Instr × Nat) := [(42, .goto (-38), 3), (45, .aload_n 0, 1), (46, .iconst 1, 1), (47, .putfield 239, 3), (50, .iload_n 1, 1), (51, .ireturn, 1)]
theorem fw_dX7_image_42_c : fchk 42 (cX7_image.data.toList.drop 42) fw_dX7_image_42 = true := by decide +kernel
theorem dX7_image_42 : Eq (decode cX7_image 42) (Except.ok (Instr.goto (-38), 3)) := fE fw_dX7_image_42_c 0 rfl
theorem dX7_image_45 : Eq (decode cX7_image 45) (Except.ok (Instr.aload_n 0, 1)) := fE fw_dX7_image_42_c 1 rfl
theorem dX7_image_46 : Eq (decode cX7_image 46) (Except.ok (Instr.iconst 1, 1)) := fE fw_dX7_image_42_c 2 rfl
theorem dX7_image_47 : Eq (decode cX7_image 47) (Except.ok (Instr.putfield 239, 3)) := fE fw_dX7_image_42_c 3 rfl
theorem dX7_image_50 : Eq (decode cX7_image 50) (Except.ok (Instr.iload_n 1, 1)) := fE fw_dX7_image_42_c 4 rfl
theorem dX7_image_51 : Eq (decode cX7_image 51) (Except.ok (Instr.ireturn, 1)) := fE fw_dX7_image_42_c 5 rfl
set_option maxRecDepth 20000 in
theorem gi_wsX7_restore_0 : GoodIn wsX7_restore wsX7_restore := goodIn_sub (fun _ h => h) (by decide +kernel)
set_option maxRecDepth 20000 in
theorem gi_wsX7_restore_1 : GoodIn wsX7_restore wsX70 := goodIn_sub (fun w h => List.mem_cons_of_mem _ (List.mem_append_left _ (List.mem_append_right _ h))) (by decide +kernel)
set_option maxRecDepth 20000 in
theorem gi_wsX7_restore_2 : GoodIn wsX7_restore wsX20 := goodIn_sub (fun w h => List.mem_cons_of_mem _ (List.mem_append_right _ h)) (by decide +kernel)
def bs_wsX7_restore : List (List Cond) := [wsX7_restore, wsX70, wsX20]
theorem bs_wsX7_restore_in : ∀ b ∈ bs_wsX7_restore, GoodIn wsX7_restore b := List.forall_mem_cons.mpr ⟨gi_wsX7_restore_0, List.forall_mem_cons.mpr ⟨gi_wsX7_restore_1, List.forall_mem_cons.mpr ⟨gi_wsX7_restore_2, (fun _ h => absurd h List.not_mem_nil)⟩⟩⟩
set_option maxRecDepth 20000 in
theorem ggX7_restore_X7_refuse : GoodIn wsX7_restore wsX7_refuse := goodIn_k (gi_q bs_wsX7_restore_in _ [(0, 8)] rfl) (goodIn_app (gi_q bs_wsX7_restore_in _ [(0, 9)] rfl) (gi_wsX7_restore_1))
set_option maxRecDepth 20000 in
theorem gX7_restore_X7_refuse : GoodIn wsX7_restore (wsV RX7 91 RX7 yX7_refuse wsX7_refuse) := goodIn_app (gi_q bs_wsX7_restore_in _ [(0, 4), (0, 5), (0, 6), (0, 7)] rfl) ggX7_restore_X7_refuse
set_option maxRecDepth 20000 in
theorem ggX7_restore_X2_put : GoodIn wsX7_restore wsX2_put := goodIn_k (gi_q bs_wsX7_restore_in _ [(0, 14)] rfl) (goodIn_app (gi_q bs_wsX7_restore_in _ [(0, 15), (0, 16), (0, 17), (0, 18), (0, 13), (0, 19), (0, 20)] rfl) (gi_wsX7_restore_2))
set_option maxRecDepth 20000 in
theorem gX7_restore_X2_put : GoodIn wsX7_restore (wsV RX7 101 RX2 yX2_put wsX2_put) := goodIn_app (gi_q bs_wsX7_restore_in _ [(0, 10), (0, 11), (0, 12), (0, 13)] rfl) ggX7_restore_X2_put
def fw_dX7_restore_0 : List (Nat × Instr × Nat) := [(0, .aload_n 0, 1), (1, .getfield 239, 3), (4, .ifCond .ne 10, 3), (7, .aload_n 0, 1), (8, .bipush (-2), 2), (10, .invokevirtual 91, 3), (13, .ireturn, 1), (14, .iconst 0, 1), (15, .istore_n 1, 1), (16, .iconst 0, 1), (17, .istore_n 2, 1), (18, .iload_n 2, 1), (19, .bipush 74, 2), (21, .if_icmp .ge 26, 3), (24, .iload_n 1, 1), (25, .aload_n 0, 1), (26, .getfield 12, 3), (29, .iload_n 2, 1), (30, .aload_n 0, 1), (31, .getfield 66, 3)]
theorem fw_dX7_restore_0_c : fchk 0 (cX7_restore.data.toList.drop 0) fw_dX7_restore_0 = true := by decide +kernel
theorem dX7_restore_0 : Eq (decode cX7_restore 0) (Except.ok (Instr.aload_n 0, 1)) := fE fw_dX7_restore_0_c 0 rfl
theorem dX7_restore_1 : Eq (decode cX7_restore 1) (Except.ok (Instr.getfield 239, 3)) := fE fw_dX7_restore_0_c 1 rfl
theorem dX7_restore_4 : Eq (decode cX7_restore 4) (Except.ok (Instr.ifCond .ne 10, 3)) := fE fw_dX7_restore_0_c 2 rfl
theorem dX7_restore_7 : Eq (decode cX7_restore 7) (Except.ok (Instr.aload_n 0, 1)) := fE fw_dX7_restore_0_c 3 rfl
theorem dX7_restore_8 : Eq (decode cX7_restore 8) (Except.ok (Instr.bipush (-2), 2)) := fE fw_dX7_restore_0_c 4 rfl
theorem dX7_restore_10 : Eq (decode cX7_restore 10) (Except.ok (Instr.invokevirtual 91, 3)) := fE fw_dX7_restore_0_c 5 rfl
theorem dX7_restore_13 : Eq (decode cX7_restore 13) (Except.ok (Instr.ireturn, 1)) := fE fw_dX7_restore_0_c 6 rfl
theorem dX7_restore_14 : Eq (decode cX7_restore 14) (Except.ok (Instr.iconst 0, 1)) := fE fw_dX7_restore_0_c 7 rfl
theorem dX7_restore_15 : Eq (decode cX7_restore 15) (Except.ok (Instr.istore_n 1, 1)) := fE fw_dX7_restore_0_c 8 rfl
theorem dX7_restore_16 : Eq (decode cX7_restore 16) (Except.ok (Instr.iconst 0, 1)) := fE fw_dX7_restore_0_c 9 rfl
theorem dX7_restore_17 : Eq (decode cX7_restore 17) (Except.ok (Instr.istore_n 2, 1)) := fE fw_dX7_restore_0_c 10 rfl
theorem dX7_restore_18 : Eq (decode cX7_restore 18) (Except.ok (Instr.iload_n 2, 1)) := fE fw_dX7_restore_0_c 11 rfl
theorem dX7_restore_19 : Eq (decode cX7_restore 19) (Except.ok (Instr.bipush 74, 2)) := fE fw_dX7_restore_0_c 12 rfl
theorem dX7_restore_21 : Eq (decode cX7_restore 21) (Except.ok (Instr.if_icmp .ge 26, 3)) := fE fw_dX7_restore_0_c 13 rfl
theorem dX7_restore_24 : Eq (decode cX7_restore 24) (Except.ok (Instr.iload_n 1, 1)) := fE fw_dX7_restore_0_c 14 rfl
theorem dX7_restore_25 : Eq (decode cX7_restore 25) (Except.ok (Instr.aload_n 0, 1)) := fE fw_dX7_restore_0_c 15 rfl
theorem dX7_restore_26 : Eq (decode cX7_restore 26) (Except.ok (Instr.getfield 12, 3)) := fE fw_dX7_restore_0_c 16 rfl
theorem dX7_restore_29 : Eq (decode cX7_restore 29) (Except.ok (Instr.iload_n 2, 1)) := fE fw_dX7_restore_0_c 17 rfl
theorem dX7_restore_30 : Eq (decode cX7_restore 30) (Except.ok (Instr.aload_n 0, 1)) := fE fw_dX7_restore_0_c 18 rfl
theorem dX7_restore_31 : Eq (decode cX7_restore 31) (Except.ok (Instr.getfield 66, 3)) := fE fw_dX7_restore_0_c 19 rfl
def fw_dX7_restore_34 : List (Nat × Instr × Nat) := [(34, .iload_n 2, 1), (35, .laload, 1), (36, .invokevirtual 101, 3), (39, .iadd, 1), (40, .istore_n 1, 1)]
theorem fw_dX7_restore_34_c : fchk 34 (cX7_restore.data.toList.drop 34) fw_dX7_restore_34 = true := by decide +kernel
theorem dX7_restore_34 : Eq (decode cX7_restore 34) (Except.ok (Instr.iload_n 2, 1)) := fE fw_dX7_restore_34_c 0 rfl
theorem dX7_restore_35 : Eq (decode cX7_restore 35) (Except.ok (Instr.laload, 1)) := fE fw_dX7_restore_34_c 1 rfl
theorem dX7_restore_36 : Eq (decode cX7_restore 36) (Except.ok (Instr.invokevirtual 101, 3)) := fE fw_dX7_restore_34_c 2 rfl
theorem dX7_restore_39 : Eq (decode cX7_restore 39) (Except.ok (Instr.iadd, 1)) := fE fw_dX7_restore_34_c 3 rfl
theorem dX7_restore_40 : Eq (decode cX7_restore 40) (Except.ok (Instr.istore_n 1, 1)) := fE fw_dX7_restore_34_c 4 rfl
theorem dX7_restore_41 : decode cX7_restore 41 = .ok (.iinc 2 1, 3) := by decide +kernel
def fw_dX7_restore_44 : List (Nat × Instr × Nat) := [(44, .goto (-26), 3), (47, .iload_n 1, 1), (48, .ireturn, 1)]
theorem fw_dX7_restore_44_c : fchk 44 (cX7_restore.data.toList.drop 44) fw_dX7_restore_44 = true := by decide +kernel
theorem dX7_restore_44 : Eq (decode cX7_restore 44) (Except.ok (Instr.goto (-26), 3)) := fE fw_dX7_restore_44_c 0 rfl
theorem dX7_restore_47 : Eq (decode cX7_restore 47) (Except.ok (Instr.iload_n 1, 1)) := fE fw_dX7_restore_44_c 1 rfl
theorem dX7_restore_48 : Eq (decode cX7_restore 48) (Except.ok (Instr.ireturn, 1)) := fE fw_dX7_restore_44_c 2 rfl
set_option maxRecDepth 20000 in
theorem gi_wsX7_lay_0 : GoodIn wsX7_lay wsX7_lay := goodIn_sub (fun _ h => h) (by decide +kernel)
set_option maxRecDepth 20000 in
theorem gi_wsX7_lay_1 : GoodIn wsX7_lay wsX70 := goodIn_sub (fun w h => List.mem_cons_of_mem _ (List.mem_append_left _ (List.mem_append_right _ h))) (by decide +kernel)
set_option maxRecDepth 20000 in
theorem gi_wsX7_lay_2 : GoodIn wsX7_lay wsX20 := goodIn_sub (fun w h => List.mem_cons_of_mem _ (List.mem_append_right _ h)) (by decide +kernel)
def bs_wsX7_lay : List (List Cond) := [wsX7_lay, wsX70, wsX20]
theorem bs_wsX7_lay_in : ∀ b ∈ bs_wsX7_lay, GoodIn wsX7_lay b := List.forall_mem_cons.mpr ⟨gi_wsX7_lay_0, List.forall_mem_cons.mpr ⟨gi_wsX7_lay_1, List.forall_mem_cons.mpr ⟨gi_wsX7_lay_2, (fun _ h => absurd h List.not_mem_nil)⟩⟩⟩
set_option maxRecDepth 20000 in
theorem ggX7_lay_X7_refuse : GoodIn wsX7_lay wsX7_refuse := goodIn_k (gi_q bs_wsX7_lay_in _ [(0, 9)] rfl) (goodIn_app (gi_q bs_wsX7_lay_in _ [(0, 10)] rfl) (gi_wsX7_lay_1))
set_option maxRecDepth 20000 in
theorem gX7_lay_X7_refuse : GoodIn wsX7_lay (wsV RX7 91 RX7 yX7_refuse wsX7_refuse) := goodIn_app (gi_q bs_wsX7_lay_in _ [(0, 5), (0, 6), (0, 7), (0, 8)] rfl) ggX7_lay_X7_refuse
def fw_dX7_lay_0 : List (Nat × Instr × Nat) := [(0, .iload_n 2, 1), (1, .ifCond .ge 10, 3), (4, .aload_n 0, 1), (5, .bipush (-4), 2), (7, .invokevirtual 91, 3), (10, .ireturn, 1), (11, .iload_n 2, 1), (12, .bipush 64, 2), (14, .if_icmp .gt 15, 3), (17, .iload_n 1, 1), (18, .ifCond .lt 11, 3), (21, .iload_n 1, 1), (22, .bipush 64, 2), (24, .iload_n 2, 1), (25, .isub, 1), (26, .if_icmp .le 10, 3), (29, .aload_n 0, 1), (30, .bipush (-3), 2), (32, .invokevirtual 91, 3), (35, .ireturn, 1)]
theorem fw_dX7_lay_0_c : fchk 0 (cX7_lay.data.toList.drop 0) fw_dX7_lay_0 = true := by decide +kernel
theorem dX7_lay_0 : Eq (decode cX7_lay 0) (Except.ok (Instr.iload_n 2, 1)) := fE fw_dX7_lay_0_c 0 rfl
theorem dX7_lay_1 : Eq (decode cX7_lay 1) (Except.ok (Instr.ifCond .ge 10, 3)) := fE fw_dX7_lay_0_c 1 rfl
theorem dX7_lay_4 : Eq (decode cX7_lay 4) (Except.ok (Instr.aload_n 0, 1)) := fE fw_dX7_lay_0_c 2 rfl
theorem dX7_lay_5 : Eq (decode cX7_lay 5) (Except.ok (Instr.bipush (-4), 2)) := fE fw_dX7_lay_0_c 3 rfl
theorem dX7_lay_7 : Eq (decode cX7_lay 7) (Except.ok (Instr.invokevirtual 91, 3)) := fE fw_dX7_lay_0_c 4 rfl
theorem dX7_lay_10 : Eq (decode cX7_lay 10) (Except.ok (Instr.ireturn, 1)) := fE fw_dX7_lay_0_c 5 rfl
theorem dX7_lay_11 : Eq (decode cX7_lay 11) (Except.ok (Instr.iload_n 2, 1)) := fE fw_dX7_lay_0_c 6 rfl
theorem dX7_lay_12 : Eq (decode cX7_lay 12) (Except.ok (Instr.bipush 64, 2)) := fE fw_dX7_lay_0_c 7 rfl
theorem dX7_lay_14 : Eq (decode cX7_lay 14) (Except.ok (Instr.if_icmp .gt 15, 3)) := fE fw_dX7_lay_0_c 8 rfl
theorem dX7_lay_17 : Eq (decode cX7_lay 17) (Except.ok (Instr.iload_n 1, 1)) := fE fw_dX7_lay_0_c 9 rfl
theorem dX7_lay_18 : Eq (decode cX7_lay 18) (Except.ok (Instr.ifCond .lt 11, 3)) := fE fw_dX7_lay_0_c 10 rfl
theorem dX7_lay_21 : Eq (decode cX7_lay 21) (Except.ok (Instr.iload_n 1, 1)) := fE fw_dX7_lay_0_c 11 rfl
theorem dX7_lay_22 : Eq (decode cX7_lay 22) (Except.ok (Instr.bipush 64, 2)) := fE fw_dX7_lay_0_c 12 rfl
theorem dX7_lay_24 : Eq (decode cX7_lay 24) (Except.ok (Instr.iload_n 2, 1)) := fE fw_dX7_lay_0_c 13 rfl
theorem dX7_lay_25 : Eq (decode cX7_lay 25) (Except.ok (Instr.isub, 1)) := fE fw_dX7_lay_0_c 14 rfl
theorem dX7_lay_26 : Eq (decode cX7_lay 26) (Except.ok (Instr.if_icmp .le 10, 3)) := fE fw_dX7_lay_0_c 15 rfl
theorem dX7_lay_29 : Eq (decode cX7_lay 29) (Except.ok (Instr.aload_n 0, 1)) := fE fw_dX7_lay_0_c 16 rfl
theorem dX7_lay_30 : Eq (decode cX7_lay 30) (Except.ok (Instr.bipush (-3), 2)) := fE fw_dX7_lay_0_c 17 rfl
theorem dX7_lay_32 : Eq (decode cX7_lay 32) (Except.ok (Instr.invokevirtual 91, 3)) := fE fw_dX7_lay_0_c 18 rfl
theorem dX7_lay_35 : Eq (decode cX7_lay 35) (Except.ok (Instr.ireturn, 1)) := fE fw_dX7_lay_0_c 19 rfl
def fw_dX7_lay_36 : List (Nat × Instr × Nat) := [(36, .iconst 0, 1), (37, .istore_n 3, 1), (38, .iload_n 3, 1), (39, .iload_n 2, 1), (40, .if_icmp .ge 31, 3), (43, .aload_n 0, 1), (44, .getfield 70, 3), (47, .iload_n 3, 1), (48, .aload_n 0, 1), (49, .getfield 12, 3), (52, .getfield 98, 3), (55, .bipush 10, 2), (57, .iload_n 1, 1), (58, .iadd, 1), (59, .iload_n 3, 1), (60, .iadd, 1), (61, .laload, 1), (62, .l2i, 1), (63, .i2s, 1), (64, .sastore, 1)]
theorem fw_dX7_lay_36_c : fchk 36 (cX7_lay.data.toList.drop 36) fw_dX7_lay_36 = true := by decide +kernel
theorem dX7_lay_36 : Eq (decode cX7_lay 36) (Except.ok (Instr.iconst 0, 1)) := fE fw_dX7_lay_36_c 0 rfl
theorem dX7_lay_37 : Eq (decode cX7_lay 37) (Except.ok (Instr.istore_n 3, 1)) := fE fw_dX7_lay_36_c 1 rfl
theorem dX7_lay_38 : Eq (decode cX7_lay 38) (Except.ok (Instr.iload_n 3, 1)) := fE fw_dX7_lay_36_c 2 rfl
theorem dX7_lay_39 : Eq (decode cX7_lay 39) (Except.ok (Instr.iload_n 2, 1)) := fE fw_dX7_lay_36_c 3 rfl
theorem dX7_lay_40 : Eq (decode cX7_lay 40) (Except.ok (Instr.if_icmp .ge 31, 3)) := fE fw_dX7_lay_36_c 4 rfl
theorem dX7_lay_43 : Eq (decode cX7_lay 43) (Except.ok (Instr.aload_n 0, 1)) := fE fw_dX7_lay_36_c 5 rfl
theorem dX7_lay_44 : Eq (decode cX7_lay 44) (Except.ok (Instr.getfield 70, 3)) := fE fw_dX7_lay_36_c 6 rfl
theorem dX7_lay_47 : Eq (decode cX7_lay 47) (Except.ok (Instr.iload_n 3, 1)) := fE fw_dX7_lay_36_c 7 rfl
theorem dX7_lay_48 : Eq (decode cX7_lay 48) (Except.ok (Instr.aload_n 0, 1)) := fE fw_dX7_lay_36_c 8 rfl
theorem dX7_lay_49 : Eq (decode cX7_lay 49) (Except.ok (Instr.getfield 12, 3)) := fE fw_dX7_lay_36_c 9 rfl
theorem dX7_lay_52 : Eq (decode cX7_lay 52) (Except.ok (Instr.getfield 98, 3)) := fE fw_dX7_lay_36_c 10 rfl
theorem dX7_lay_55 : Eq (decode cX7_lay 55) (Except.ok (Instr.bipush 10, 2)) := fE fw_dX7_lay_36_c 11 rfl
theorem dX7_lay_57 : Eq (decode cX7_lay 57) (Except.ok (Instr.iload_n 1, 1)) := fE fw_dX7_lay_36_c 12 rfl
theorem dX7_lay_58 : Eq (decode cX7_lay 58) (Except.ok (Instr.iadd, 1)) := fE fw_dX7_lay_36_c 13 rfl
theorem dX7_lay_59 : Eq (decode cX7_lay 59) (Except.ok (Instr.iload_n 3, 1)) := fE fw_dX7_lay_36_c 14 rfl
theorem dX7_lay_60 : Eq (decode cX7_lay 60) (Except.ok (Instr.iadd, 1)) := fE fw_dX7_lay_36_c 15 rfl
theorem dX7_lay_61 : Eq (decode cX7_lay 61) (Except.ok (Instr.laload, 1)) := fE fw_dX7_lay_36_c 16 rfl
theorem dX7_lay_62 : Eq (decode cX7_lay 62) (Except.ok (Instr.l2i, 1)) := fE fw_dX7_lay_36_c 17 rfl
theorem dX7_lay_63 : Eq (decode cX7_lay 63) (Except.ok (Instr.i2s, 1)) := fE fw_dX7_lay_36_c 18 rfl
theorem dX7_lay_64 : Eq (decode cX7_lay 64) (Except.ok (Instr.sastore, 1)) := fE fw_dX7_lay_36_c 19 rfl
theorem dX7_lay_65 : decode cX7_lay 65 = .ok (.iinc 3 1, 3) := by decide +kernel
def fw_dX7_lay_68 : List (Nat × Instr × Nat) := [(68, .goto (-30), 3), (71, .aload_n 0, 1), (72, .iload_n 2, 1), (73, .putfield 83, 3), (76, .iload_n 2, 1), (77, .ireturn, 1)]
theorem fw_dX7_lay_68_c : fchk 68 (cX7_lay.data.toList.drop 68) fw_dX7_lay_68 = true := by decide +kernel
theorem dX7_lay_68 : Eq (decode cX7_lay 68) (Except.ok (Instr.goto (-30), 3)) := fE fw_dX7_lay_68_c 0 rfl
theorem dX7_lay_71 : Eq (decode cX7_lay 71) (Except.ok (Instr.aload_n 0, 1)) := fE fw_dX7_lay_68_c 1 rfl
theorem dX7_lay_72 : Eq (decode cX7_lay 72) (Except.ok (Instr.iload_n 2, 1)) := fE fw_dX7_lay_68_c 2 rfl
theorem dX7_lay_73 : Eq (decode cX7_lay 73) (Except.ok (Instr.putfield 83, 3)) := fE fw_dX7_lay_68_c 3 rfl
theorem dX7_lay_76 : Eq (decode cX7_lay 76) (Except.ok (Instr.iload_n 2, 1)) := fE fw_dX7_lay_68_c 4 rfl
theorem dX7_lay_77 : Eq (decode cX7_lay 77) (Except.ok (Instr.ireturn, 1)) := fE fw_dX7_lay_68_c 5 rfl
def fw_dX7_tear_0 : List (Nat × Instr × Nat) := [(0, .aload_n 0, 1), (1, .getfield 83, 3), (4, .iconst (-1), 1), (5, .if_icmp .ne 7, 3), (8, .iconst 0, 1), (9, .goto 4, 3), (12, .iconst 1, 1), (13, .istore_n 1, 1), (14, .aload_n 0, 1), (15, .iconst (-1), 1), (16, .putfield 83, 3), (19, .iload_n 1, 1), (20, .ireturn, 1)]
theorem fw_dX7_tear_0_c : fchk 0 (cX7_tear.data.toList.drop 0) fw_dX7_tear_0 = true := by decide +kernel
theorem dX7_tear_0 : Eq (decode cX7_tear 0) (Except.ok (Instr.aload_n 0, 1)) := fE fw_dX7_tear_0_c 0 rfl
theorem dX7_tear_1 : Eq (decode cX7_tear 1) (Except.ok (Instr.getfield 83, 3)) := fE fw_dX7_tear_0_c 1 rfl
theorem dX7_tear_4 : Eq (decode cX7_tear 4) (Except.ok (Instr.iconst (-1), 1)) := fE fw_dX7_tear_0_c 2 rfl
theorem dX7_tear_5 : Eq (decode cX7_tear 5) (Except.ok (Instr.if_icmp .ne 7, 3)) := fE fw_dX7_tear_0_c 3 rfl
theorem dX7_tear_8 : Eq (decode cX7_tear 8) (Except.ok (Instr.iconst 0, 1)) := fE fw_dX7_tear_0_c 4 rfl
theorem dX7_tear_9 : Eq (decode cX7_tear 9) (Except.ok (Instr.goto 4, 3)) := fE fw_dX7_tear_0_c 5 rfl
theorem dX7_tear_12 : Eq (decode cX7_tear 12) (Except.ok (Instr.iconst 1, 1)) := fE fw_dX7_tear_0_c 6 rfl
theorem dX7_tear_13 : Eq (decode cX7_tear 13) (Except.ok (Instr.istore_n 1, 1)) := fE fw_dX7_tear_0_c 7 rfl
theorem dX7_tear_14 : Eq (decode cX7_tear 14) (Except.ok (Instr.aload_n 0, 1)) := fE fw_dX7_tear_0_c 8 rfl
theorem dX7_tear_15 : Eq (decode cX7_tear 15) (Except.ok (Instr.iconst (-1), 1)) := fE fw_dX7_tear_0_c 9 rfl
theorem dX7_tear_16 : Eq (decode cX7_tear 16) (Except.ok (Instr.putfield 83, 3)) := fE fw_dX7_tear_0_c 10 rfl
theorem dX7_tear_19 : Eq (decode cX7_tear 19) (Except.ok (Instr.iload_n 1, 1)) := fE fw_dX7_tear_0_c 11 rfl
theorem dX7_tear_20 : Eq (decode cX7_tear 20) (Except.ok (Instr.ireturn, 1)) := fE fw_dX7_tear_0_c 12 rfl
set_option maxRecDepth 20000 in
theorem gi_wsX7_row_0 : GoodIn wsX7_row wsX7_row := goodIn_sub (fun _ h => h) (by decide +kernel)
set_option maxRecDepth 20000 in
theorem gi_wsX7_row_1 : GoodIn wsX7_row wsX70 := goodIn_sub (fun w h => List.mem_cons_of_mem _ (List.mem_append_right _ h)) (by decide +kernel)
def bs_wsX7_row : List (List Cond) := [wsX7_row, wsX70]
theorem bs_wsX7_row_in : ∀ b ∈ bs_wsX7_row, GoodIn wsX7_row b := List.forall_mem_cons.mpr ⟨gi_wsX7_row_0, List.forall_mem_cons.mpr ⟨gi_wsX7_row_1, (fun _ h => absurd h List.not_mem_nil)⟩⟩
set_option maxRecDepth 20000 in
theorem ggX7_row_X7_refuse : GoodIn wsX7_row wsX7_refuse := goodIn_k (gi_q bs_wsX7_row_in _ [(0, 7)] rfl) (goodIn_app (gi_q bs_wsX7_row_in _ [(0, 8)] rfl) (gi_wsX7_row_1))
set_option maxRecDepth 20000 in
theorem gX7_row_X7_refuse : GoodIn wsX7_row (wsV RX7 91 RX7 yX7_refuse wsX7_refuse) := goodIn_app (gi_q bs_wsX7_row_in _ [(0, 3), (0, 4), (0, 5), (0, 6)] rfl) ggX7_row_X7_refuse
def fw_dX7_row_0 : List (Nat × Instr × Nat) := [(0, .aload_n 0, 1), (1, .getfield 83, 3), (4, .iconst (-1), 1), (5, .if_icmp .ne 10, 3), (8, .aload_n 0, 1), (9, .bipush (-2), 2), (11, .invokevirtual 91, 3), (14, .ireturn, 1), (15, .iload_n 1, 1), (16, .ifCond .lt 11, 3), (19, .iload_n 1, 1), (20, .aload_n 0, 1), (21, .getfield 83, 3), (24, .if_icmp .lt 10, 3), (27, .aload_n 0, 1), (28, .bipush (-3), 2), (30, .invokevirtual 91, 3), (33, .ireturn, 1), (34, .aload_n 0, 1), (35, .getfield 70, 3)]
theorem fw_dX7_row_0_c : fchk 0 (cX7_row.data.toList.drop 0) fw_dX7_row_0 = true := by decide +kernel
theorem dX7_row_0 : Eq (decode cX7_row 0) (Except.ok (Instr.aload_n 0, 1)) := fE fw_dX7_row_0_c 0 rfl
theorem dX7_row_1 : Eq (decode cX7_row 1) (Except.ok (Instr.getfield 83, 3)) := fE fw_dX7_row_0_c 1 rfl
theorem dX7_row_4 : Eq (decode cX7_row 4) (Except.ok (Instr.iconst (-1), 1)) := fE fw_dX7_row_0_c 2 rfl
theorem dX7_row_5 : Eq (decode cX7_row 5) (Except.ok (Instr.if_icmp .ne 10, 3)) := fE fw_dX7_row_0_c 3 rfl
theorem dX7_row_8 : Eq (decode cX7_row 8) (Except.ok (Instr.aload_n 0, 1)) := fE fw_dX7_row_0_c 4 rfl
theorem dX7_row_9 : Eq (decode cX7_row 9) (Except.ok (Instr.bipush (-2), 2)) := fE fw_dX7_row_0_c 5 rfl
theorem dX7_row_11 : Eq (decode cX7_row 11) (Except.ok (Instr.invokevirtual 91, 3)) := fE fw_dX7_row_0_c 6 rfl
theorem dX7_row_14 : Eq (decode cX7_row 14) (Except.ok (Instr.ireturn, 1)) := fE fw_dX7_row_0_c 7 rfl
theorem dX7_row_15 : Eq (decode cX7_row 15) (Except.ok (Instr.iload_n 1, 1)) := fE fw_dX7_row_0_c 8 rfl
theorem dX7_row_16 : Eq (decode cX7_row 16) (Except.ok (Instr.ifCond .lt 11, 3)) := fE fw_dX7_row_0_c 9 rfl
theorem dX7_row_19 : Eq (decode cX7_row 19) (Except.ok (Instr.iload_n 1, 1)) := fE fw_dX7_row_0_c 10 rfl
theorem dX7_row_20 : Eq (decode cX7_row 20) (Except.ok (Instr.aload_n 0, 1)) := fE fw_dX7_row_0_c 11 rfl
theorem dX7_row_21 : Eq (decode cX7_row 21) (Except.ok (Instr.getfield 83, 3)) := fE fw_dX7_row_0_c 12 rfl
theorem dX7_row_24 : Eq (decode cX7_row 24) (Except.ok (Instr.if_icmp .lt 10, 3)) := fE fw_dX7_row_0_c 13 rfl
theorem dX7_row_27 : Eq (decode cX7_row 27) (Except.ok (Instr.aload_n 0, 1)) := fE fw_dX7_row_0_c 14 rfl
theorem dX7_row_28 : Eq (decode cX7_row 28) (Except.ok (Instr.bipush (-3), 2)) := fE fw_dX7_row_0_c 15 rfl
theorem dX7_row_30 : Eq (decode cX7_row 30) (Except.ok (Instr.invokevirtual 91, 3)) := fE fw_dX7_row_0_c 16 rfl
theorem dX7_row_33 : Eq (decode cX7_row 33) (Except.ok (Instr.ireturn, 1)) := fE fw_dX7_row_0_c 17 rfl
theorem dX7_row_34 : Eq (decode cX7_row 34) (Except.ok (Instr.aload_n 0, 1)) := fE fw_dX7_row_0_c 18 rfl
theorem dX7_row_35 : Eq (decode cX7_row 35) (Except.ok (Instr.getfield 70, 3)) := fE fw_dX7_row_0_c 19 rfl
def fw_dX7_row_38 : List (Nat × Instr × Nat) := [(38, .iload_n 1, 1), (39, .saload, 1), (40, .ireturn, 1)]
theorem fw_dX7_row_38_c : fchk 38 (cX7_row.data.toList.drop 38) fw_dX7_row_38 = true := by decide +kernel
theorem dX7_row_38 : Eq (decode cX7_row 38) (Except.ok (Instr.iload_n 1, 1)) := fE fw_dX7_row_38_c 0 rfl
theorem dX7_row_39 : Eq (decode cX7_row 39) (Except.ok (Instr.saload, 1)) := fE fw_dX7_row_38_c 1 rfl
theorem dX7_row_40 : Eq (decode cX7_row 40) (Except.ok (Instr.ireturn, 1)) := fE fw_dX7_row_38_c 2 rfl
set_option maxRecDepth 20000 in
theorem gi_wsX7_copy_0 : GoodIn wsX7_copy wsX7_copy := goodIn_sub (fun _ h => h) (by decide +kernel)
set_option maxRecDepth 20000 in
theorem gi_wsX7_copy_1 : GoodIn wsX7_copy wsX70 := goodIn_sub (fun w h => List.mem_cons_of_mem _ (List.mem_append_right _ h)) (by decide +kernel)
def bs_wsX7_copy : List (List Cond) := [wsX7_copy, wsX70]
theorem bs_wsX7_copy_in : ∀ b ∈ bs_wsX7_copy, GoodIn wsX7_copy b := List.forall_mem_cons.mpr ⟨gi_wsX7_copy_0, List.forall_mem_cons.mpr ⟨gi_wsX7_copy_1, (fun _ h => absurd h List.not_mem_nil)⟩⟩
set_option maxRecDepth 20000 in
theorem ggX7_copy_X7_refuse : GoodIn wsX7_copy wsX7_refuse := goodIn_k (gi_q bs_wsX7_copy_in _ [(0, 11)] rfl) (goodIn_app (gi_q bs_wsX7_copy_in _ [(0, 12)] rfl) (gi_wsX7_copy_1))
set_option maxRecDepth 20000 in
theorem gX7_copy_X7_refuse : GoodIn wsX7_copy (wsV RX7 91 RX7 yX7_refuse wsX7_refuse) := goodIn_app (gi_q bs_wsX7_copy_in _ [(0, 7), (0, 8), (0, 9), (0, 10)] rfl) ggX7_copy_X7_refuse
def fw_dX7_copy_0 : List (Nat × Instr × Nat) := [(0, .aload_n 0, 1), (1, .getfield 83, 3), (4, .iconst (-1), 1), (5, .if_icmp .ne 10, 3), (8, .aload_n 0, 1), (9, .bipush (-2), 2), (11, .invokevirtual 91, 3), (14, .ireturn, 1), (15, .iload_n 3, 1), (16, .ifCond .ge 10, 3), (19, .aload_n 0, 1), (20, .bipush (-4), 2), (22, .invokevirtual 91, 3), (25, .ireturn, 1), (26, .iload_n 3, 1), (27, .aload_n 0, 1), (28, .getfield 83, 3), (31, .if_icmp .gt 31, 3), (34, .iload_n 1, 1), (35, .ifCond .lt 27, 3)]
theorem fw_dX7_copy_0_c : fchk 0 (cX7_copy.data.toList.drop 0) fw_dX7_copy_0 = true := by decide +kernel
theorem dX7_copy_0 : Eq (decode cX7_copy 0) (Except.ok (Instr.aload_n 0, 1)) := fE fw_dX7_copy_0_c 0 rfl
theorem dX7_copy_1 : Eq (decode cX7_copy 1) (Except.ok (Instr.getfield 83, 3)) := fE fw_dX7_copy_0_c 1 rfl
theorem dX7_copy_4 : Eq (decode cX7_copy 4) (Except.ok (Instr.iconst (-1), 1)) := fE fw_dX7_copy_0_c 2 rfl
theorem dX7_copy_5 : Eq (decode cX7_copy 5) (Except.ok (Instr.if_icmp .ne 10, 3)) := fE fw_dX7_copy_0_c 3 rfl
theorem dX7_copy_8 : Eq (decode cX7_copy 8) (Except.ok (Instr.aload_n 0, 1)) := fE fw_dX7_copy_0_c 4 rfl
theorem dX7_copy_9 : Eq (decode cX7_copy 9) (Except.ok (Instr.bipush (-2), 2)) := fE fw_dX7_copy_0_c 5 rfl
theorem dX7_copy_11 : Eq (decode cX7_copy 11) (Except.ok (Instr.invokevirtual 91, 3)) := fE fw_dX7_copy_0_c 6 rfl
theorem dX7_copy_14 : Eq (decode cX7_copy 14) (Except.ok (Instr.ireturn, 1)) := fE fw_dX7_copy_0_c 7 rfl
theorem dX7_copy_15 : Eq (decode cX7_copy 15) (Except.ok (Instr.iload_n 3, 1)) := fE fw_dX7_copy_0_c 8 rfl
theorem dX7_copy_16 : Eq (decode cX7_copy 16) (Except.ok (Instr.ifCond .ge 10, 3)) := fE fw_dX7_copy_0_c 9 rfl
theorem dX7_copy_19 : Eq (decode cX7_copy 19) (Except.ok (Instr.aload_n 0, 1)) := fE fw_dX7_copy_0_c 10 rfl
theorem dX7_copy_20 : Eq (decode cX7_copy 20) (Except.ok (Instr.bipush (-4), 2)) := fE fw_dX7_copy_0_c 11 rfl
theorem dX7_copy_22 : Eq (decode cX7_copy 22) (Except.ok (Instr.invokevirtual 91, 3)) := fE fw_dX7_copy_0_c 12 rfl
theorem dX7_copy_25 : Eq (decode cX7_copy 25) (Except.ok (Instr.ireturn, 1)) := fE fw_dX7_copy_0_c 13 rfl
theorem dX7_copy_26 : Eq (decode cX7_copy 26) (Except.ok (Instr.iload_n 3, 1)) := fE fw_dX7_copy_0_c 14 rfl
theorem dX7_copy_27 : Eq (decode cX7_copy 27) (Except.ok (Instr.aload_n 0, 1)) := fE fw_dX7_copy_0_c 15 rfl
theorem dX7_copy_28 : Eq (decode cX7_copy 28) (Except.ok (Instr.getfield 83, 3)) := fE fw_dX7_copy_0_c 16 rfl
theorem dX7_copy_31 : Eq (decode cX7_copy 31) (Except.ok (Instr.if_icmp .gt 31, 3)) := fE fw_dX7_copy_0_c 17 rfl
theorem dX7_copy_34 : Eq (decode cX7_copy 34) (Except.ok (Instr.iload_n 1, 1)) := fE fw_dX7_copy_0_c 18 rfl
theorem dX7_copy_35 : Eq (decode cX7_copy 35) (Except.ok (Instr.ifCond .lt 27, 3)) := fE fw_dX7_copy_0_c 19 rfl
def fw_dX7_copy_38 : List (Nat × Instr × Nat) := [(38, .iload_n 1, 1), (39, .aload_n 0, 1), (40, .getfield 83, 3), (43, .iload_n 3, 1), (44, .isub, 1), (45, .if_icmp .gt 17, 3), (48, .iload_n 2, 1), (49, .ifCond .lt 13, 3), (52, .iload_n 2, 1), (53, .aload_n 0, 1), (54, .getfield 83, 3), (57, .iload_n 3, 1), (58, .isub, 1), (59, .if_icmp .le 10, 3), (62, .aload_n 0, 1), (63, .bipush (-5), 2), (65, .invokevirtual 91, 3), (68, .ireturn, 1), (69, .aload_n 0, 1), (70, .getfield 70, 3)]
theorem fw_dX7_copy_38_c : fchk 38 (cX7_copy.data.toList.drop 38) fw_dX7_copy_38 = true := by decide +kernel
theorem dX7_copy_38 : Eq (decode cX7_copy 38) (Except.ok (Instr.iload_n 1, 1)) := fE fw_dX7_copy_38_c 0 rfl
theorem dX7_copy_39 : Eq (decode cX7_copy 39) (Except.ok (Instr.aload_n 0, 1)) := fE fw_dX7_copy_38_c 1 rfl
theorem dX7_copy_40 : Eq (decode cX7_copy 40) (Except.ok (Instr.getfield 83, 3)) := fE fw_dX7_copy_38_c 2 rfl
theorem dX7_copy_43 : Eq (decode cX7_copy 43) (Except.ok (Instr.iload_n 3, 1)) := fE fw_dX7_copy_38_c 3 rfl
theorem dX7_copy_44 : Eq (decode cX7_copy 44) (Except.ok (Instr.isub, 1)) := fE fw_dX7_copy_38_c 4 rfl
theorem dX7_copy_45 : Eq (decode cX7_copy 45) (Except.ok (Instr.if_icmp .gt 17, 3)) := fE fw_dX7_copy_38_c 5 rfl
theorem dX7_copy_48 : Eq (decode cX7_copy 48) (Except.ok (Instr.iload_n 2, 1)) := fE fw_dX7_copy_38_c 6 rfl
theorem dX7_copy_49 : Eq (decode cX7_copy 49) (Except.ok (Instr.ifCond .lt 13, 3)) := fE fw_dX7_copy_38_c 7 rfl
theorem dX7_copy_52 : Eq (decode cX7_copy 52) (Except.ok (Instr.iload_n 2, 1)) := fE fw_dX7_copy_38_c 8 rfl
theorem dX7_copy_53 : Eq (decode cX7_copy 53) (Except.ok (Instr.aload_n 0, 1)) := fE fw_dX7_copy_38_c 9 rfl
theorem dX7_copy_54 : Eq (decode cX7_copy 54) (Except.ok (Instr.getfield 83, 3)) := fE fw_dX7_copy_38_c 10 rfl
theorem dX7_copy_57 : Eq (decode cX7_copy 57) (Except.ok (Instr.iload_n 3, 1)) := fE fw_dX7_copy_38_c 11 rfl
theorem dX7_copy_58 : Eq (decode cX7_copy 58) (Except.ok (Instr.isub, 1)) := fE fw_dX7_copy_38_c 12 rfl
theorem dX7_copy_59 : Eq (decode cX7_copy 59) (Except.ok (Instr.if_icmp .le 10, 3)) := fE fw_dX7_copy_38_c 13 rfl
theorem dX7_copy_62 : Eq (decode cX7_copy 62) (Except.ok (Instr.aload_n 0, 1)) := fE fw_dX7_copy_38_c 14 rfl
theorem dX7_copy_63 : Eq (decode cX7_copy 63) (Except.ok (Instr.bipush (-5), 2)) := fE fw_dX7_copy_38_c 15 rfl
theorem dX7_copy_65 : Eq (decode cX7_copy 65) (Except.ok (Instr.invokevirtual 91, 3)) := fE fw_dX7_copy_38_c 16 rfl
theorem dX7_copy_68 : Eq (decode cX7_copy 68) (Except.ok (Instr.ireturn, 1)) := fE fw_dX7_copy_38_c 17 rfl
theorem dX7_copy_69 : Eq (decode cX7_copy 69) (Except.ok (Instr.aload_n 0, 1)) := fE fw_dX7_copy_38_c 18 rfl
theorem dX7_copy_70 : Eq (decode cX7_copy 70) (Except.ok (Instr.getfield 70, 3)) := fE fw_dX7_copy_38_c 19 rfl
def fw_dX7_copy_73 : List (Nat × Instr × Nat) := [(73, .iload_n 1, 1), (74, .aload_n 0, 1), (75, .getfield 70, 3), (78, .iload_n 2, 1), (79, .iload_n 3, 1), (80, .invokestatic 242, 3), (83, .iload_n 3, 1), (84, .ireturn, 1)]
theorem fw_dX7_copy_73_c : fchk 73 (cX7_copy.data.toList.drop 73) fw_dX7_copy_73 = true := by decide +kernel
theorem dX7_copy_73 : Eq (decode cX7_copy 73) (Except.ok (Instr.iload_n 1, 1)) := fE fw_dX7_copy_73_c 0 rfl
theorem dX7_copy_74 : Eq (decode cX7_copy 74) (Except.ok (Instr.aload_n 0, 1)) := fE fw_dX7_copy_73_c 1 rfl
theorem dX7_copy_75 : Eq (decode cX7_copy 75) (Except.ok (Instr.getfield 70, 3)) := fE fw_dX7_copy_73_c 2 rfl
theorem dX7_copy_78 : Eq (decode cX7_copy 78) (Except.ok (Instr.iload_n 2, 1)) := fE fw_dX7_copy_73_c 3 rfl
theorem dX7_copy_79 : Eq (decode cX7_copy 79) (Except.ok (Instr.iload_n 3, 1)) := fE fw_dX7_copy_73_c 4 rfl
theorem dX7_copy_80 : Eq (decode cX7_copy 80) (Except.ok (Instr.invokestatic 242, 3)) := fE fw_dX7_copy_73_c 5 rfl
theorem dX7_copy_83 : Eq (decode cX7_copy 83) (Except.ok (Instr.iload_n 3, 1)) := fE fw_dX7_copy_73_c 6 rfl
theorem dX7_copy_84 : Eq (decode cX7_copy 84) (Except.ok (Instr.ireturn, 1)) := fE fw_dX7_copy_73_c 7 rfl
set_option maxRecDepth 20000 in
theorem gi_wsX7_status_0 : GoodIn wsX7_status wsX7_status := goodIn_sub (fun _ h => h) (by decide +kernel)
set_option maxRecDepth 20000 in
theorem gi_wsX7_status_1 : GoodIn wsX7_status wsX70 := goodIn_sub (fun w h => List.mem_cons_of_mem _ (List.mem_append_right _ h)) (by decide +kernel)
def bs_wsX7_status : List (List Cond) := [wsX7_status, wsX70]
theorem bs_wsX7_status_in : ∀ b ∈ bs_wsX7_status, GoodIn wsX7_status b := List.forall_mem_cons.mpr ⟨gi_wsX7_status_0, List.forall_mem_cons.mpr ⟨gi_wsX7_status_1, (fun _ h => absurd h List.not_mem_nil)⟩⟩
set_option maxRecDepth 20000 in
theorem ggX7_status_X7_refuse : GoodIn wsX7_status wsX7_refuse := goodIn_k (gi_q bs_wsX7_status_in _ [(0, 6)] rfl) (goodIn_app (gi_q bs_wsX7_status_in _ [(0, 1)] rfl) (gi_wsX7_status_1))
set_option maxRecDepth 20000 in
theorem gX7_status_X7_refuse : GoodIn wsX7_status (wsV RX7 91 RX7 yX7_refuse wsX7_refuse) := goodIn_app (gi_q bs_wsX7_status_in _ [(0, 2), (0, 3), (0, 4), (0, 5)] rfl) ggX7_status_X7_refuse
def fw_dX7_status_0 : List (Nat × Instr × Nat) := [(0, .iload_n 1, 1), (1, .bipush (-2), 2), (3, .if_icmp .gt 9, 3), (6, .iload_n 1, 1), (7, .bipush (-7), 2), (9, .if_icmp .ge 10, 3), (12, .aload_n 0, 1), (13, .bipush (-6), 2), (15, .invokevirtual 91, 3), (18, .ireturn, 1), (19, .aload_n 0, 1), (20, .getfield 74, 3), (23, .iload_n 1, 1), (24, .ineg, 1), (25, .iaload, 1), (26, .ireturn, 1)]
theorem fw_dX7_status_0_c : fchk 0 (cX7_status.data.toList.drop 0) fw_dX7_status_0 = true := by decide +kernel
theorem dX7_status_0 : Eq (decode cX7_status 0) (Except.ok (Instr.iload_n 1, 1)) := fE fw_dX7_status_0_c 0 rfl
theorem dX7_status_1 : Eq (decode cX7_status 1) (Except.ok (Instr.bipush (-2), 2)) := fE fw_dX7_status_0_c 1 rfl
theorem dX7_status_3 : Eq (decode cX7_status 3) (Except.ok (Instr.if_icmp .gt 9, 3)) := fE fw_dX7_status_0_c 2 rfl
theorem dX7_status_6 : Eq (decode cX7_status 6) (Except.ok (Instr.iload_n 1, 1)) := fE fw_dX7_status_0_c 3 rfl
theorem dX7_status_7 : Eq (decode cX7_status 7) (Except.ok (Instr.bipush (-7), 2)) := fE fw_dX7_status_0_c 4 rfl
theorem dX7_status_9 : Eq (decode cX7_status 9) (Except.ok (Instr.if_icmp .ge 10, 3)) := fE fw_dX7_status_0_c 5 rfl
theorem dX7_status_12 : Eq (decode cX7_status 12) (Except.ok (Instr.aload_n 0, 1)) := fE fw_dX7_status_0_c 6 rfl
theorem dX7_status_13 : Eq (decode cX7_status 13) (Except.ok (Instr.bipush (-6), 2)) := fE fw_dX7_status_0_c 7 rfl
theorem dX7_status_15 : Eq (decode cX7_status 15) (Except.ok (Instr.invokevirtual 91, 3)) := fE fw_dX7_status_0_c 8 rfl
theorem dX7_status_18 : Eq (decode cX7_status 18) (Except.ok (Instr.ireturn, 1)) := fE fw_dX7_status_0_c 9 rfl
theorem dX7_status_19 : Eq (decode cX7_status 19) (Except.ok (Instr.aload_n 0, 1)) := fE fw_dX7_status_0_c 10 rfl
theorem dX7_status_20 : Eq (decode cX7_status 20) (Except.ok (Instr.getfield 74, 3)) := fE fw_dX7_status_0_c 11 rfl
theorem dX7_status_23 : Eq (decode cX7_status 23) (Except.ok (Instr.iload_n 1, 1)) := fE fw_dX7_status_0_c 12 rfl
theorem dX7_status_24 : Eq (decode cX7_status 24) (Except.ok (Instr.ineg, 1)) := fE fw_dX7_status_0_c 13 rfl
theorem dX7_status_25 : Eq (decode cX7_status 25) (Except.ok (Instr.iaload, 1)) := fE fw_dX7_status_0_c 14 rfl
theorem dX7_status_26 : Eq (decode cX7_status 26) (Except.ok (Instr.ireturn, 1)) := fE fw_dX7_status_0_c 15 rfl
def fw_dX7_refuse_0 : List (Nat × Instr × Nat) := [(0, .aload_n 0, 1), (1, .getfield 74, 3), (4, .iload_n 1, 1), (5, .ineg, 1), (6, .dup2, 1), (7, .iaload, 1), (8, .iconst 1, 1), (9, .iadd, 1), (10, .iastore, 1), (11, .iload_n 1, 1), (12, .ireturn, 1)]
theorem fw_dX7_refuse_0_c : fchk 0 (cX7_refuse.data.toList.drop 0) fw_dX7_refuse_0 = true := by decide +kernel
theorem dX7_refuse_0 : Eq (decode cX7_refuse 0) (Except.ok (Instr.aload_n 0, 1)) := fE fw_dX7_refuse_0_c 0 rfl
theorem dX7_refuse_1 : Eq (decode cX7_refuse 1) (Except.ok (Instr.getfield 74, 3)) := fE fw_dX7_refuse_0_c 1 rfl
theorem dX7_refuse_4 : Eq (decode cX7_refuse 4) (Except.ok (Instr.iload_n 1, 1)) := fE fw_dX7_refuse_0_c 2 rfl
theorem dX7_refuse_5 : Eq (decode cX7_refuse 5) (Except.ok (Instr.ineg, 1)) := fE fw_dX7_refuse_0_c 3 rfl
theorem dX7_refuse_6 : Eq (decode cX7_refuse 6) (Except.ok (Instr.dup2, 1)) := fE fw_dX7_refuse_0_c 4 rfl
theorem dX7_refuse_7 : Eq (decode cX7_refuse 7) (Except.ok (Instr.iaload, 1)) := fE fw_dX7_refuse_0_c 5 rfl
theorem dX7_refuse_8 : Eq (decode cX7_refuse 8) (Except.ok (Instr.iconst 1, 1)) := fE fw_dX7_refuse_0_c 6 rfl
theorem dX7_refuse_9 : Eq (decode cX7_refuse 9) (Except.ok (Instr.iadd, 1)) := fE fw_dX7_refuse_0_c 7 rfl
theorem dX7_refuse_10 : Eq (decode cX7_refuse 10) (Except.ok (Instr.iastore, 1)) := fE fw_dX7_refuse_0_c 8 rfl
theorem dX7_refuse_11 : Eq (decode cX7_refuse 11) (Except.ok (Instr.iload_n 1, 1)) := fE fw_dX7_refuse_0_c 9 rfl
theorem dX7_refuse_12 : Eq (decode cX7_refuse 12) (Except.ok (Instr.ireturn, 1)) := fE fw_dX7_refuse_0_c 10 rfl
set_option maxRecDepth 20000 in
theorem gi_wsX7_hasAct_0 : GoodIn wsX7_hasAct wsX7_hasAct := goodIn_sub (fun _ h => h) (by decide +kernel)
set_option maxRecDepth 20000 in
theorem gi_wsX7_hasAct_1 : GoodIn wsX7_hasAct wsX70 := goodIn_sub (fun w h => List.mem_cons_of_mem _ (List.mem_append_left _ (List.mem_append_right _ h))) (by decide +kernel)
set_option maxRecDepth 20000 in
theorem gi_wsX7_hasAct_2 : GoodIn wsX7_hasAct wsX50 := goodIn_sub (fun w h => List.mem_cons_of_mem _ (List.mem_append_right _ h)) (by decide +kernel)
def bs_wsX7_hasAct : List (List Cond) := [wsX7_hasAct, wsX70, wsX50]
theorem bs_wsX7_hasAct_in : ∀ b ∈ bs_wsX7_hasAct, GoodIn wsX7_hasAct b := List.forall_mem_cons.mpr ⟨gi_wsX7_hasAct_0, List.forall_mem_cons.mpr ⟨gi_wsX7_hasAct_1, List.forall_mem_cons.mpr ⟨gi_wsX7_hasAct_2, (fun _ h => absurd h List.not_mem_nil)⟩⟩⟩
set_option maxRecDepth 20000 in
theorem ggX7_hasAct_X7_isInstruction : GoodIn wsX7_hasAct wsX7_isInstruction := goodIn_k (gi_q bs_wsX7_hasAct_in _ [(0, 6)] rfl) (gi_q bs_wsX7_hasAct_in _ [] rfl)
set_option maxRecDepth 20000 in
theorem gX7_hasAct_X7_isInstruction : GoodIn wsX7_hasAct (va_wsS RX7 111 yX7_isInstruction wsX7_isInstruction) := goodIn_app (gi_q bs_wsX7_hasAct_in _ [(0, 3), (0, 4), (0, 5)] rfl) ggX7_hasAct_X7_isInstruction
def fw_dX7_hasAct_0 : List (Nat × Instr × Nat) := [(0, .iload_n 1, 1), (1, .invokestatic 111, 3), (4, .ifCond .eq 24, 3), (7, .iload_n 2, 1), (8, .ifCond .lt 20, 3), (11, .iload_n 2, 1), (12, .aload_n 0, 1), (13, .getfield 19, 3), (16, .getfield 118, 3), (19, .iload_n 1, 1), (20, .iaload, 1), (21, .if_icmp .ge 7, 3), (24, .iconst 1, 1), (25, .goto 4, 3), (28, .iconst 0, 1), (29, .ireturn, 1)]
theorem fw_dX7_hasAct_0_c : fchk 0 (cX7_hasAct.data.toList.drop 0) fw_dX7_hasAct_0 = true := by decide +kernel
theorem dX7_hasAct_0 : Eq (decode cX7_hasAct 0) (Except.ok (Instr.iload_n 1, 1)) := fE fw_dX7_hasAct_0_c 0 rfl
theorem dX7_hasAct_1 : Eq (decode cX7_hasAct 1) (Except.ok (Instr.invokestatic 111, 3)) := fE fw_dX7_hasAct_0_c 1 rfl
theorem dX7_hasAct_4 : Eq (decode cX7_hasAct 4) (Except.ok (Instr.ifCond .eq 24, 3)) := fE fw_dX7_hasAct_0_c 2 rfl
theorem dX7_hasAct_7 : Eq (decode cX7_hasAct 7) (Except.ok (Instr.iload_n 2, 1)) := fE fw_dX7_hasAct_0_c 3 rfl
theorem dX7_hasAct_8 : Eq (decode cX7_hasAct 8) (Except.ok (Instr.ifCond .lt 20, 3)) := fE fw_dX7_hasAct_0_c 4 rfl
theorem dX7_hasAct_11 : Eq (decode cX7_hasAct 11) (Except.ok (Instr.iload_n 2, 1)) := fE fw_dX7_hasAct_0_c 5 rfl
theorem dX7_hasAct_12 : Eq (decode cX7_hasAct 12) (Except.ok (Instr.aload_n 0, 1)) := fE fw_dX7_hasAct_0_c 6 rfl
theorem dX7_hasAct_13 : Eq (decode cX7_hasAct 13) (Except.ok (Instr.getfield 19, 3)) := fE fw_dX7_hasAct_0_c 7 rfl
theorem dX7_hasAct_16 : Eq (decode cX7_hasAct 16) (Except.ok (Instr.getfield 118, 3)) := fE fw_dX7_hasAct_0_c 8 rfl
theorem dX7_hasAct_19 : Eq (decode cX7_hasAct 19) (Except.ok (Instr.iload_n 1, 1)) := fE fw_dX7_hasAct_0_c 9 rfl
theorem dX7_hasAct_20 : Eq (decode cX7_hasAct 20) (Except.ok (Instr.iaload, 1)) := fE fw_dX7_hasAct_0_c 10 rfl
theorem dX7_hasAct_21 : Eq (decode cX7_hasAct 21) (Except.ok (Instr.if_icmp .ge 7, 3)) := fE fw_dX7_hasAct_0_c 11 rfl
theorem dX7_hasAct_24 : Eq (decode cX7_hasAct 24) (Except.ok (Instr.iconst 1, 1)) := fE fw_dX7_hasAct_0_c 12 rfl
theorem dX7_hasAct_25 : Eq (decode cX7_hasAct 25) (Except.ok (Instr.goto 4, 3)) := fE fw_dX7_hasAct_0_c 13 rfl
theorem dX7_hasAct_28 : Eq (decode cX7_hasAct 28) (Except.ok (Instr.iconst 0, 1)) := fE fw_dX7_hasAct_0_c 14 rfl
theorem dX7_hasAct_29 : Eq (decode cX7_hasAct 29) (Except.ok (Instr.ireturn, 1)) := fE fw_dX7_hasAct_0_c 15 rfl
def fw_dX7_takeAwayPackedOf_0 : List (Nat × Instr × Nat) := [(0, .aload_n 0, 1), (1, .getfield 28, 3), (4, .getfield 172, 3), (7, .iload_n 1, 1), (8, .iconst 0, 1), (9, .bastore, 1), (10, .aload_n 0, 1), (11, .getfield 37, 3), (14, .iconst 0, 1), (15, .putfield 161, 3), (18, .return_, 1)]
theorem fw_dX7_takeAwayPackedOf_0_c : fchk 0 (cX7_takeAwayPackedOf.data.toList.drop 0) fw_dX7_takeAwayPackedOf_0 = true := by decide +kernel
theorem dX7_takeAwayPackedOf_0 : Eq (decode cX7_takeAwayPackedOf 0) (Except.ok (Instr.aload_n 0, 1)) := fE fw_dX7_takeAwayPackedOf_0_c 0 rfl
theorem dX7_takeAwayPackedOf_1 : Eq (decode cX7_takeAwayPackedOf 1) (Except.ok (Instr.getfield 28, 3)) := fE fw_dX7_takeAwayPackedOf_0_c 1 rfl
theorem dX7_takeAwayPackedOf_4 : Eq (decode cX7_takeAwayPackedOf 4) (Except.ok (Instr.getfield 172, 3)) := fE fw_dX7_takeAwayPackedOf_0_c 2 rfl
theorem dX7_takeAwayPackedOf_7 : Eq (decode cX7_takeAwayPackedOf 7) (Except.ok (Instr.iload_n 1, 1)) := fE fw_dX7_takeAwayPackedOf_0_c 3 rfl
theorem dX7_takeAwayPackedOf_8 : Eq (decode cX7_takeAwayPackedOf 8) (Except.ok (Instr.iconst 0, 1)) := fE fw_dX7_takeAwayPackedOf_0_c 4 rfl
theorem dX7_takeAwayPackedOf_9 : Eq (decode cX7_takeAwayPackedOf 9) (Except.ok (Instr.bastore, 1)) := fE fw_dX7_takeAwayPackedOf_0_c 5 rfl
theorem dX7_takeAwayPackedOf_10 : Eq (decode cX7_takeAwayPackedOf 10) (Except.ok (Instr.aload_n 0, 1)) := fE fw_dX7_takeAwayPackedOf_0_c 6 rfl
theorem dX7_takeAwayPackedOf_11 : Eq (decode cX7_takeAwayPackedOf 11) (Except.ok (Instr.getfield 37, 3)) := fE fw_dX7_takeAwayPackedOf_0_c 7 rfl
theorem dX7_takeAwayPackedOf_14 : Eq (decode cX7_takeAwayPackedOf 14) (Except.ok (Instr.iconst 0, 1)) := fE fw_dX7_takeAwayPackedOf_0_c 8 rfl
theorem dX7_takeAwayPackedOf_15 : Eq (decode cX7_takeAwayPackedOf 15) (Except.ok (Instr.putfield 161, 3)) := fE fw_dX7_takeAwayPackedOf_0_c 9 rfl
theorem dX7_takeAwayPackedOf_18 : Eq (decode cX7_takeAwayPackedOf 18) (Except.ok (Instr.return_, 1)) := fE fw_dX7_takeAwayPackedOf_0_c 10 rfl
def fw_dX7_keepTold_0 : List (Nat × Instr × Nat) := [(0, .aload_n 0, 1), (1, .getfield 59, 3), (4, .iconst 0, 1), (5, .aload_n 0, 1), (6, .getfield 55, 3), (9, .getfield 248, 3), (12, .iastore, 1), (13, .aload_n 0, 1), (14, .getfield 59, 3), (17, .iconst 1, 1), (18, .aload_n 0, 1), (19, .getfield 55, 3), (22, .getfield 251, 3), (25, .iastore, 1), (26, .aload_n 0, 1), (27, .getfield 59, 3), (30, .iconst 2, 1), (31, .aload_n 0, 1), (32, .getfield 55, 3), (35, .getfield 254, 3)]
theorem fw_dX7_keepTold_0_c : fchk 0 (cX7_keepTold.data.toList.drop 0) fw_dX7_keepTold_0 = true := by decide +kernel
theorem dX7_keepTold_0 : Eq (decode cX7_keepTold 0) (Except.ok (Instr.aload_n 0, 1)) := fE fw_dX7_keepTold_0_c 0 rfl
theorem dX7_keepTold_1 : Eq (decode cX7_keepTold 1) (Except.ok (Instr.getfield 59, 3)) := fE fw_dX7_keepTold_0_c 1 rfl
theorem dX7_keepTold_4 : Eq (decode cX7_keepTold 4) (Except.ok (Instr.iconst 0, 1)) := fE fw_dX7_keepTold_0_c 2 rfl
theorem dX7_keepTold_5 : Eq (decode cX7_keepTold 5) (Except.ok (Instr.aload_n 0, 1)) := fE fw_dX7_keepTold_0_c 3 rfl
theorem dX7_keepTold_6 : Eq (decode cX7_keepTold 6) (Except.ok (Instr.getfield 55, 3)) := fE fw_dX7_keepTold_0_c 4 rfl
theorem dX7_keepTold_9 : Eq (decode cX7_keepTold 9) (Except.ok (Instr.getfield 248, 3)) := fE fw_dX7_keepTold_0_c 5 rfl
theorem dX7_keepTold_12 : Eq (decode cX7_keepTold 12) (Except.ok (Instr.iastore, 1)) := fE fw_dX7_keepTold_0_c 6 rfl
theorem dX7_keepTold_13 : Eq (decode cX7_keepTold 13) (Except.ok (Instr.aload_n 0, 1)) := fE fw_dX7_keepTold_0_c 7 rfl
theorem dX7_keepTold_14 : Eq (decode cX7_keepTold 14) (Except.ok (Instr.getfield 59, 3)) := fE fw_dX7_keepTold_0_c 8 rfl
theorem dX7_keepTold_17 : Eq (decode cX7_keepTold 17) (Except.ok (Instr.iconst 1, 1)) := fE fw_dX7_keepTold_0_c 9 rfl
theorem dX7_keepTold_18 : Eq (decode cX7_keepTold 18) (Except.ok (Instr.aload_n 0, 1)) := fE fw_dX7_keepTold_0_c 10 rfl
theorem dX7_keepTold_19 : Eq (decode cX7_keepTold 19) (Except.ok (Instr.getfield 55, 3)) := fE fw_dX7_keepTold_0_c 11 rfl
theorem dX7_keepTold_22 : Eq (decode cX7_keepTold 22) (Except.ok (Instr.getfield 251, 3)) := fE fw_dX7_keepTold_0_c 12 rfl
theorem dX7_keepTold_25 : Eq (decode cX7_keepTold 25) (Except.ok (Instr.iastore, 1)) := fE fw_dX7_keepTold_0_c 13 rfl
theorem dX7_keepTold_26 : Eq (decode cX7_keepTold 26) (Except.ok (Instr.aload_n 0, 1)) := fE fw_dX7_keepTold_0_c 14 rfl
theorem dX7_keepTold_27 : Eq (decode cX7_keepTold 27) (Except.ok (Instr.getfield 59, 3)) := fE fw_dX7_keepTold_0_c 15 rfl
theorem dX7_keepTold_30 : Eq (decode cX7_keepTold 30) (Except.ok (Instr.iconst 2, 1)) := fE fw_dX7_keepTold_0_c 16 rfl
theorem dX7_keepTold_31 : Eq (decode cX7_keepTold 31) (Except.ok (Instr.aload_n 0, 1)) := fE fw_dX7_keepTold_0_c 17 rfl
theorem dX7_keepTold_32 : Eq (decode cX7_keepTold 32) (Except.ok (Instr.getfield 55, 3)) := fE fw_dX7_keepTold_0_c 18 rfl
theorem dX7_keepTold_35 : Eq (decode cX7_keepTold 35) (Except.ok (Instr.getfield 254, 3)) := fE fw_dX7_keepTold_0_c 19 rfl
def fw_dX7_keepTold_38 : List (Nat × Instr × Nat) := [(38, .iastore, 1), (39, .return_, 1)]
theorem fw_dX7_keepTold_38_c : fchk 38 (cX7_keepTold.data.toList.drop 38) fw_dX7_keepTold_38 = true := by decide +kernel
theorem dX7_keepTold_38 : Eq (decode cX7_keepTold 38) (Except.ok (Instr.iastore, 1)) := fE fw_dX7_keepTold_38_c 0 rfl
theorem dX7_keepTold_39 : Eq (decode cX7_keepTold 39) (Except.ok (Instr.return_, 1)) := fE fw_dX7_keepTold_38_c 1 rfl
set_option maxRecDepth 20000 in
theorem gi_wsX7_doStep_0 : GoodIn wsX7_doStep wsX7_doStep_r1 := goodIn_sub (fun w h => List.mem_cons_of_mem _ (List.mem_append_left _ (List.mem_append_left _ (List.mem_append_left _ (List.mem_append_left _ (List.mem_append_left _ (List.mem_append_left _ (List.mem_append_left _ h)))))))) (by decide +kernel)
set_option maxRecDepth 20000 in
theorem gi_wsX7_doStep_1 : GoodIn wsX7_doStep wsX7_doStep_r2 := goodIn_sub (fun w h => List.mem_cons_of_mem _ (List.mem_append_left _ (List.mem_append_left _ (List.mem_append_left _ (List.mem_append_left _ (List.mem_append_left _ (List.mem_append_left _ (List.mem_append_right _ (List.mem_append_left _ h))))))))) (by decide +kernel)
set_option maxRecDepth 20000 in
theorem gi_wsX7_doStep_2 : GoodIn wsX7_doStep wsX7_doStep_r3 := goodIn_sub (fun w h => List.mem_cons_of_mem _ (List.mem_append_left _ (List.mem_append_left _ (List.mem_append_left _ (List.mem_append_left _ (List.mem_append_left _ (List.mem_append_left _ (List.mem_append_right _ (List.mem_append_right _ (List.mem_append_left _ h)))))))))) (by decide +kernel)
set_option maxRecDepth 20000 in
theorem gi_wsX7_doStep_3 : GoodIn wsX7_doStep wsX7_doStep_r4 := goodIn_sub (fun w h => List.mem_cons_of_mem _ (List.mem_append_left _ (List.mem_append_left _ (List.mem_append_left _ (List.mem_append_left _ (List.mem_append_left _ (List.mem_append_left _ (List.mem_append_right _ (List.mem_append_right _ (List.mem_append_right _ (List.mem_append_left _ h))))))))))) (by decide +kernel)
set_option maxRecDepth 20000 in
theorem gi_wsX7_doStep_4 : GoodIn wsX7_doStep wsX7_doStep_r5 := goodIn_sub (fun w h => List.mem_cons_of_mem _ (List.mem_append_left _ (List.mem_append_left _ (List.mem_append_left _ (List.mem_append_left _ (List.mem_append_left _ (List.mem_append_left _ (List.mem_append_right _ (List.mem_append_right _ (List.mem_append_right _ (List.mem_append_right _ (List.mem_append_left _ h)))))))))))) (by decide +kernel)
set_option maxRecDepth 20000 in
theorem gi_wsX7_doStep_5 : GoodIn wsX7_doStep wsX7_doStep_r6 := goodIn_sub (fun w h => List.mem_cons_of_mem _ (List.mem_append_left _ (List.mem_append_left _ (List.mem_append_left _ (List.mem_append_left _ (List.mem_append_left _ (List.mem_append_left _ (List.mem_append_right _ (List.mem_append_right _ (List.mem_append_right _ (List.mem_append_right _ (List.mem_append_right _ (List.mem_append_left _ h))))))))))))) (by decide +kernel)
set_option maxRecDepth 20000 in
theorem gi_wsX7_doStep_6 : GoodIn wsX7_doStep wsX7_doStep_r7 := goodIn_sub (fun w h => List.mem_cons_of_mem _ (List.mem_append_left _ (List.mem_append_left _ (List.mem_append_left _ (List.mem_append_left _ (List.mem_append_left _ (List.mem_append_left _ (List.mem_append_right _ (List.mem_append_right _ (List.mem_append_right _ (List.mem_append_right _ (List.mem_append_right _ (List.mem_append_right _ (List.mem_append_left _ h)))))))))))))) (by decide +kernel)
set_option maxRecDepth 20000 in
theorem gi_wsX7_doStep_7 : GoodIn wsX7_doStep wsX7_doStep_r8 := goodIn_sub (fun w h => List.mem_cons_of_mem _ (List.mem_append_left _ (List.mem_append_left _ (List.mem_append_left _ (List.mem_append_left _ (List.mem_append_left _ (List.mem_append_left _ (List.mem_append_right _ (List.mem_append_right _ (List.mem_append_right _ (List.mem_append_right _ (List.mem_append_right _ (List.mem_append_right _ (List.mem_append_right _ h)))))))))))))) (by decide +kernel)
set_option maxRecDepth 20000 in
theorem gi_wsX7_doStep_8 : GoodIn wsX7_doStep wsX70 := goodIn_sub (fun w h => List.mem_cons_of_mem _ (List.mem_append_left _ (List.mem_append_left _ (List.mem_append_left _ (List.mem_append_left _ (List.mem_append_left _ (List.mem_append_right _ h))))))) (by decide +kernel)
set_option maxRecDepth 20000 in
theorem gi_wsX7_doStep_9 : GoodIn wsX7_doStep wsX20 := goodIn_sub (fun w h => List.mem_cons_of_mem _ (List.mem_append_left _ (List.mem_append_left _ (List.mem_append_left _ (List.mem_append_left _ (List.mem_append_right _ h)))))) (by decide +kernel)
set_option maxRecDepth 20000 in
theorem gi_wsX7_doStep_10 : GoodIn wsX7_doStep wsX30 := goodIn_sub (fun w h => List.mem_cons_of_mem _ (List.mem_append_left _ (List.mem_append_left _ (List.mem_append_left _ (List.mem_append_right _ h))))) (by decide +kernel)
set_option maxRecDepth 20000 in
theorem gi_wsX7_doStep_11 : GoodIn wsX7_doStep wsX60 := goodIn_sub (fun w h => List.mem_cons_of_mem _ (List.mem_append_left _ (List.mem_append_left _ (List.mem_append_right _ h)))) (by decide +kernel)
set_option maxRecDepth 20000 in
theorem gi_wsX7_doStep_12 : GoodIn wsX7_doStep wsX50 := goodIn_sub (fun w h => List.mem_cons_of_mem _ (List.mem_append_left _ (List.mem_append_right _ h))) (by decide +kernel)
set_option maxRecDepth 20000 in
theorem gi_wsX7_doStep_13 : GoodIn wsX7_doStep wsX00 := goodIn_sub (fun w h => List.mem_cons_of_mem _ (List.mem_append_right _ h)) (by decide +kernel)
def bs_wsX7_doStep : List (List Cond) := [wsX7_doStep_r1, wsX7_doStep_r2, wsX7_doStep_r3, wsX7_doStep_r4, wsX7_doStep_r5, wsX7_doStep_r6, wsX7_doStep_r7, wsX7_doStep_r8, wsX70, wsX20, wsX30, wsX60, wsX50, wsX00]
theorem bs_wsX7_doStep_in : ∀ b ∈ bs_wsX7_doStep, GoodIn wsX7_doStep b := List.forall_mem_cons.mpr ⟨gi_wsX7_doStep_0, List.forall_mem_cons.mpr ⟨gi_wsX7_doStep_1, List.forall_mem_cons.mpr ⟨gi_wsX7_doStep_2, List.forall_mem_cons.mpr ⟨gi_wsX7_doStep_3, List.forall_mem_cons.mpr ⟨gi_wsX7_doStep_4, List.forall_mem_cons.mpr ⟨gi_wsX7_doStep_5, List.forall_mem_cons.mpr ⟨gi_wsX7_doStep_6, List.forall_mem_cons.mpr ⟨gi_wsX7_doStep_7, List.forall_mem_cons.mpr ⟨gi_wsX7_doStep_8, List.forall_mem_cons.mpr ⟨gi_wsX7_doStep_9, List.forall_mem_cons.mpr ⟨gi_wsX7_doStep_10, List.forall_mem_cons.mpr ⟨gi_wsX7_doStep_11, List.forall_mem_cons.mpr ⟨gi_wsX7_doStep_12, List.forall_mem_cons.mpr ⟨gi_wsX7_doStep_13, (fun _ h => absurd h List.not_mem_nil)⟩⟩⟩⟩⟩⟩⟩⟩⟩⟩⟩⟩⟩⟩
set_option maxRecDepth 20000 in
theorem ggX7_doStep_X3_make : GoodIn wsX7_doStep wsX3_make := goodIn_k (gi_q bs_wsX7_doStep_in _ [(0, 12)] rfl) (goodIn_app (goodIn_app (goodIn_app (goodIn_app (gi_q bs_wsX7_doStep_in _ [(0, 13), (0, 14), (0, 15), (0, 16), (0, 17), (0, 18), (0, 19), (0, 20), (0, 21), (0, 22), (0, 23), (1, 0), (1, 1), (1, 2), (1, 3), (1, 4), (1, 5), (1, 6), (1, 7), (1, 8), (1, 9), (1, 10), (1, 11), (1, 12)] rfl) (goodIn_app (gi_q bs_wsX7_doStep_in _ [(1, 13), (1, 14), (1, 15), (1, 16), (1, 17), (1, 18), (1, 19), (1, 20), (1, 21), (1, 22), (1, 23), (2, 0), (2, 1), (2, 2), (2, 3), (2, 4), (2, 5), (2, 6), (2, 7), (2, 8), (2, 9), (2, 10), (2, 11), (2, 12)] rfl) (goodIn_app (gi_q bs_wsX7_doStep_in _ [(2, 13), (2, 14), (2, 15), (2, 16), (2, 17), (2, 18), (2, 19), (2, 20), (2, 21), (2, 22), (2, 23), (3, 0), (3, 1), (3, 2), (3, 3), (3, 4), (3, 5), (3, 6), (3, 7), (3, 8), (3, 9), (3, 10), (3, 11), (3, 12)] rfl) (gi_q bs_wsX7_doStep_in _ [(3, 13), (3, 14), (3, 15), (3, 16), (3, 17), (3, 18), (3, 19), (3, 20), (3, 21), (3, 22), (3, 23), (4, 0), (4, 1), (4, 2)] rfl)))) (gi_wsX7_doStep_10)) (gi_wsX7_doStep_11)) (gi_wsX7_doStep_12))
set_option maxRecDepth 20000 in
theorem gX7_doStep_X3_make : GoodIn wsX7_doStep (wsV RX7 168 RX3 yX3_make wsX3_make) := goodIn_app (gi_q bs_wsX7_doStep_in _ [(0, 8), (0, 9), (0, 10), (0, 11)] rfl) ggX7_doStep_X3_make
set_option maxRecDepth 20000 in
theorem ggX7_doStep_X2_put : GoodIn wsX7_doStep wsX2_put := goodIn_k (gi_q bs_wsX7_doStep_in _ [(4, 7)] rfl) (goodIn_app (gi_q bs_wsX7_doStep_in _ [(4, 8), (4, 9), (4, 10), (4, 11), (4, 6), (4, 12), (4, 13)] rfl) (gi_wsX7_doStep_9))
set_option maxRecDepth 20000 in
theorem gX7_doStep_X2_put : GoodIn wsX7_doStep (wsV RX7 101 RX2 yX2_put wsX2_put) := goodIn_app (gi_q bs_wsX7_doStep_in _ [(4, 3), (4, 4), (4, 5), (4, 6)] rfl) ggX7_doStep_X2_put
set_option maxRecDepth 20000 in
theorem ggX7_doStep_X0_perform : GoodIn wsX7_doStep wsX0_perform := goodIn_k (gi_q bs_wsX7_doStep_in _ [(4, 18)] rfl) (goodIn_app (goodIn_app (goodIn_app (goodIn_app (goodIn_app (gi_q bs_wsX7_doStep_in _ [(4, 19), (4, 20), (4, 21), (4, 22), (4, 23), (5, 0), (5, 1), (5, 2), (5, 3), (5, 4), (5, 5), (5, 6), (4, 6), (5, 7), (5, 8), (1, 16), (1, 17), (1, 18), (5, 9), (5, 10), (5, 11), (4, 17), (5, 12), (5, 13)] rfl) (goodIn_app (gi_q bs_wsX7_doStep_in _ [(5, 14), (5, 15), (3, 13), (3, 14), (5, 16), (5, 17), (5, 18), (5, 19), (5, 20), (5, 21), (5, 22), (5, 23), (6, 0), (6, 1), (6, 2), (6, 3), (6, 4), (6, 5), (6, 6), (6, 7), (6, 8), (6, 9), (6, 10), (0, 2)] rfl) (goodIn_app (gi_q bs_wsX7_doStep_in _ [(6, 11), (6, 12), (6, 13), (6, 14), (6, 15), (6, 16), (6, 17), (6, 18), (6, 19), (4, 10), (4, 11), (4, 12), (4, 13), (6, 20), (6, 21), (6, 22), (6, 23), (4, 8), (7, 0), (7, 1), (7, 2), (7, 3), (7, 4), (7, 5)] rfl) (gi_q bs_wsX7_doStep_in _ [(7, 6), (4, 4), (4, 5), (4, 7), (4, 9), (7, 7), (3, 7), (3, 8), (3, 9), (3, 10), (3, 11), (3, 12)] rfl)))) (gi_wsX7_doStep_13)) (gi_wsX7_doStep_10)) (gi_wsX7_doStep_12)) (gi_wsX7_doStep_9))
set_option maxRecDepth 20000 in
theorem gX7_doStep_X0_perform : GoodIn wsX7_doStep (wsV RX7 216 RX0 yX0_perform wsX0_perform) := goodIn_app (gi_q bs_wsX7_doStep_in _ [(4, 14), (4, 15), (4, 16), (4, 17)] rfl) ggX7_doStep_X0_perform
set_option maxRecDepth 20000 in
theorem ggX7_doStep_X7_keepTold : GoodIn wsX7_doStep wsX7_keepTold := goodIn_k (gi_q bs_wsX7_doStep_in _ [(7, 11)] rfl) (goodIn_app (goodIn_app (gi_q bs_wsX7_doStep_in _ [(7, 12), (0, 6), (7, 13), (7, 14), (7, 15)] rfl) (gi_wsX7_doStep_8)) (gi_wsX7_doStep_13))
set_option maxRecDepth 20000 in
theorem gX7_doStep_X7_keepTold : GoodIn wsX7_doStep (wsV RX7 220 RX7 yX7_keepTold wsX7_keepTold) := goodIn_app (gi_q bs_wsX7_doStep_in _ [(7, 8), (7, 9), (7, 10), (1, 17)] rfl) ggX7_doStep_X7_keepTold
def fw_dX7_doStep_0 : List (Nat × Instr × Nat) := [(0, .aload_n 0, 1), (1, .getfield 12, 3), (4, .getfield 98, 3), (7, .bipush 7, 2), (9, .laload, 1), (10, .lstore_n 1, 1), (11, .lload_n 1, 1), (12, .ldc2_w 257, 3), (15, .lcmp, 1), (16, .ifCond .lt 5, 3), (19, .iconst 1, 1), (20, .ireturn, 1), (21, .aload_n 0, 1), (22, .getfield 63, 3), (25, .aload_n 0, 1), (26, .getfield 12, 3), (29, .getfield 98, 3), (32, .bipush 10, 2), (34, .lload_n 1, 1), (35, .l2i, 1)]
theorem fw_dX7_doStep_0_c : fchk 0 (cX7_doStep.data.toList.drop 0) fw_dX7_doStep_0 = true := by decide +kernel
theorem dX7_doStep_0 : Eq (decode cX7_doStep 0) (Except.ok (Instr.aload_n 0, 1)) := fE fw_dX7_doStep_0_c 0 rfl
theorem dX7_doStep_1 : Eq (decode cX7_doStep 1) (Except.ok (Instr.getfield 12, 3)) := fE fw_dX7_doStep_0_c 1 rfl
theorem dX7_doStep_4 : Eq (decode cX7_doStep 4) (Except.ok (Instr.getfield 98, 3)) := fE fw_dX7_doStep_0_c 2 rfl
theorem dX7_doStep_7 : Eq (decode cX7_doStep 7) (Except.ok (Instr.bipush 7, 2)) := fE fw_dX7_doStep_0_c 3 rfl
theorem dX7_doStep_9 : Eq (decode cX7_doStep 9) (Except.ok (Instr.laload, 1)) := fE fw_dX7_doStep_0_c 4 rfl
theorem dX7_doStep_10 : Eq (decode cX7_doStep 10) (Except.ok (Instr.lstore_n 1, 1)) := fE fw_dX7_doStep_0_c 5 rfl
theorem dX7_doStep_11 : Eq (decode cX7_doStep 11) (Except.ok (Instr.lload_n 1, 1)) := fE fw_dX7_doStep_0_c 6 rfl
theorem dX7_doStep_12 : Eq (decode cX7_doStep 12) (Except.ok (Instr.ldc2_w 257, 3)) := fE fw_dX7_doStep_0_c 7 rfl
theorem dX7_doStep_15 : Eq (decode cX7_doStep 15) (Except.ok (Instr.lcmp, 1)) := fE fw_dX7_doStep_0_c 8 rfl
theorem dX7_doStep_16 : Eq (decode cX7_doStep 16) (Except.ok (Instr.ifCond .lt 5, 3)) := fE fw_dX7_doStep_0_c 9 rfl
theorem dX7_doStep_19 : Eq (decode cX7_doStep 19) (Except.ok (Instr.iconst 1, 1)) := fE fw_dX7_doStep_0_c 10 rfl
theorem dX7_doStep_20 : Eq (decode cX7_doStep 20) (Except.ok (Instr.ireturn, 1)) := fE fw_dX7_doStep_0_c 11 rfl
theorem dX7_doStep_21 : Eq (decode cX7_doStep 21) (Except.ok (Instr.aload_n 0, 1)) := fE fw_dX7_doStep_0_c 12 rfl
theorem dX7_doStep_22 : Eq (decode cX7_doStep 22) (Except.ok (Instr.getfield 63, 3)) := fE fw_dX7_doStep_0_c 13 rfl
theorem dX7_doStep_25 : Eq (decode cX7_doStep 25) (Except.ok (Instr.aload_n 0, 1)) := fE fw_dX7_doStep_0_c 14 rfl
theorem dX7_doStep_26 : Eq (decode cX7_doStep 26) (Except.ok (Instr.getfield 12, 3)) := fE fw_dX7_doStep_0_c 15 rfl
theorem dX7_doStep_29 : Eq (decode cX7_doStep 29) (Except.ok (Instr.getfield 98, 3)) := fE fw_dX7_doStep_0_c 16 rfl
theorem dX7_doStep_32 : Eq (decode cX7_doStep 32) (Except.ok (Instr.bipush 10, 2)) := fE fw_dX7_doStep_0_c 17 rfl
theorem dX7_doStep_34 : Eq (decode cX7_doStep 34) (Except.ok (Instr.lload_n 1, 1)) := fE fw_dX7_doStep_0_c 18 rfl
theorem dX7_doStep_35 : Eq (decode cX7_doStep 35) (Except.ok (Instr.l2i, 1)) := fE fw_dX7_doStep_0_c 19 rfl
def fw_dX7_doStep_36 : List (Nat × Instr × Nat) := [(36, .iadd, 1), (37, .laload, 1), (38, .ldc2_w 259, 3), (41, .lrem, 1), (42, .l2i, 1), (43, .iaload, 1), (44, .istore_n 3, 1), (45, .iload_n 3, 1), (46, .iconst (-1), 1), (47, .if_icmp .ne 5, 3), (50, .iconst 2, 1), (51, .ireturn, 1), (52, .aload_n 0, 1), (53, .getfield 28, 3), (56, .iload_n 3, 1), (57, .invokevirtual 168, 3), (60, .aload_n 0, 1), (61, .getfield 12, 3), (64, .bipush 7, 2), (66, .lload_n 1, 1)]
theorem fw_dX7_doStep_36_c : fchk 36 (cX7_doStep.data.toList.drop 36) fw_dX7_doStep_36 = true := by decide +kernel
theorem dX7_doStep_36 : Eq (decode cX7_doStep 36) (Except.ok (Instr.iadd, 1)) := fE fw_dX7_doStep_36_c 0 rfl
theorem dX7_doStep_37 : Eq (decode cX7_doStep 37) (Except.ok (Instr.laload, 1)) := fE fw_dX7_doStep_36_c 1 rfl
theorem dX7_doStep_38 : Eq (decode cX7_doStep 38) (Except.ok (Instr.ldc2_w 259, 3)) := fE fw_dX7_doStep_36_c 2 rfl
theorem dX7_doStep_41 : Eq (decode cX7_doStep 41) (Except.ok (Instr.lrem, 1)) := fE fw_dX7_doStep_36_c 3 rfl
theorem dX7_doStep_42 : Eq (decode cX7_doStep 42) (Except.ok (Instr.l2i, 1)) := fE fw_dX7_doStep_36_c 4 rfl
theorem dX7_doStep_43 : Eq (decode cX7_doStep 43) (Except.ok (Instr.iaload, 1)) := fE fw_dX7_doStep_36_c 5 rfl
theorem dX7_doStep_44 : Eq (decode cX7_doStep 44) (Except.ok (Instr.istore_n 3, 1)) := fE fw_dX7_doStep_36_c 6 rfl
theorem dX7_doStep_45 : Eq (decode cX7_doStep 45) (Except.ok (Instr.iload_n 3, 1)) := fE fw_dX7_doStep_36_c 7 rfl
theorem dX7_doStep_46 : Eq (decode cX7_doStep 46) (Except.ok (Instr.iconst (-1), 1)) := fE fw_dX7_doStep_36_c 8 rfl
theorem dX7_doStep_47 : Eq (decode cX7_doStep 47) (Except.ok (Instr.if_icmp .ne 5, 3)) := fE fw_dX7_doStep_36_c 9 rfl
theorem dX7_doStep_50 : Eq (decode cX7_doStep 50) (Except.ok (Instr.iconst 2, 1)) := fE fw_dX7_doStep_36_c 10 rfl
theorem dX7_doStep_51 : Eq (decode cX7_doStep 51) (Except.ok (Instr.ireturn, 1)) := fE fw_dX7_doStep_36_c 11 rfl
theorem dX7_doStep_52 : Eq (decode cX7_doStep 52) (Except.ok (Instr.aload_n 0, 1)) := fE fw_dX7_doStep_36_c 12 rfl
theorem dX7_doStep_53 : Eq (decode cX7_doStep 53) (Except.ok (Instr.getfield 28, 3)) := fE fw_dX7_doStep_36_c 13 rfl
theorem dX7_doStep_56 : Eq (decode cX7_doStep 56) (Except.ok (Instr.iload_n 3, 1)) := fE fw_dX7_doStep_36_c 14 rfl
theorem dX7_doStep_57 : Eq (decode cX7_doStep 57) (Except.ok (Instr.invokevirtual 168, 3)) := fE fw_dX7_doStep_36_c 15 rfl
theorem dX7_doStep_60 : Eq (decode cX7_doStep 60) (Except.ok (Instr.aload_n 0, 1)) := fE fw_dX7_doStep_36_c 16 rfl
theorem dX7_doStep_61 : Eq (decode cX7_doStep 61) (Except.ok (Instr.getfield 12, 3)) := fE fw_dX7_doStep_36_c 17 rfl
theorem dX7_doStep_64 : Eq (decode cX7_doStep 64) (Except.ok (Instr.bipush 7, 2)) := fE fw_dX7_doStep_36_c 18 rfl
theorem dX7_doStep_66 : Eq (decode cX7_doStep 66) (Except.ok (Instr.lload_n 1, 1)) := fE fw_dX7_doStep_36_c 19 rfl
def fw_dX7_doStep_67 : List (Nat × Instr × Nat) := [(67, .lconst 1, 1), (68, .ladd, 1), (69, .invokevirtual 101, 3), (72, .pop, 1), (73, .aload_n 0, 1), (74, .getfield 55, 3), (77, .iload_n 3, 1), (78, .iconst 1, 1), (79, .invokevirtual 216, 3), (82, .iconst 2, 1), (83, .if_icmp .ne 13, 3), (86, .aload_n 0, 1), (87, .dup, 1), (88, .getfield 236, 3), (91, .iconst 1, 1), (92, .iadd, 1), (93, .putfield 236, 3), (96, .aload_n 0, 1), (97, .invokevirtual 220, 3), (100, .iconst 0, 1)]
theorem fw_dX7_doStep_67_c : fchk 67 (cX7_doStep.data.toList.drop 67) fw_dX7_doStep_67 = true := by decide +kernel
theorem dX7_doStep_67 : Eq (decode cX7_doStep 67) (Except.ok (Instr.lconst 1, 1)) := fE fw_dX7_doStep_67_c 0 rfl
theorem dX7_doStep_68 : Eq (decode cX7_doStep 68) (Except.ok (Instr.ladd, 1)) := fE fw_dX7_doStep_67_c 1 rfl
theorem dX7_doStep_69 : Eq (decode cX7_doStep 69) (Except.ok (Instr.invokevirtual 101, 3)) := fE fw_dX7_doStep_67_c 2 rfl
theorem dX7_doStep_72 : Eq (decode cX7_doStep 72) (Except.ok (Instr.pop, 1)) := fE fw_dX7_doStep_67_c 3 rfl
theorem dX7_doStep_73 : Eq (decode cX7_doStep 73) (Except.ok (Instr.aload_n 0, 1)) := fE fw_dX7_doStep_67_c 4 rfl
theorem dX7_doStep_74 : Eq (decode cX7_doStep 74) (Except.ok (Instr.getfield 55, 3)) := fE fw_dX7_doStep_67_c 5 rfl
theorem dX7_doStep_77 : Eq (decode cX7_doStep 77) (Except.ok (Instr.iload_n 3, 1)) := fE fw_dX7_doStep_67_c 6 rfl
theorem dX7_doStep_78 : Eq (decode cX7_doStep 78) (Except.ok (Instr.iconst 1, 1)) := fE fw_dX7_doStep_67_c 7 rfl
theorem dX7_doStep_79 : Eq (decode cX7_doStep 79) (Except.ok (Instr.invokevirtual 216, 3)) := fE fw_dX7_doStep_67_c 8 rfl
theorem dX7_doStep_82 : Eq (decode cX7_doStep 82) (Except.ok (Instr.iconst 2, 1)) := fE fw_dX7_doStep_67_c 9 rfl
theorem dX7_doStep_83 : Eq (decode cX7_doStep 83) (Except.ok (Instr.if_icmp .ne 13, 3)) := fE fw_dX7_doStep_67_c 10 rfl
theorem dX7_doStep_86 : Eq (decode cX7_doStep 86) (Except.ok (Instr.aload_n 0, 1)) := fE fw_dX7_doStep_67_c 11 rfl
theorem dX7_doStep_87 : Eq (decode cX7_doStep 87) (Except.ok (Instr.dup, 1)) := fE fw_dX7_doStep_67_c 12 rfl
theorem dX7_doStep_88 : Eq (decode cX7_doStep 88) (Except.ok (Instr.getfield 236, 3)) := fE fw_dX7_doStep_67_c 13 rfl
theorem dX7_doStep_91 : Eq (decode cX7_doStep 91) (Except.ok (Instr.iconst 1, 1)) := fE fw_dX7_doStep_67_c 14 rfl
theorem dX7_doStep_92 : Eq (decode cX7_doStep 92) (Except.ok (Instr.iadd, 1)) := fE fw_dX7_doStep_67_c 15 rfl
theorem dX7_doStep_93 : Eq (decode cX7_doStep 93) (Except.ok (Instr.putfield 236, 3)) := fE fw_dX7_doStep_67_c 16 rfl
theorem dX7_doStep_96 : Eq (decode cX7_doStep 96) (Except.ok (Instr.aload_n 0, 1)) := fE fw_dX7_doStep_67_c 17 rfl
theorem dX7_doStep_97 : Eq (decode cX7_doStep 97) (Except.ok (Instr.invokevirtual 220, 3)) := fE fw_dX7_doStep_67_c 18 rfl
theorem dX7_doStep_100 : Eq (decode cX7_doStep 100) (Except.ok (Instr.iconst 0, 1)) := fE fw_dX7_doStep_67_c 19 rfl
def fw_dX7_doStep_101 : List (Nat × Instr × Nat) := [(101, .ireturn, 1)]
theorem fw_dX7_doStep_101_c : fchk 101 (cX7_doStep.data.toList.drop 101) fw_dX7_doStep_101 = true := by decide +kernel
theorem dX7_doStep_101 : Eq (decode cX7_doStep 101) (Except.ok (Instr.ireturn, 1)) := fE fw_dX7_doStep_101_c 0 rfl
def fw_dX7_isRegister_0 : List (Nat × Instr × Nat) := [(0, .iload_n 0, 1), (1, .ifCond .lt 13, 3), (4, .iload_n 0, 1), (5, .bipush 8, 2), (7, .if_icmp .ge 7, 3), (10, .iconst 1, 1), (11, .goto 4, 3), (14, .iconst 0, 1), (15, .ireturn, 1)]
theorem fw_dX7_isRegister_0_c : fchk 0 (cX7_isRegister.data.toList.drop 0) fw_dX7_isRegister_0 = true := by decide +kernel
theorem dX7_isRegister_0 : Eq (decode cX7_isRegister 0) (Except.ok (Instr.iload_n 0, 1)) := fE fw_dX7_isRegister_0_c 0 rfl
theorem dX7_isRegister_1 : Eq (decode cX7_isRegister 1) (Except.ok (Instr.ifCond .lt 13, 3)) := fE fw_dX7_isRegister_0_c 1 rfl
theorem dX7_isRegister_4 : Eq (decode cX7_isRegister 4) (Except.ok (Instr.iload_n 0, 1)) := fE fw_dX7_isRegister_0_c 2 rfl
theorem dX7_isRegister_5 : Eq (decode cX7_isRegister 5) (Except.ok (Instr.bipush 8, 2)) := fE fw_dX7_isRegister_0_c 3 rfl
theorem dX7_isRegister_7 : Eq (decode cX7_isRegister 7) (Except.ok (Instr.if_icmp .ge 7, 3)) := fE fw_dX7_isRegister_0_c 4 rfl
theorem dX7_isRegister_10 : Eq (decode cX7_isRegister 10) (Except.ok (Instr.iconst 1, 1)) := fE fw_dX7_isRegister_0_c 5 rfl
theorem dX7_isRegister_11 : Eq (decode cX7_isRegister 11) (Except.ok (Instr.goto 4, 3)) := fE fw_dX7_isRegister_0_c 6 rfl
theorem dX7_isRegister_14 : Eq (decode cX7_isRegister 14) (Except.ok (Instr.iconst 0, 1)) := fE fw_dX7_isRegister_0_c 7 rfl
theorem dX7_isRegister_15 : Eq (decode cX7_isRegister 15) (Except.ok (Instr.ireturn, 1)) := fE fw_dX7_isRegister_0_c 8 rfl
def fw_dX7_isCell_0 : List (Nat × Instr × Nat) := [(0, .lload_n 0, 1), (1, .lconst 0, 1), (2, .lcmp, 1), (3, .ifCond .lt 15, 3), (6, .lload_n 0, 1), (7, .ldc2_w 257, 3), (10, .lcmp, 1), (11, .ifCond .ge 7, 3), (14, .iconst 1, 1), (15, .goto 4, 3), (18, .iconst 0, 1), (19, .ireturn, 1)]
theorem fw_dX7_isCell_0_c : fchk 0 (cX7_isCell.data.toList.drop 0) fw_dX7_isCell_0 = true := by decide +kernel
theorem dX7_isCell_0 : Eq (decode cX7_isCell 0) (Except.ok (Instr.lload_n 0, 1)) := fE fw_dX7_isCell_0_c 0 rfl
theorem dX7_isCell_1 : Eq (decode cX7_isCell 1) (Except.ok (Instr.lconst 0, 1)) := fE fw_dX7_isCell_0_c 1 rfl
theorem dX7_isCell_2 : Eq (decode cX7_isCell 2) (Except.ok (Instr.lcmp, 1)) := fE fw_dX7_isCell_0_c 2 rfl
theorem dX7_isCell_3 : Eq (decode cX7_isCell 3) (Except.ok (Instr.ifCond .lt 15, 3)) := fE fw_dX7_isCell_0_c 3 rfl
theorem dX7_isCell_6 : Eq (decode cX7_isCell 6) (Except.ok (Instr.lload_n 0, 1)) := fE fw_dX7_isCell_0_c 4 rfl
theorem dX7_isCell_7 : Eq (decode cX7_isCell 7) (Except.ok (Instr.ldc2_w 257, 3)) := fE fw_dX7_isCell_0_c 5 rfl
theorem dX7_isCell_10 : Eq (decode cX7_isCell 10) (Except.ok (Instr.lcmp, 1)) := fE fw_dX7_isCell_0_c 6 rfl
theorem dX7_isCell_11 : Eq (decode cX7_isCell 11) (Except.ok (Instr.ifCond .ge 7, 3)) := fE fw_dX7_isCell_0_c 7 rfl
theorem dX7_isCell_14 : Eq (decode cX7_isCell 14) (Except.ok (Instr.iconst 1, 1)) := fE fw_dX7_isCell_0_c 8 rfl
theorem dX7_isCell_15 : Eq (decode cX7_isCell 15) (Except.ok (Instr.goto 4, 3)) := fE fw_dX7_isCell_0_c 9 rfl
theorem dX7_isCell_18 : Eq (decode cX7_isCell 18) (Except.ok (Instr.iconst 0, 1)) := fE fw_dX7_isCell_0_c 10 rfl
theorem dX7_isCell_19 : Eq (decode cX7_isCell 19) (Except.ok (Instr.ireturn, 1)) := fE fw_dX7_isCell_0_c 11 rfl
def fw_dX7_isInstruction_0 : List (Nat × Instr × Nat) := [(0, .iload_n 0, 1), (1, .ifCond .lt 13, 3), (4, .iload_n 0, 1), (5, .bipush 12, 2), (7, .if_icmp .ge 7, 3), (10, .iconst 1, 1), (11, .goto 4, 3), (14, .iconst 0, 1), (15, .ireturn, 1)]
theorem fw_dX7_isInstruction_0_c : fchk 0 (cX7_isInstruction.data.toList.drop 0) fw_dX7_isInstruction_0 = true := by decide +kernel
theorem dX7_isInstruction_0 : Eq (decode cX7_isInstruction 0) (Except.ok (Instr.iload_n 0, 1)) := fE fw_dX7_isInstruction_0_c 0 rfl
theorem dX7_isInstruction_1 : Eq (decode cX7_isInstruction 1) (Except.ok (Instr.ifCond .lt 13, 3)) := fE fw_dX7_isInstruction_0_c 1 rfl
theorem dX7_isInstruction_4 : Eq (decode cX7_isInstruction 4) (Except.ok (Instr.iload_n 0, 1)) := fE fw_dX7_isInstruction_0_c 2 rfl
theorem dX7_isInstruction_5 : Eq (decode cX7_isInstruction 5) (Except.ok (Instr.bipush 12, 2)) := fE fw_dX7_isInstruction_0_c 3 rfl
theorem dX7_isInstruction_7 : Eq (decode cX7_isInstruction 7) (Except.ok (Instr.if_icmp .ge 7, 3)) := fE fw_dX7_isInstruction_0_c 4 rfl
theorem dX7_isInstruction_10 : Eq (decode cX7_isInstruction 10) (Except.ok (Instr.iconst 1, 1)) := fE fw_dX7_isInstruction_0_c 5 rfl
theorem dX7_isInstruction_11 : Eq (decode cX7_isInstruction 11) (Except.ok (Instr.goto 4, 3)) := fE fw_dX7_isInstruction_0_c 6 rfl
theorem dX7_isInstruction_14 : Eq (decode cX7_isInstruction 14) (Except.ok (Instr.iconst 0, 1)) := fE fw_dX7_isInstruction_0_c 7 rfl
theorem dX7_isInstruction_15 : Eq (decode cX7_isInstruction 15) (Except.ok (Instr.ireturn, 1)) := fE fw_dX7_isInstruction_0_c 8 rfl
set_option maxRecDepth 20000 in
theorem gi_wsX7_isAct_0 : GoodIn wsX7_isAct wsX7_isAct := goodIn_sub (fun _ h => h) (by decide +kernel)
def bs_wsX7_isAct : List (List Cond) := [wsX7_isAct]
theorem bs_wsX7_isAct_in : ∀ b ∈ bs_wsX7_isAct, GoodIn wsX7_isAct b := List.forall_mem_cons.mpr ⟨gi_wsX7_isAct_0, (fun _ h => absurd h List.not_mem_nil)⟩
set_option maxRecDepth 20000 in
theorem ggX7_isAct_X7_isOfSort : GoodIn wsX7_isAct wsX7_isOfSort := goodIn_k (gi_q bs_wsX7_isAct_in _ [(0, 7)] rfl) (gi_q bs_wsX7_isAct_in _ [(0, 8), (0, 9)] rfl)
set_option maxRecDepth 20000 in
theorem gX7_isAct_X7_isOfSort : GoodIn wsX7_isAct (va_wsS RX7 264 yX7_isOfSort wsX7_isOfSort) := goodIn_app (gi_q bs_wsX7_isAct_in _ [(0, 4), (0, 5), (0, 6)] rfl) ggX7_isAct_X7_isOfSort
def fw_dX7_isAct_0 : List (Nat × Instr × Nat) := [(0, .iload_n 0, 1), (1, .ifCond .lt 49, 3), (4, .iload_n 0, 1), (5, .bipush 11, 2), (7, .if_icmp .ge 43, 3), (10, .getstatic 261, 3), (13, .iload_n 0, 1), (14, .iaload, 1), (15, .iload_n 1, 1), (16, .invokestatic 264, 3), (19, .ifCond .eq 31, 3), (22, .getstatic 267, 3), (25, .iload_n 0, 1), (26, .iaload, 1), (27, .iload_n 2, 1), (28, .invokestatic 264, 3), (31, .ifCond .eq 19, 3), (34, .getstatic 270, 3), (37, .iload_n 0, 1), (38, .iaload, 1)]
theorem fw_dX7_isAct_0_c : fchk 0 (cX7_isAct.data.toList.drop 0) fw_dX7_isAct_0 = true := by decide +kernel
theorem dX7_isAct_0 : Eq (decode cX7_isAct 0) (Except.ok (Instr.iload_n 0, 1)) := fE fw_dX7_isAct_0_c 0 rfl
theorem dX7_isAct_1 : Eq (decode cX7_isAct 1) (Except.ok (Instr.ifCond .lt 49, 3)) := fE fw_dX7_isAct_0_c 1 rfl
theorem dX7_isAct_4 : Eq (decode cX7_isAct 4) (Except.ok (Instr.iload_n 0, 1)) := fE fw_dX7_isAct_0_c 2 rfl
theorem dX7_isAct_5 : Eq (decode cX7_isAct 5) (Except.ok (Instr.bipush 11, 2)) := fE fw_dX7_isAct_0_c 3 rfl
theorem dX7_isAct_7 : Eq (decode cX7_isAct 7) (Except.ok (Instr.if_icmp .ge 43, 3)) := fE fw_dX7_isAct_0_c 4 rfl
theorem dX7_isAct_10 : Eq (decode cX7_isAct 10) (Except.ok (Instr.getstatic 261, 3)) := fE fw_dX7_isAct_0_c 5 rfl
theorem dX7_isAct_13 : Eq (decode cX7_isAct 13) (Except.ok (Instr.iload_n 0, 1)) := fE fw_dX7_isAct_0_c 6 rfl
theorem dX7_isAct_14 : Eq (decode cX7_isAct 14) (Except.ok (Instr.iaload, 1)) := fE fw_dX7_isAct_0_c 7 rfl
theorem dX7_isAct_15 : Eq (decode cX7_isAct 15) (Except.ok (Instr.iload_n 1, 1)) := fE fw_dX7_isAct_0_c 8 rfl
theorem dX7_isAct_16 : Eq (decode cX7_isAct 16) (Except.ok (Instr.invokestatic 264, 3)) := fE fw_dX7_isAct_0_c 9 rfl
theorem dX7_isAct_19 : Eq (decode cX7_isAct 19) (Except.ok (Instr.ifCond .eq 31, 3)) := fE fw_dX7_isAct_0_c 10 rfl
theorem dX7_isAct_22 : Eq (decode cX7_isAct 22) (Except.ok (Instr.getstatic 267, 3)) := fE fw_dX7_isAct_0_c 11 rfl
theorem dX7_isAct_25 : Eq (decode cX7_isAct 25) (Except.ok (Instr.iload_n 0, 1)) := fE fw_dX7_isAct_0_c 12 rfl
theorem dX7_isAct_26 : Eq (decode cX7_isAct 26) (Except.ok (Instr.iaload, 1)) := fE fw_dX7_isAct_0_c 13 rfl
theorem dX7_isAct_27 : Eq (decode cX7_isAct 27) (Except.ok (Instr.iload_n 2, 1)) := fE fw_dX7_isAct_0_c 14 rfl
theorem dX7_isAct_28 : Eq (decode cX7_isAct 28) (Except.ok (Instr.invokestatic 264, 3)) := fE fw_dX7_isAct_0_c 15 rfl
theorem dX7_isAct_31 : Eq (decode cX7_isAct 31) (Except.ok (Instr.ifCond .eq 19, 3)) := fE fw_dX7_isAct_0_c 16 rfl
theorem dX7_isAct_34 : Eq (decode cX7_isAct 34) (Except.ok (Instr.getstatic 270, 3)) := fE fw_dX7_isAct_0_c 17 rfl
theorem dX7_isAct_37 : Eq (decode cX7_isAct 37) (Except.ok (Instr.iload_n 0, 1)) := fE fw_dX7_isAct_0_c 18 rfl
theorem dX7_isAct_38 : Eq (decode cX7_isAct 38) (Except.ok (Instr.iaload, 1)) := fE fw_dX7_isAct_0_c 19 rfl
def fw_dX7_isAct_39 : List (Nat × Instr × Nat) := [(39, .iload_n 3, 1), (40, .invokestatic 264, 3), (43, .ifCond .eq 7, 3), (46, .iconst 1, 1), (47, .goto 4, 3), (50, .iconst 0, 1), (51, .ireturn, 1)]
theorem fw_dX7_isAct_39_c : fchk 39 (cX7_isAct.data.toList.drop 39) fw_dX7_isAct_39 = true := by decide +kernel
theorem dX7_isAct_39 : Eq (decode cX7_isAct 39) (Except.ok (Instr.iload_n 3, 1)) := fE fw_dX7_isAct_39_c 0 rfl
theorem dX7_isAct_40 : Eq (decode cX7_isAct 40) (Except.ok (Instr.invokestatic 264, 3)) := fE fw_dX7_isAct_39_c 1 rfl
theorem dX7_isAct_43 : Eq (decode cX7_isAct 43) (Except.ok (Instr.ifCond .eq 7, 3)) := fE fw_dX7_isAct_39_c 2 rfl
theorem dX7_isAct_46 : Eq (decode cX7_isAct 46) (Except.ok (Instr.iconst 1, 1)) := fE fw_dX7_isAct_39_c 3 rfl
theorem dX7_isAct_47 : Eq (decode cX7_isAct 47) (Except.ok (Instr.goto 4, 3)) := fE fw_dX7_isAct_39_c 4 rfl
theorem dX7_isAct_50 : Eq (decode cX7_isAct 50) (Except.ok (Instr.iconst 0, 1)) := fE fw_dX7_isAct_39_c 5 rfl
theorem dX7_isAct_51 : Eq (decode cX7_isAct 51) (Except.ok (Instr.ireturn, 1)) := fE fw_dX7_isAct_39_c 6 rfl
def fw_dX7_isOfSort_0 : List (Nat × Instr × Nat) := [(0, .iload_n 0, 1), (1, .ifCond .eq 21, 3), (4, .iload_n 1, 1), (5, .getstatic 273, 3), (8, .iload_n 0, 1), (9, .iaload, 1), (10, .if_icmp .lt 16, 3), (13, .iload_n 1, 1), (14, .getstatic 276, 3), (17, .iload_n 0, 1), (18, .iaload, 1), (19, .if_icmp .gt 7, 3), (22, .iconst 1, 1), (23, .goto 4, 3), (26, .iconst 0, 1), (27, .ireturn, 1)]
theorem fw_dX7_isOfSort_0_c : fchk 0 (cX7_isOfSort.data.toList.drop 0) fw_dX7_isOfSort_0 = true := by decide +kernel
theorem dX7_isOfSort_0 : Eq (decode cX7_isOfSort 0) (Except.ok (Instr.iload_n 0, 1)) := fE fw_dX7_isOfSort_0_c 0 rfl
theorem dX7_isOfSort_1 : Eq (decode cX7_isOfSort 1) (Except.ok (Instr.ifCond .eq 21, 3)) := fE fw_dX7_isOfSort_0_c 1 rfl
theorem dX7_isOfSort_4 : Eq (decode cX7_isOfSort 4) (Except.ok (Instr.iload_n 1, 1)) := fE fw_dX7_isOfSort_0_c 2 rfl
theorem dX7_isOfSort_5 : Eq (decode cX7_isOfSort 5) (Except.ok (Instr.getstatic 273, 3)) := fE fw_dX7_isOfSort_0_c 3 rfl
theorem dX7_isOfSort_8 : Eq (decode cX7_isOfSort 8) (Except.ok (Instr.iload_n 0, 1)) := fE fw_dX7_isOfSort_0_c 4 rfl
theorem dX7_isOfSort_9 : Eq (decode cX7_isOfSort 9) (Except.ok (Instr.iaload, 1)) := fE fw_dX7_isOfSort_0_c 5 rfl
theorem dX7_isOfSort_10 : Eq (decode cX7_isOfSort 10) (Except.ok (Instr.if_icmp .lt 16, 3)) := fE fw_dX7_isOfSort_0_c 6 rfl
theorem dX7_isOfSort_13 : Eq (decode cX7_isOfSort 13) (Except.ok (Instr.iload_n 1, 1)) := fE fw_dX7_isOfSort_0_c 7 rfl
theorem dX7_isOfSort_14 : Eq (decode cX7_isOfSort 14) (Except.ok (Instr.getstatic 276, 3)) := fE fw_dX7_isOfSort_0_c 8 rfl
theorem dX7_isOfSort_17 : Eq (decode cX7_isOfSort 17) (Except.ok (Instr.iload_n 0, 1)) := fE fw_dX7_isOfSort_0_c 9 rfl
theorem dX7_isOfSort_18 : Eq (decode cX7_isOfSort 18) (Except.ok (Instr.iaload, 1)) := fE fw_dX7_isOfSort_0_c 10 rfl
theorem dX7_isOfSort_19 : Eq (decode cX7_isOfSort 19) (Except.ok (Instr.if_icmp .gt 7, 3)) := fE fw_dX7_isOfSort_0_c 11 rfl
theorem dX7_isOfSort_22 : Eq (decode cX7_isOfSort 22) (Except.ok (Instr.iconst 1, 1)) := fE fw_dX7_isOfSort_0_c 12 rfl
theorem dX7_isOfSort_23 : Eq (decode cX7_isOfSort 23) (Except.ok (Instr.goto 4, 3)) := fE fw_dX7_isOfSort_0_c 13 rfl
theorem dX7_isOfSort_26 : Eq (decode cX7_isOfSort 26) (Except.ok (Instr.iconst 0, 1)) := fE fw_dX7_isOfSort_0_c 14 rfl
theorem dX7_isOfSort_27 : Eq (decode cX7_isOfSort 27) (Except.ok (Instr.ireturn, 1)) := fE fw_dX7_isOfSort_0_c 15 rfl
def fw_dX7_slot_0 : List (Nat × Instr × Nat) := [(0, .iload_n 0, 1), (1, .bipush 10, 2), (3, .imul, 1), (4, .iload_n 1, 1), (5, .iadd, 1), (6, .ireturn, 1)]
theorem fw_dX7_slot_0_c : fchk 0 (cX7_slot.data.toList.drop 0) fw_dX7_slot_0 = true := by decide +kernel
theorem dX7_slot_0 : Eq (decode cX7_slot 0) (Except.ok (Instr.iload_n 0, 1)) := fE fw_dX7_slot_0_c 0 rfl
theorem dX7_slot_1 : Eq (decode cX7_slot 1) (Except.ok (Instr.bipush 10, 2)) := fE fw_dX7_slot_0_c 1 rfl
theorem dX7_slot_3 : Eq (decode cX7_slot 3) (Except.ok (Instr.imul, 1)) := fE fw_dX7_slot_0_c 2 rfl
theorem dX7_slot_4 : Eq (decode cX7_slot 4) (Except.ok (Instr.iload_n 1, 1)) := fE fw_dX7_slot_0_c 3 rfl
theorem dX7_slot_5 : Eq (decode cX7_slot 5) (Except.ok (Instr.iadd, 1)) := fE fw_dX7_slot_0_c 4 rfl
theorem dX7_slot_6 : Eq (decode cX7_slot 6) (Except.ok (Instr.ireturn, 1)) := fE fw_dX7_slot_0_c 5 rfl
def fw_dX7_isIn_0 : List (Nat × Instr × Nat) := [(0, .iload_n 0, 1), (1, .iload_n 1, 1), (2, .ishr, 1), (3, .iconst 1, 1), (4, .iand, 1), (5, .ifCond .eq 7, 3), (8, .iconst 1, 1), (9, .goto 4, 3), (12, .iconst 0, 1), (13, .ireturn, 1)]
theorem fw_dX7_isIn_0_c : fchk 0 (cX7_isIn.data.toList.drop 0) fw_dX7_isIn_0 = true := by decide +kernel
theorem dX7_isIn_0 : Eq (decode cX7_isIn 0) (Except.ok (Instr.iload_n 0, 1)) := fE fw_dX7_isIn_0_c 0 rfl
theorem dX7_isIn_1 : Eq (decode cX7_isIn 1) (Except.ok (Instr.iload_n 1, 1)) := fE fw_dX7_isIn_0_c 1 rfl
theorem dX7_isIn_2 : Eq (decode cX7_isIn 2) (Except.ok (Instr.ishr, 1)) := fE fw_dX7_isIn_0_c 2 rfl
theorem dX7_isIn_3 : Eq (decode cX7_isIn 3) (Except.ok (Instr.iconst 1, 1)) := fE fw_dX7_isIn_0_c 3 rfl
theorem dX7_isIn_4 : Eq (decode cX7_isIn 4) (Except.ok (Instr.iand, 1)) := fE fw_dX7_isIn_0_c 4 rfl
theorem dX7_isIn_5 : Eq (decode cX7_isIn 5) (Except.ok (Instr.ifCond .eq 7, 3)) := fE fw_dX7_isIn_0_c 5 rfl
theorem dX7_isIn_8 : Eq (decode cX7_isIn 8) (Except.ok (Instr.iconst 1, 1)) := fE fw_dX7_isIn_0_c 6 rfl
theorem dX7_isIn_9 : Eq (decode cX7_isIn 9) (Except.ok (Instr.goto 4, 3)) := fE fw_dX7_isIn_0_c 7 rfl
theorem dX7_isIn_12 : Eq (decode cX7_isIn 12) (Except.ok (Instr.iconst 0, 1)) := fE fw_dX7_isIn_0_c 8 rfl
theorem dX7_isIn_13 : Eq (decode cX7_isIn 13) (Except.ok (Instr.ireturn, 1)) := fE fw_dX7_isIn_0_c 9 rfl
